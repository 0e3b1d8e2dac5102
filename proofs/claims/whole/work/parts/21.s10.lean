/-! The formulas are sound for the small machine. Written by wip/whole/gen_wp.py, split_wp.py -/
set_option maxRecDepth 100000 in
set_option maxHeartbeats 4000000 in
theorem s_286_103 (kc : it_Kc) (Φ : it_Me → Prop) (K3 : Int32 → Int32 → Int32 → Int32 → it_Me → Prop) (K49 : Int32 → Int32 → Int32 → Int32 → Int32 → it_Me → Prop) (K109 : Int32 → Int32 → Int32 → it_Me → Prop) (hK3 : ∀ (v1 : Int32) (v2 : Int32) (v3 : Int32) (v4 : Int32) (m : it_Me), K3 v1 v2 v3 v4 m → it_V kc it_sh0 286 3 [some (.ref 66), some (.int v1), some (.int v2), some (.int v3), some (.int v4), none, none, none, none] [] m (it_Pv Φ)) (hK49 : ∀ (v1 : Int32) (v2 : Int32) (v3 : Int32) (v4 : Int32) (v5 : Int32) (m : it_Me), K49 v1 v2 v3 v4 v5 m → it_V kc it_sh0 286 49 [some (.ref 66), some (.int v1), some (.int v2), some (.int v3), some (.int v4), some (.int v5), none, none, none] [] m (it_Pv Φ)) (hK109 : ∀ (v1 : Int32) (v2 : Int32) (v3 : Int32) (m : it_Me), K109 v1 v2 v3 m → it_V kc it_sh0 286 109 [some (.ref 66), some (.int v1), some (.int v2), some (.int v3), none, none, none, none, none] [] m (it_Pv Φ)) (v1 : Int32) (v2 : Int32) (v3 : Int32) (v4 : Int32) (m : it_Me) (h : w_286_103 kc Φ K3 K49 K109 v1 v2 v3 v4 m) : it_V kc it_sh0 286 103 [some (.ref 66), some (.int v1), some (.int v2), some (.int v3), some (.int v4), none, none, none, none] [] m (it_Pv Φ) := by
  rw [w_286_103] at h
  refine it_V.sN it_cd286 it_m286 2 (pc1 := 3) (ls1 := [some (.ref 66), some (.int v1), some (.int v2), some (.int v3), some (.int (v4 + (1 : Int32))), none, none, none, none]) (st1 := []) (mem1 := m) rfl ?_
  refine it_V.weak (l := [some (.ref 66), some (.int v1), some (.int v2), some (.int v3), some (.int (v4 + (1 : Int32))), none, none, none, none]) ⟨rfl, ⟨rfl, ⟨rfl, ⟨rfl, ⟨rfl, trivial⟩⟩⟩⟩⟩ ?_
  exact hK3 v1 v2 v3 (v4 + (1 : Int32)) m h
set_option maxRecDepth 100000 in
set_option maxHeartbeats 4000000 in
theorem s_286_3 (kc : it_Kc) (Φ : it_Me → Prop) (K49 : Int32 → Int32 → Int32 → Int32 → Int32 → it_Me → Prop) (K109 : Int32 → Int32 → Int32 → it_Me → Prop) (hK49 : ∀ (v1 : Int32) (v2 : Int32) (v3 : Int32) (v4 : Int32) (v5 : Int32) (m : it_Me), K49 v1 v2 v3 v4 v5 m → it_V kc it_sh0 286 49 [some (.ref 66), some (.int v1), some (.int v2), some (.int v3), some (.int v4), some (.int v5), none, none, none] [] m (it_Pv Φ)) (hK109 : ∀ (v1 : Int32) (v2 : Int32) (v3 : Int32) (m : it_Me), K109 v1 v2 v3 m → it_V kc it_sh0 286 109 [some (.ref 66), some (.int v1), some (.int v2), some (.int v3), none, none, none, none, none] [] m (it_Pv Φ)) : ∀ (n : Nat) (v1 : Int32) (v2 : Int32) (v3 : Int32) (v4 : Int32) (m : it_Me) (h : w_286_3 kc Φ K49 K109 n v1 v2 v3 v4 m), it_V kc it_sh0 286 3 [some (.ref 66), some (.int v1), some (.int v2), some (.int v3), some (.int v4), none, none, none, none] [] m (it_Pv Φ) := by
  intro n
  induction n with
  | zero => intro v1 v2 v3 v4 m h; exact absurd h id
  | succ n ih =>
    intro v1 v2 v3 v4 m h
    rw [w_286_3] at h
    refine it_V.sN it_cd286 it_m286 4 (pc1 := 10) (ls1 := [some (.ref 66), some (.int v1), some (.int v2), some (.int v3), some (.int v4), none, none, none, none]) (st1 := [(.int v1), (.ref 110), (.int v4)]) (mem1 := m) rfl ?_
    obtain ⟨g1, h⟩ := h
    refine it_V.iald it_cd286 it_m286 rfl ((⟨rfl, by decide⟩ : it_isR 110 8)).2 ((⟨rfl, by decide⟩ : it_isR 110 8)).1 g1 ?_
    refine it_V.at (pc1 := 11) (ls1 := [some (.ref 66), some (.int v1), some (.int v2), some (.int v3), some (.int v4), none, none, none, none]) (st1 := [(.int (m 110 (Int32.toNatClampNeg v1))), (.int v4)]) (mem1 := m) rfl rfl rfl rfl ?_
    refine it_V.sN it_cd286 it_m286 1 (pc1 := (if (m 110 (Int32.toNatClampNeg v1)) ≤ v4 then 109 else 14)) (ls1 := [some (.ref 66), some (.int v1), some (.int v2), some (.int v3), some (.int v4), none, none, none, none]) (st1 := []) (mem1 := m) rfl ?_
    refine it_V.ite (fun c2 => ?_) (fun c2 => ?_)
    · have h := h.1 c2
      refine it_V.weak (l := [some (.ref 66), some (.int v1), some (.int v2), some (.int v3), none, none, none, none, none]) ⟨rfl, ⟨rfl, ⟨rfl, ⟨rfl, trivial⟩⟩⟩⟩ ?_
      exact hK109 v1 v2 v3 m h
    · have h := h.2 c2
      refine it_V.sN it_cd286 it_m286 11 (pc1 := 31) (ls1 := [some (.ref 66), some (.int v1), some (.int v2), some (.int v3), some (.int v4), some (.int (((50 : Int32) * v1) + ((5 : Int32) * v4))), none, none, none]) (st1 := [(.int (((50 : Int32) * v1) + ((5 : Int32) * v4))), (.ref 109)]) (mem1 := m) rfl ?_
      obtain ⟨g3, h⟩ := h
      refine it_V.iald it_cd286 it_m286 rfl ((⟨rfl, by decide⟩ : it_isR 109 400)).2 ((⟨rfl, by decide⟩ : it_isR 109 400)).1 g3 ?_
      refine it_V.at (pc1 := 32) (ls1 := [some (.ref 66), some (.int v1), some (.int v2), some (.int v3), some (.int v4), some (.int (((50 : Int32) * v1) + ((5 : Int32) * v4))), none, none, none]) (st1 := [(.int (m 109 (Int32.toNatClampNeg (((50 : Int32) * v1) + ((5 : Int32) * v4)))))]) (mem1 := m) rfl rfl rfl rfl ?_
      refine it_V.sN it_cd286 it_m286 2 (pc1 := (if (m 109 (Int32.toNatClampNeg (((50 : Int32) * v1) + ((5 : Int32) * v4)))) = v2 then 36 else 103)) (ls1 := [some (.ref 66), some (.int v1), some (.int v2), some (.int v3), some (.int v4), some (.int (((50 : Int32) * v1) + ((5 : Int32) * v4))), none, none, none]) (st1 := []) (mem1 := m) rfl ?_
      refine it_V.ite (fun c4 => ?_) (fun c4 => ?_)
      · have h := h.1 c4
        refine it_V.sN it_cd286 it_m286 5 (pc1 := 44) (ls1 := [some (.ref 66), some (.int v1), some (.int v2), some (.int v3), some (.int v4), some (.int (((50 : Int32) * v1) + ((5 : Int32) * v4))), none, none, none]) (st1 := [(.int ((((50 : Int32) * v1) + ((5 : Int32) * v4)) + (1 : Int32))), (.ref 109)]) (mem1 := m) rfl ?_
        obtain ⟨g5, h⟩ := h
        refine it_V.iald it_cd286 it_m286 rfl ((⟨rfl, by decide⟩ : it_isR 109 400)).2 ((⟨rfl, by decide⟩ : it_isR 109 400)).1 g5 ?_
        refine it_V.at (pc1 := 45) (ls1 := [some (.ref 66), some (.int v1), some (.int v2), some (.int v3), some (.int v4), some (.int (((50 : Int32) * v1) + ((5 : Int32) * v4))), none, none, none]) (st1 := [(.int (m 109 (Int32.toNatClampNeg ((((50 : Int32) * v1) + ((5 : Int32) * v4)) + (1 : Int32)))))]) (mem1 := m) rfl rfl rfl rfl ?_
        refine it_V.sN it_cd286 it_m286 2 (pc1 := (if (m 109 (Int32.toNatClampNeg ((((50 : Int32) * v1) + ((5 : Int32) * v4)) + (1 : Int32)))) = v3 then 49 else 103)) (ls1 := [some (.ref 66), some (.int v1), some (.int v2), some (.int v3), some (.int v4), some (.int (((50 : Int32) * v1) + ((5 : Int32) * v4))), none, none, none]) (st1 := []) (mem1 := m) rfl ?_
        refine it_V.ite (fun c6 => ?_) (fun c6 => ?_)
        · have h := h.1 c6
          refine it_V.weak (l := [some (.ref 66), some (.int v1), some (.int v2), some (.int v3), some (.int v4), some (.int (((50 : Int32) * v1) + ((5 : Int32) * v4))), none, none, none]) ⟨rfl, ⟨rfl, ⟨rfl, ⟨rfl, ⟨rfl, ⟨rfl, trivial⟩⟩⟩⟩⟩⟩ ?_
          exact hK49 v1 v2 v3 v4 (((50 : Int32) * v1) + ((5 : Int32) * v4)) m h
        · have h := h.2 c6
          refine it_V.weak (l := [some (.ref 66), some (.int v1), some (.int v2), some (.int v3), some (.int v4), none, none, none, none]) ⟨rfl, ⟨rfl, ⟨rfl, ⟨rfl, ⟨rfl, trivial⟩⟩⟩⟩⟩ ?_
          exact s_286_103 kc Φ _ _ _ ih hK49 hK109 v1 v2 v3 v4 m h
      · have h := h.2 c4
        refine it_V.weak (l := [some (.ref 66), some (.int v1), some (.int v2), some (.int v3), some (.int v4), none, none, none, none]) ⟨rfl, ⟨rfl, ⟨rfl, ⟨rfl, ⟨rfl, trivial⟩⟩⟩⟩⟩ ?_
        exact s_286_103 kc Φ _ _ _ ih hK49 hK109 v1 v2 v3 v4 m h
set_option maxRecDepth 100000 in
set_option maxHeartbeats 4000000 in
theorem s_286_49 (kc : it_Kc) (Φ : it_Me → Prop) (v1 : Int32) (v2 : Int32) (v3 : Int32) (v4 : Int32) (v5 : Int32) (m : it_Me) (h : w_286_49 kc Φ v1 v2 v3 v4 v5 m) : it_V kc it_sh0 286 49 [some (.ref 66), some (.int v1), some (.int v2), some (.int v3), some (.int v4), some (.int v5), none, none, none] [] m (it_Pv Φ) := by
  rw [w_286_49] at h
  refine it_V.sN it_cd286 it_m286 5 (pc1 := 57) (ls1 := [some (.ref 66), some (.int v1), some (.int v2), some (.int v3), some (.int v4), some (.int v5), none, none, none]) (st1 := [(.int (v5 + (2 : Int32))), (.ref 109)]) (mem1 := m) rfl ?_
  obtain ⟨g1, h⟩ := h
  refine it_V.iald it_cd286 it_m286 rfl ((⟨rfl, by decide⟩ : it_isR 109 400)).2 ((⟨rfl, by decide⟩ : it_isR 109 400)).1 g1 ?_
  refine it_V.at (pc1 := 58) (ls1 := [some (.ref 66), some (.int v1), some (.int v2), some (.int v3), some (.int v4), some (.int v5), none, none, none]) (st1 := [(.int (m 109 (Int32.toNatClampNeg (v5 + (2 : Int32)))))]) (mem1 := m) rfl rfl rfl rfl ?_
  refine it_V.sN it_cd286 it_m286 6 (pc1 := 68) (ls1 := [some (.ref 66), some (.int v1), some (.int v2), some (.int v3), some (.int v4), some (.int v5), some (.int (m 109 (Int32.toNatClampNeg (v5 + (2 : Int32))))), none, none]) (st1 := [(.int (v5 + (3 : Int32))), (.ref 109)]) (mem1 := m) rfl ?_
  obtain ⟨g2, h⟩ := h
  refine it_V.iald it_cd286 it_m286 rfl ((⟨rfl, by decide⟩ : it_isR 109 400)).2 ((⟨rfl, by decide⟩ : it_isR 109 400)).1 g2 ?_
  refine it_V.at (pc1 := 69) (ls1 := [some (.ref 66), some (.int v1), some (.int v2), some (.int v3), some (.int v4), some (.int v5), some (.int (m 109 (Int32.toNatClampNeg (v5 + (2 : Int32))))), none, none]) (st1 := [(.int (m 109 (Int32.toNatClampNeg (v5 + (3 : Int32)))))]) (mem1 := m) rfl rfl rfl rfl ?_
  refine it_V.sN it_cd286 it_m286 6 (pc1 := 79) (ls1 := [some (.ref 66), some (.int v1), some (.int v2), some (.int v3), some (.int v4), some (.int v5), some (.int (m 109 (Int32.toNatClampNeg (v5 + (2 : Int32))))), some (.int (m 109 (Int32.toNatClampNeg (v5 + (3 : Int32))))), none]) (st1 := [(.int (v5 + (4 : Int32))), (.ref 109)]) (mem1 := m) rfl ?_
  obtain ⟨g3, h⟩ := h
  refine it_V.iald it_cd286 it_m286 rfl ((⟨rfl, by decide⟩ : it_isR 109 400)).2 ((⟨rfl, by decide⟩ : it_isR 109 400)).1 g3 ?_
  refine it_V.at (pc1 := 80) (ls1 := [some (.ref 66), some (.int v1), some (.int v2), some (.int v3), some (.int v4), some (.int v5), some (.int (m 109 (Int32.toNatClampNeg (v5 + (2 : Int32))))), some (.int (m 109 (Int32.toNatClampNeg (v5 + (3 : Int32))))), none]) (st1 := [(.int (m 109 (Int32.toNatClampNeg (v5 + (4 : Int32)))))]) (mem1 := m) rfl rfl rfl rfl ?_
  refine it_V.sN it_cd286 it_m286 4 (pc1 := 86) (ls1 := [some (.ref 66), some (.int v1), some (.int v2), some (.int v3), some (.int v4), some (.int v5), some (.int (m 109 (Int32.toNatClampNeg (v5 + (2 : Int32))))), some (.int (m 109 (Int32.toNatClampNeg (v5 + (3 : Int32))))), some (.int (m 109 (Int32.toNatClampNeg (v5 + (4 : Int32)))))]) (st1 := [(.int v4), (.int v1), (.ref 66)]) (mem1 := m) rfl ?_
  refine it_V.call it_cd286 it_m286 rfl it_m277 [(.ref 66), (.int v1), (.int v4)] [] rfl rfl ⟨Nat.le_of_ble_eq_true rfl, Nat.le_of_ble_eq_true rfl, Nat.le_of_ble_eq_true rfl, Nat.le_of_ble_eq_true rfl, rfl⟩ (s_277 kc v1 v4 m _ h) ?_
  rintro _ m4 ⟨rfl, h⟩
  refine it_V.at (pc1 := 89) (ls1 := [some (.ref 66), some (.int v1), some (.int v2), some (.int v3), some (.int v4), some (.int v5), some (.int (m 109 (Int32.toNatClampNeg (v5 + (2 : Int32))))), some (.int (m 109 (Int32.toNatClampNeg (v5 + (3 : Int32))))), some (.int (m 109 (Int32.toNatClampNeg (v5 + (4 : Int32)))))]) (st1 := []) (mem1 := m4) rfl rfl rfl rfl ?_
  refine it_V.sN it_cd286 it_m286 7 (pc1 := 99) (ls1 := [some (.ref 66), some (.int v1), some (.int v2), some (.int v3), some (.int v4), some (.int v5), some (.int (m 109 (Int32.toNatClampNeg (v5 + (2 : Int32))))), some (.int (m 109 (Int32.toNatClampNeg (v5 + (3 : Int32))))), some (.int (m 109 (Int32.toNatClampNeg (v5 + (4 : Int32)))))]) (st1 := [(.int (m 109 (Int32.toNatClampNeg (v5 + (4 : Int32))))), (.int (m 109 (Int32.toNatClampNeg (v5 + (3 : Int32))))), (.int (m 109 (Int32.toNatClampNeg (v5 + (2 : Int32))))), (.int v3), (.int v2), (.int v1), (.ref 66)]) (mem1 := m4) rfl ?_
  refine it_V.call it_cd286 it_m286 rfl it_m275 [(.ref 66), (.int v1), (.int v2), (.int v3), (.int (m 109 (Int32.toNatClampNeg (v5 + (2 : Int32))))), (.int (m 109 (Int32.toNatClampNeg (v5 + (3 : Int32))))), (.int (m 109 (Int32.toNatClampNeg (v5 + (4 : Int32)))))] [] rfl rfl ⟨Nat.le_of_ble_eq_true rfl, Nat.le_of_ble_eq_true rfl, Nat.le_of_ble_eq_true rfl, Nat.le_of_ble_eq_true rfl, rfl⟩ (s_275 kc v1 v2 v3 (m 109 (Int32.toNatClampNeg (v5 + (2 : Int32)))) (m 109 (Int32.toNatClampNeg (v5 + (3 : Int32)))) (m 109 (Int32.toNatClampNeg (v5 + (4 : Int32)))) m4 _ h) ?_
  rintro _ m5 ⟨rfl, h⟩
  refine it_V.at (pc1 := 102) (ls1 := [some (.ref 66), some (.int v1), some (.int v2), some (.int v3), some (.int v4), some (.int v5), some (.int (m 109 (Int32.toNatClampNeg (v5 + (2 : Int32))))), some (.int (m 109 (Int32.toNatClampNeg (v5 + (3 : Int32))))), some (.int (m 109 (Int32.toNatClampNeg (v5 + (4 : Int32)))))]) (st1 := []) (mem1 := m5) rfl rfl rfl rfl ?_
  exact it_V.ret it_cd286 it_m286 rfl rfl ⟨rfl, h⟩
set_option maxRecDepth 100000 in
set_option maxHeartbeats 4000000 in
theorem s_286_109 (kc : it_Kc) (Φ : it_Me → Prop) (v1 : Int32) (v2 : Int32) (v3 : Int32) (m : it_Me) (h : w_286_109 kc Φ v1 v2 v3 m) : it_V kc it_sh0 286 109 [some (.ref 66), some (.int v1), some (.int v2), some (.int v3), none, none, none, none, none] [] m (it_Pv Φ) := by
  rw [w_286_109] at h
  refine it_V.sN it_cd286 it_m286 4 (pc1 := 115) (ls1 := [some (.ref 66), some (.int v1), some (.int v2), some (.int v3), none, none, none, none, none]) (st1 := [(.int (3 : Int32)), (.int v1), (.ref 95)]) (mem1 := m) rfl ?_
  obtain ⟨g1, h⟩ := h
  refine it_V.iast it_cd286 it_m286 rfl ((⟨rfl, by decide⟩ : it_isR 95 8)).1 g1 ?_
  refine it_V.at (pc1 := 116) (ls1 := [some (.ref 66), some (.int v1), some (.int v2), some (.int v3), none, none, none, none, none]) (st1 := []) (mem1 := (it_sv m 95 (Int32.toNatClampNeg v1) (3 : Int32))) rfl rfl rfl rfl ?_
  refine it_V.sN it_cd286 it_m286 4 (pc1 := 122) (ls1 := [some (.ref 66), some (.int v1), some (.int v2), some (.int v3), none, none, none, none, none]) (st1 := [(.int v2), (.int v1), (.ref 98)]) (mem1 := (it_sv m 95 (Int32.toNatClampNeg v1) (3 : Int32))) rfl ?_
  obtain ⟨g2, h⟩ := h
  refine it_V.iast it_cd286 it_m286 rfl ((⟨rfl, by decide⟩ : it_isR 98 8)).1 g2 ?_
  refine it_V.at (pc1 := 123) (ls1 := [some (.ref 66), some (.int v1), some (.int v2), some (.int v3), none, none, none, none, none]) (st1 := []) (mem1 := (it_sv (it_sv m 95 (Int32.toNatClampNeg v1) (3 : Int32)) 98 (Int32.toNatClampNeg v1) v2)) rfl rfl rfl rfl ?_
  refine it_V.sN it_cd286 it_m286 4 (pc1 := 129) (ls1 := [some (.ref 66), some (.int v1), some (.int v2), some (.int v3), none, none, none, none, none]) (st1 := [(.int v3), (.int v1), (.ref 99)]) (mem1 := (it_sv (it_sv m 95 (Int32.toNatClampNeg v1) (3 : Int32)) 98 (Int32.toNatClampNeg v1) v2)) rfl ?_
  obtain ⟨g3, h⟩ := h
  refine it_V.iast it_cd286 it_m286 rfl ((⟨rfl, by decide⟩ : it_isR 99 8)).1 g3 ?_
  refine it_V.at (pc1 := 130) (ls1 := [some (.ref 66), some (.int v1), some (.int v2), some (.int v3), none, none, none, none, none]) (st1 := []) (mem1 := (it_sv (it_sv (it_sv m 95 (Int32.toNatClampNeg v1) (3 : Int32)) 98 (Int32.toNatClampNeg v1) v2) 99 (Int32.toNatClampNeg v1) v3)) rfl rfl rfl rfl ?_
  exact it_V.ret it_cd286 it_m286 rfl rfl ⟨rfl, h⟩
set_option maxRecDepth 100000 in
set_option maxHeartbeats 4000000 in
theorem s_286 (kc : it_Kc) (x0 : Int32) (x1 : Int32) (x2 : Int32) (m : it_Me) (Φ : it_Me → Prop) (h : w_286 kc x0 x1 x2 m Φ) : it_V kc it_sh0 286 0 (it_loc0 [(.ref 66), (.int x0), (.int x1), (.int x2)] 9) [] m (it_Pv Φ) := by
  rw [w_286] at h
  refine it_V.at (pc1 := 0) (ls1 := [some (.ref 66), some (.int x0), some (.int x1), some (.int x2), none, none, none, none, none]) (st1 := []) (mem1 := m) rfl rfl rfl rfl ?_
  refine it_V.sN it_cd286 it_m286 2 (pc1 := 3) (ls1 := [some (.ref 66), some (.int x0), some (.int x1), some (.int x2), some (.int (0 : Int32)), none, none, none, none]) (st1 := []) (mem1 := m) rfl ?_
  obtain ⟨n, h⟩ := h
  exact s_286_3 kc Φ _ _ (fun v1 v2 v3 v4 v5 m h => s_286_49 kc Φ v1 v2 v3 v4 v5 m h) (fun v1 v2 v3 m h => s_286_109 kc Φ v1 v2 v3 m h) n x0 x1 x2 (0 : Int32) m h
set_option maxRecDepth 100000 in
set_option maxHeartbeats 4000000 in
theorem s_285_120 (kc : it_Kc) (Φ : it_Me → Prop) (m : it_Me) (h : w_285_120 kc Φ m) : it_V kc it_sh0 285 120 [none, none, none, none, none, none] [] m (it_Pv Φ) := by
  rw [w_285_120] at h
  exact it_V.ret it_cd285 it_m285 rfl rfl ⟨rfl, h⟩
set_option maxRecDepth 100000 in
set_option maxHeartbeats 4000000 in
theorem s_285_62 (kc : it_Kc) (Φ : it_Me → Prop) (m : it_Me) (h : w_285_62 kc Φ m) : it_V kc it_sh0 285 62 [none, none, none, none, none, none] [] m (it_Pv Φ) := by
  rw [w_285_62] at h
  refine it_V.sN it_cd285 it_m285 1 (pc1 := 120) (ls1 := [none, none, none, none, none, none]) (st1 := []) (mem1 := m) rfl ?_
  refine it_V.weak (l := [none, none, none, none, none, none]) trivial ?_
  exact s_285_120 kc Φ m h
set_option maxRecDepth 100000 in
set_option maxHeartbeats 4000000 in
theorem s_285_52 (kc : it_Kc) (Φ : it_Me → Prop) (v1 : Int32) (v5 : Int32) (m : it_Me) (h : w_285_52 kc Φ v1 v5 m) : it_V kc it_sh0 285 52 [some (.ref 66), some (.int v1), none, none, none, some (.int v5)] [] m (it_Pv Φ) := by
  rw [w_285_52] at h
  refine it_V.sN it_cd285 it_m285 2 (pc1 := (if v5 = 0 then 62 else 57)) (ls1 := [some (.ref 66), some (.int v1), none, none, none, some (.int v5)]) (st1 := []) (mem1 := m) rfl ?_
  refine it_V.ite (fun c1 => ?_) (fun c1 => ?_)
  · have h := h.1 c1
    refine it_V.weak (l := [none, none, none, none, none, none]) trivial ?_
    exact s_285_62 kc Φ m h
  · have h := h.2 c1
    refine it_V.sN it_cd285 it_m285 2 (pc1 := 59) (ls1 := [some (.ref 66), some (.int v1), none, none, none, some (.int v5)]) (st1 := [(.int v1), (.ref 66)]) (mem1 := m) rfl ?_
    refine it_V.call it_cd285 it_m285 rfl it_m278 [(.ref 66), (.int v1)] [] rfl rfl ⟨Nat.le_of_ble_eq_true rfl, Nat.le_of_ble_eq_true rfl, Nat.le_of_ble_eq_true rfl, Nat.le_of_ble_eq_true rfl, rfl⟩ (s_278 kc v1 m _ h) ?_
    rintro _ m2 ⟨rfl, h⟩
    refine it_V.at (pc1 := 62) (ls1 := [some (.ref 66), some (.int v1), none, none, none, some (.int v5)]) (st1 := []) (mem1 := m2) rfl rfl rfl rfl ?_
    refine it_V.weak (l := [none, none, none, none, none, none]) trivial ?_
    exact s_285_62 kc Φ m2 h
set_option maxRecDepth 100000 in
set_option maxHeartbeats 4000000 in
theorem s_285_50 (kc : it_Kc) (Φ : it_Me → Prop) (v1 : Int32) (v5 : Int32) (u1 : Int32) (u2 : Int32) (m : it_Me) (h : w_285_50 kc Φ v1 v5 u1 u2 m) : it_V kc it_sh0 285 50 [some (.ref 66), some (.int v1), none, none, none, some (.int v5)] [(.int u2), (.int u1), (.ref 67)] m (it_Pv Φ) := by
  rw [w_285_50] at h
  refine it_V.sN it_cd285 it_m285 1 (pc1 := 51) (ls1 := [some (.ref 66), some (.int v1), none, none, none, some (.int v5)]) (st1 := [(.int (it_i2b u2)), (.int u1), (.ref 67)]) (mem1 := m) rfl ?_
  obtain ⟨g1, h⟩ := h
  refine it_V.bast (n := 196608) it_cd285 it_m285 rfl rfl g1 ?_
  refine it_V.at (pc1 := 52) (ls1 := [some (.ref 66), some (.int v1), none, none, none, some (.int v5)]) (st1 := []) (mem1 := (it_sv m 67 (Int32.toNatClampNeg u1) (it_i2b (it_i2b u2)))) rfl rfl rfl rfl ?_
  refine it_V.weak (l := [some (.ref 66), some (.int v1), none, none, none, some (.int v5)]) ⟨rfl, ⟨rfl, ⟨rfl, trivial⟩⟩⟩ ?_
  exact s_285_52 kc Φ v1 v5 (it_sv m 67 (Int32.toNatClampNeg u1) (it_i2b (it_i2b u2))) h
set_option maxRecDepth 100000 in
set_option maxHeartbeats 4000000 in
theorem s_285_18 (kc : it_Kc) (Φ : it_Me → Prop) (v1 : Int32) (v3 : Int32) (u0 : Int32) (m : it_Me) (h : w_285_18 kc Φ v1 v3 u0 m) : it_V kc it_sh0 285 18 [some (.ref 66), some (.int v1), none, some (.int v3), none, none] [(.int u0)] m (it_Pv Φ) := by
  rw [w_285_18] at h
  refine it_V.sN it_cd285 it_m285 8 (pc1 := 29) (ls1 := [some (.ref 66), some (.int v1), none, some (.int v3), none, some (.int u0)]) (st1 := [(.long (1 : Int64)), (.long ((Int32.toInt64 v3) &&& (4294967295 : Int64))), (.int v1), (.ref 66)]) (mem1 := m) rfl ?_
  refine it_V.call it_cd285 it_m285 rfl it_m260 [(.ref 66), (.int v1), (.long ((Int32.toInt64 v3) &&& (4294967295 : Int64))), (.long (1 : Int64))] [] rfl rfl ⟨Nat.le_of_ble_eq_true rfl, Nat.le_of_ble_eq_true rfl, Nat.le_of_ble_eq_true rfl, Nat.le_of_ble_eq_true rfl, rfl⟩ (s_260 kc v1 ((Int32.toInt64 v3) &&& (4294967295 : Int64)) (1 : Int64) m _ h) ?_
  rintro _ m2 ⟨r1, rfl, h⟩
  refine it_V.at (pc1 := 32) (ls1 := [some (.ref 66), some (.int v1), none, some (.int v3), none, some (.int u0)]) (st1 := [(.int r1)]) (mem1 := m2) rfl rfl rfl rfl ?_
  refine it_V.sN it_cd285 it_m285 1 (pc1 := (if r1 = 0 then 52 else 35)) (ls1 := [some (.ref 66), some (.int v1), none, some (.int v3), none, some (.int u0)]) (st1 := []) (mem1 := m2) rfl ?_
  refine it_V.ite (fun c3 => ?_) (fun c3 => ?_)
  · have h := h.1 c3
    refine it_V.weak (l := [some (.ref 66), some (.int v1), none, none, none, some (.int u0)]) ⟨rfl, ⟨rfl, ⟨rfl, trivial⟩⟩⟩ ?_
    exact s_285_52 kc Φ v1 u0 m2 h
  · have h := h.2 c3
    refine it_V.sN it_cd285 it_m285 5 (pc1 := (if u0 = 0 then 49 else 45)) (ls1 := [some (.ref 66), some (.int v1), none, some (.int v3), none, some (.int u0)]) (st1 := [(.int v3), (.ref 67)]) (mem1 := m2) rfl ?_
    refine it_V.ite (fun c4 => ?_) (fun c4 => ?_)
    · have h := h.1 c4
      refine it_V.sN it_cd285 it_m285 1 (pc1 := 50) (ls1 := [some (.ref 66), some (.int v1), none, some (.int v3), none, some (.int u0)]) (st1 := [(.int (0 : Int32)), (.int v3), (.ref 67)]) (mem1 := m2) rfl ?_
      refine it_V.weak (l := [some (.ref 66), some (.int v1), none, none, none, some (.int u0)]) ⟨rfl, ⟨rfl, ⟨rfl, trivial⟩⟩⟩ ?_
      exact s_285_50 kc Φ v1 u0 v3 (0 : Int32) m2 h
    · have h := h.2 c4
      refine it_V.sN it_cd285 it_m285 2 (pc1 := 50) (ls1 := [some (.ref 66), some (.int v1), none, some (.int v3), none, some (.int u0)]) (st1 := [(.int (1 : Int32)), (.int v3), (.ref 67)]) (mem1 := m2) rfl ?_
      refine it_V.weak (l := [some (.ref 66), some (.int v1), none, none, none, some (.int u0)]) ⟨rfl, ⟨rfl, ⟨rfl, trivial⟩⟩⟩ ?_
      exact s_285_50 kc Φ v1 u0 v3 (1 : Int32) m2 h
set_option maxRecDepth 100000 in
set_option maxHeartbeats 4000000 in
theorem s_285 (kc : it_Kc) (x0 : Int32) (x1 : Int32) (x2 : Int32) (x3 : Int32) (m : it_Me) (Φ : it_Me → Prop) (h : w_285 kc x0 x1 x2 x3 m Φ) : it_V kc it_sh0 285 0 (it_loc0 [(.ref 66), (.int x0), (.int x1), (.int x2), (.int x3)] 6) [] m (it_Pv Φ) := by
  rw [w_285] at h
  refine it_V.at (pc1 := 0) (ls1 := [some (.ref 66), some (.int x0), some (.int x1), some (.int x2), some (.int x3), none]) (st1 := []) (mem1 := m) rfl rfl rfl rfl ?_
  refine it_V.sN it_cd285 it_m285 2 (pc1 := (if x1 = 0 then 4 else 65)) (ls1 := [some (.ref 66), some (.int x0), some (.int x1), some (.int x2), some (.int x3), none]) (st1 := []) (mem1 := m) rfl ?_
  refine it_V.ite (fun c1 => ?_) (fun c1 => ?_)
  · have h := h.1 c1
    refine it_V.sN it_cd285 it_m285 3 (pc1 := 9) (ls1 := [some (.ref 66), some (.int x0), some (.int x1), some (.int x2), some (.int x3), none]) (st1 := [(.int x0), (.ref 110)]) (mem1 := m) rfl ?_
    obtain ⟨g2, h⟩ := h
    refine it_V.iald it_cd285 it_m285 rfl ((⟨rfl, by decide⟩ : it_isR 110 8)).2 ((⟨rfl, by decide⟩ : it_isR 110 8)).1 g2 ?_
    refine it_V.at (pc1 := 10) (ls1 := [some (.ref 66), some (.int x0), some (.int x1), some (.int x2), some (.int x3), none]) (st1 := [(.int (m 110 (Int32.toNatClampNeg x0)))]) (mem1 := m) rfl rfl rfl rfl ?_
    refine it_V.sN it_cd285 it_m285 1 (pc1 := (if (m 110 (Int32.toNatClampNeg x0)) ≤ 0 then 17 else 13)) (ls1 := [some (.ref 66), some (.int x0), some (.int x1), some (.int x2), some (.int x3), none]) (st1 := []) (mem1 := m) rfl ?_
    refine it_V.ite (fun c3 => ?_) (fun c3 => ?_)
    · have h := h.1 c3
      refine it_V.sN it_cd285 it_m285 1 (pc1 := 18) (ls1 := [some (.ref 66), some (.int x0), some (.int x1), some (.int x2), some (.int x3), none]) (st1 := [(.int (0 : Int32))]) (mem1 := m) rfl ?_
      refine it_V.weak (l := [some (.ref 66), some (.int x0), none, some (.int x2), none, none]) ⟨rfl, ⟨rfl, ⟨rfl, trivial⟩⟩⟩ ?_
      exact s_285_18 kc Φ x0 x2 (0 : Int32) m h
    · have h := h.2 c3
      refine it_V.sN it_cd285 it_m285 2 (pc1 := 18) (ls1 := [some (.ref 66), some (.int x0), some (.int x1), some (.int x2), some (.int x3), none]) (st1 := [(.int (1 : Int32))]) (mem1 := m) rfl ?_
      refine it_V.weak (l := [some (.ref 66), some (.int x0), none, some (.int x2), none, none]) ⟨rfl, ⟨rfl, ⟨rfl, trivial⟩⟩⟩ ?_
      exact s_285_18 kc Φ x0 x2 (1 : Int32) m h
  · have h := h.2 c1
    refine it_V.sN it_cd285 it_m285 3 (pc1 := (if x1 = (1 : Int32) then 70 else 97)) (ls1 := [some (.ref 66), some (.int x0), some (.int x1), some (.int x2), some (.int x3), none]) (st1 := []) (mem1 := m) rfl ?_
    refine it_V.ite (fun c4 => ?_) (fun c4 => ?_)
    · have h := h.1 c4
      refine it_V.sN it_cd285 it_m285 3 (pc1 := 75) (ls1 := [some (.ref 66), some (.int x0), some (.int x1), some (.int x2), some (.int x3), none]) (st1 := [(.int x0), (.ref 110)]) (mem1 := m) rfl ?_
      obtain ⟨g5, h⟩ := h
      refine it_V.iald it_cd285 it_m285 rfl ((⟨rfl, by decide⟩ : it_isR 110 8)).2 ((⟨rfl, by decide⟩ : it_isR 110 8)).1 g5 ?_
      refine it_V.at (pc1 := 76) (ls1 := [some (.ref 66), some (.int x0), some (.int x1), some (.int x2), some (.int x3), none]) (st1 := [(.int (m 110 (Int32.toNatClampNeg x0)))]) (mem1 := m) rfl rfl rfl rfl ?_
      refine it_V.sN it_cd285 it_m285 1 (pc1 := (if (m 110 (Int32.toNatClampNeg x0)) ≤ 0 then 87 else 79)) (ls1 := [some (.ref 66), some (.int x0), some (.int x1), some (.int x2), some (.int x3), none]) (st1 := []) (mem1 := m) rfl ?_
      refine it_V.ite (fun c6 => ?_) (fun c6 => ?_)
      · have h := h.1 c6
        refine it_V.sN it_cd285 it_m285 4 (pc1 := 93) (ls1 := [some (.ref 66), some (.int x0), some (.int x1), some (.int x2), some (.int x3), none]) (st1 := [(.int (2 : Int32)), (.int x0), (.ref 95)]) (mem1 := m) rfl ?_
        obtain ⟨g7, h⟩ := h
        refine it_V.iast it_cd285 it_m285 rfl ((⟨rfl, by decide⟩ : it_isR 95 8)).1 g7 ?_
        refine it_V.at (pc1 := 94) (ls1 := [some (.ref 66), some (.int x0), some (.int x1), some (.int x2), some (.int x3), none]) (st1 := []) (mem1 := (it_sv m 95 (Int32.toNatClampNeg x0) (2 : Int32))) rfl rfl rfl rfl ?_
        refine it_V.sN it_cd285 it_m285 1 (pc1 := 120) (ls1 := [some (.ref 66), some (.int x0), some (.int x1), some (.int x2), some (.int x3), none]) (st1 := []) (mem1 := (it_sv m 95 (Int32.toNatClampNeg x0) (2 : Int32))) rfl ?_
        refine it_V.weak (l := [none, none, none, none, none, none]) trivial ?_
        exact s_285_120 kc Φ (it_sv m 95 (Int32.toNatClampNeg x0) (2 : Int32)) h
      · have h := h.2 c6
        refine it_V.sN it_cd285 it_m285 2 (pc1 := 81) (ls1 := [some (.ref 66), some (.int x0), some (.int x1), some (.int x2), some (.int x3), none]) (st1 := [(.int x0), (.ref 66)]) (mem1 := m) rfl ?_
        refine it_V.call it_cd285 it_m285 rfl it_m278 [(.ref 66), (.int x0)] [] rfl rfl ⟨Nat.le_of_ble_eq_true rfl, Nat.le_of_ble_eq_true rfl, Nat.le_of_ble_eq_true rfl, Nat.le_of_ble_eq_true rfl, rfl⟩ (s_278 kc x0 m _ h) ?_
        rintro _ m8 ⟨rfl, h⟩
        refine it_V.at (pc1 := 84) (ls1 := [some (.ref 66), some (.int x0), some (.int x1), some (.int x2), some (.int x3), none]) (st1 := []) (mem1 := m8) rfl rfl rfl rfl ?_
        refine it_V.sN it_cd285 it_m285 1 (pc1 := 120) (ls1 := [some (.ref 66), some (.int x0), some (.int x1), some (.int x2), some (.int x3), none]) (st1 := []) (mem1 := m8) rfl ?_
        refine it_V.weak (l := [none, none, none, none, none, none]) trivial ?_
        exact s_285_120 kc Φ m8 h
    · have h := h.2 c4
      refine it_V.sN it_cd285 it_m285 3 (pc1 := (if x1 = (2 : Int32) then 102 else 113)) (ls1 := [some (.ref 66), some (.int x0), some (.int x1), some (.int x2), some (.int x3), none]) (st1 := []) (mem1 := m) rfl ?_
      refine it_V.ite (fun c9 => ?_) (fun c9 => ?_)
      · have h := h.1 c9
        refine it_V.sN it_cd285 it_m285 4 (pc1 := 107) (ls1 := [some (.ref 66), some (.int x0), some (.int x1), some (.int x2), some (.int x3), none]) (st1 := [(.int x3), (.int x2), (.int x0), (.ref 66)]) (mem1 := m) rfl ?_
        refine it_V.call it_cd285 it_m285 rfl it_m286 [(.ref 66), (.int x0), (.int x2), (.int x3)] [] rfl rfl ⟨Nat.le_of_ble_eq_true rfl, Nat.le_of_ble_eq_true rfl, Nat.le_of_ble_eq_true rfl, Nat.le_of_ble_eq_true rfl, rfl⟩ (s_286 kc x0 x2 x3 m _ h) ?_
        rintro _ m10 ⟨rfl, h⟩
        refine it_V.at (pc1 := 110) (ls1 := [some (.ref 66), some (.int x0), some (.int x1), some (.int x2), some (.int x3), none]) (st1 := []) (mem1 := m10) rfl rfl rfl rfl ?_
        refine it_V.sN it_cd285 it_m285 1 (pc1 := 120) (ls1 := [some (.ref 66), some (.int x0), some (.int x1), some (.int x2), some (.int x3), none]) (st1 := []) (mem1 := m10) rfl ?_
        refine it_V.weak (l := [none, none, none, none, none, none]) trivial ?_
        exact s_285_120 kc Φ m10 h
      · have h := h.2 c9
        refine it_V.sN it_cd285 it_m285 3 (pc1 := 117) (ls1 := [some (.ref 66), some (.int x0), some (.int x1), some (.int x2), some (.int x3), none]) (st1 := [(.int (10 : Int32)), (.int x0), (.ref 66)]) (mem1 := m) rfl ?_
        refine it_V.call it_cd285 it_m285 rfl it_m282 [(.ref 66), (.int x0), (.int (10 : Int32))] [] rfl rfl ⟨Nat.le_of_ble_eq_true rfl, Nat.le_of_ble_eq_true rfl, Nat.le_of_ble_eq_true rfl, Nat.le_of_ble_eq_true rfl, rfl⟩ (s_282 kc x0 (10 : Int32) m _ h) ?_
        rintro _ m11 ⟨rfl, h⟩
        refine it_V.at (pc1 := 120) (ls1 := [some (.ref 66), some (.int x0), some (.int x1), some (.int x2), some (.int x3), none]) (st1 := []) (mem1 := m11) rfl rfl rfl rfl ?_
        refine it_V.weak (l := [none, none, none, none, none, none]) trivial ?_
        exact s_285_120 kc Φ m11 h
set_option maxRecDepth 100000 in
set_option maxHeartbeats 4000000 in
theorem s_287_15 (kc : it_Kc) (Φ : Int32 → it_Me → Prop) (u0 : Int32) (m : it_Me) (h : w_287_15 kc Φ u0 m) : it_V kc it_sh0 287 15 [none] [(.int u0)] m (it_Pi Φ) := by
  rw [w_287_15] at h
  exact it_V.retZ it_cd287 it_m287 rfl rfl h.1 ⟨_, rfl, h.2⟩
set_option maxRecDepth 100000 in
set_option maxHeartbeats 4000000 in
theorem s_287_14 (kc : it_Kc) (Φ : Int32 → it_Me → Prop) (m : it_Me) (h : w_287_14 kc Φ m) : it_V kc it_sh0 287 14 [none] [] m (it_Pi Φ) := by
  rw [w_287_14] at h
  refine it_V.sN it_cd287 it_m287 1 (pc1 := 15) (ls1 := [none]) (st1 := [(.int (0 : Int32))]) (mem1 := m) rfl ?_
  refine it_V.weak (l := [none]) trivial ?_
  exact s_287_15 kc Φ (0 : Int32) m h
set_option maxRecDepth 100000 in
set_option maxHeartbeats 4000000 in
theorem s_287 (kc : it_Kc) (x0 : Int32) (m : it_Me) (Φ : Int32 → it_Me → Prop) (h : w_287 kc x0 m Φ) : it_V kc it_sh0 287 0 (it_loc0 [(.int x0)] 1) [] m (it_Pi Φ) := by
  rw [w_287] at h
  refine it_V.at (pc1 := 0) (ls1 := [some (.int x0)]) (st1 := []) (mem1 := m) rfl rfl rfl rfl ?_
  refine it_V.sN it_cd287 it_m287 2 (pc1 := (if x0 < 0 then 14 else 4)) (ls1 := [some (.int x0)]) (st1 := []) (mem1 := m) rfl ?_
  refine it_V.ite (fun c1 => ?_) (fun c1 => ?_)
  · have h := h.1 c1
    refine it_V.weak (l := [none]) trivial ?_
    exact s_287_14 kc Φ m h
  · have h := h.2 c1
    refine it_V.sN it_cd287 it_m287 3 (pc1 := (if (8 : Int32) < x0 then 14 else 10)) (ls1 := [some (.int x0)]) (st1 := []) (mem1 := m) rfl ?_
    refine it_V.ite (fun c2 => ?_) (fun c2 => ?_)
    · have h := h.1 c2
      refine it_V.weak (l := [none]) trivial ?_
      exact s_287_14 kc Φ m h
    · have h := h.2 c2
      refine it_V.sN it_cd287 it_m287 2 (pc1 := 15) (ls1 := [some (.int x0)]) (st1 := [(.int (1 : Int32))]) (mem1 := m) rfl ?_
      refine it_V.weak (l := [none]) trivial ?_
      exact s_287_15 kc Φ (1 : Int32) m h
set_option maxRecDepth 100000 in
set_option maxHeartbeats 4000000 in
theorem s_288_180 (kc : it_Kc) (Φ : it_Me → Prop) (K121 : Int32 → Int32 → Int32 → Int32 → Int32 → Int32 → Int32 → it_Me → Prop) (K183 : Int32 → Int32 → Int32 → Int32 → Int32 → it_Me → Prop) (hK121 : ∀ (v1 : Int32) (v2 : Int32) (v3 : Int32) (v4 : Int32) (v5 : Int32) (v8 : Int32) (v9 : Int32) (m : it_Me), K121 v1 v2 v3 v4 v5 v8 v9 m → it_V kc it_sh0 288 121 [some (.ref 66), some (.int v1), some (.int v2), some (.int v3), some (.int v4), some (.int v5), none, none, some (.int v8), some (.int v9), none, none, none] [] m (it_Pv Φ)) (hK183 : ∀ (v1 : Int32) (v3 : Int32) (v4 : Int32) (v5 : Int32) (v8 : Int32) (m : it_Me), K183 v1 v3 v4 v5 v8 m → it_V kc it_sh0 288 183 [some (.ref 66), some (.int v1), none, some (.int v3), some (.int v4), some (.int v5), none, none, some (.int v8), none, none, none, none] [] m (it_Pv Φ)) (v1 : Int32) (v2 : Int32) (v3 : Int32) (v4 : Int32) (v5 : Int32) (v8 : Int32) (v9 : Int32) (m : it_Me) (h : w_288_180 kc Φ K121 K183 v1 v2 v3 v4 v5 v8 v9 m) : it_V kc it_sh0 288 180 [some (.ref 66), some (.int v1), some (.int v2), some (.int v3), some (.int v4), some (.int v5), none, none, some (.int v8), some (.int v9), none, none, none] [] m (it_Pv Φ) := by
  rw [w_288_180] at h
  refine it_V.sN it_cd288 it_m288 1 (pc1 := 121) (ls1 := [some (.ref 66), some (.int v1), some (.int v2), some (.int v3), some (.int v4), some (.int v5), none, none, some (.int v8), some (.int v9), none, none, none]) (st1 := []) (mem1 := m) rfl ?_
  refine it_V.weak (l := [some (.ref 66), some (.int v1), some (.int v2), some (.int v3), some (.int v4), some (.int v5), none, none, some (.int v8), some (.int v9), none, none, none]) ⟨rfl, ⟨rfl, ⟨rfl, ⟨rfl, ⟨rfl, ⟨rfl, ⟨rfl, ⟨rfl, trivial⟩⟩⟩⟩⟩⟩⟩⟩ ?_
  exact hK121 v1 v2 v3 v4 v5 v8 v9 m h
set_option maxRecDepth 100000 in
set_option maxHeartbeats 4000000 in
theorem s_288_177 (kc : it_Kc) (Φ : it_Me → Prop) (K121 : Int32 → Int32 → Int32 → Int32 → Int32 → Int32 → Int32 → it_Me → Prop) (K183 : Int32 → Int32 → Int32 → Int32 → Int32 → it_Me → Prop) (hK121 : ∀ (v1 : Int32) (v2 : Int32) (v3 : Int32) (v4 : Int32) (v5 : Int32) (v8 : Int32) (v9 : Int32) (m : it_Me), K121 v1 v2 v3 v4 v5 v8 v9 m → it_V kc it_sh0 288 121 [some (.ref 66), some (.int v1), some (.int v2), some (.int v3), some (.int v4), some (.int v5), none, none, some (.int v8), some (.int v9), none, none, none] [] m (it_Pv Φ)) (hK183 : ∀ (v1 : Int32) (v3 : Int32) (v4 : Int32) (v5 : Int32) (v8 : Int32) (m : it_Me), K183 v1 v3 v4 v5 v8 m → it_V kc it_sh0 288 183 [some (.ref 66), some (.int v1), none, some (.int v3), some (.int v4), some (.int v5), none, none, some (.int v8), none, none, none, none] [] m (it_Pv Φ)) (v1 : Int32) (v2 : Int32) (v3 : Int32) (v4 : Int32) (v5 : Int32) (v8 : Int32) (v9 : Int32) (m : it_Me) (h : w_288_177 kc Φ K121 K183 v1 v2 v3 v4 v5 v8 v9 m) : it_V kc it_sh0 288 177 [some (.ref 66), some (.int v1), some (.int v2), some (.int v3), some (.int v4), some (.int v5), none, none, some (.int v8), some (.int v9), none, none, none] [] m (it_Pv Φ) := by
  rw [w_288_177] at h
  refine it_V.sN it_cd288 it_m288 1 (pc1 := 180) (ls1 := [some (.ref 66), some (.int v1), some (.int v2), some (.int v3), some (.int v4), some (.int v5), none, none, some (.int v8), some (.int (v9 + (1 : Int32))), none, none, none]) (st1 := []) (mem1 := m) rfl ?_
  refine it_V.weak (l := [some (.ref 66), some (.int v1), some (.int v2), some (.int v3), some (.int v4), some (.int v5), none, none, some (.int v8), some (.int (v9 + (1 : Int32))), none, none, none]) ⟨rfl, ⟨rfl, ⟨rfl, ⟨rfl, ⟨rfl, ⟨rfl, ⟨rfl, ⟨rfl, trivial⟩⟩⟩⟩⟩⟩⟩⟩ ?_
  exact s_288_180 kc Φ _ _ hK121 hK183 v1 v2 v3 v4 v5 v8 (v9 + (1 : Int32)) m h
set_option maxRecDepth 100000 in
set_option maxHeartbeats 4000000 in
theorem s_288_121 (kc : it_Kc) (Φ : it_Me → Prop) (K183 : Int32 → Int32 → Int32 → Int32 → Int32 → it_Me → Prop) (hK183 : ∀ (v1 : Int32) (v3 : Int32) (v4 : Int32) (v5 : Int32) (v8 : Int32) (m : it_Me), K183 v1 v3 v4 v5 v8 m → it_V kc it_sh0 288 183 [some (.ref 66), some (.int v1), none, some (.int v3), some (.int v4), some (.int v5), none, none, some (.int v8), none, none, none, none] [] m (it_Pv Φ)) : ∀ (n : Nat) (v1 : Int32) (v2 : Int32) (v3 : Int32) (v4 : Int32) (v5 : Int32) (v8 : Int32) (v9 : Int32) (m : it_Me) (h : w_288_121 kc Φ K183 n v1 v2 v3 v4 v5 v8 v9 m), it_V kc it_sh0 288 121 [some (.ref 66), some (.int v1), some (.int v2), some (.int v3), some (.int v4), some (.int v5), none, none, some (.int v8), some (.int v9), none, none, none] [] m (it_Pv Φ) := by
  intro n
  induction n with
  | zero => intro v1 v2 v3 v4 v5 v8 v9 m h; exact absurd h id
  | succ n ih =>
    intro v1 v2 v3 v4 v5 v8 v9 m h
    rw [w_288_121] at h
    refine it_V.sN it_cd288 it_m288 4 (pc1 := 128) (ls1 := [some (.ref 66), some (.int v1), some (.int v2), some (.int v3), some (.int v4), some (.int v5), none, none, some (.int v8), some (.int v9), none, none, none]) (st1 := [(.int v1), (.ref 110), (.int v9)]) (mem1 := m) rfl ?_
    obtain ⟨g1, h⟩ := h
    refine it_V.iald it_cd288 it_m288 rfl ((⟨rfl, by decide⟩ : it_isR 110 8)).2 ((⟨rfl, by decide⟩ : it_isR 110 8)).1 g1 ?_
    refine it_V.at (pc1 := 129) (ls1 := [some (.ref 66), some (.int v1), some (.int v2), some (.int v3), some (.int v4), some (.int v5), none, none, some (.int v8), some (.int v9), none, none, none]) (st1 := [(.int (m 110 (Int32.toNatClampNeg v1))), (.int v9)]) (mem1 := m) rfl rfl rfl rfl ?_
    refine it_V.sN it_cd288 it_m288 1 (pc1 := (if (m 110 (Int32.toNatClampNeg v1)) ≤ v9 then 183 else 132)) (ls1 := [some (.ref 66), some (.int v1), some (.int v2), some (.int v3), some (.int v4), some (.int v5), none, none, some (.int v8), some (.int v9), none, none, none]) (st1 := []) (mem1 := m) rfl ?_
    refine it_V.ite (fun c2 => ?_) (fun c2 => ?_)
    · have h := h.1 c2
      refine it_V.weak (l := [some (.ref 66), some (.int v1), none, some (.int v3), some (.int v4), some (.int v5), none, none, some (.int v8), none, none, none, none]) ⟨rfl, ⟨rfl, ⟨rfl, ⟨rfl, ⟨rfl, ⟨rfl, trivial⟩⟩⟩⟩⟩⟩ ?_
      exact hK183 v1 v3 v4 v5 v8 m h
    · have h := h.2 c2
      refine it_V.sN it_cd288 it_m288 11 (pc1 := 149) (ls1 := [some (.ref 66), some (.int v1), some (.int v2), some (.int v3), some (.int v4), some (.int v5), none, none, some (.int v8), some (.int v9), some (.int (((50 : Int32) * v1) + ((5 : Int32) * v9))), none, none]) (st1 := [(.int (((50 : Int32) * v1) + ((5 : Int32) * v9))), (.ref 109)]) (mem1 := m) rfl ?_
      obtain ⟨g3, h⟩ := h
      refine it_V.iald it_cd288 it_m288 rfl ((⟨rfl, by decide⟩ : it_isR 109 400)).2 ((⟨rfl, by decide⟩ : it_isR 109 400)).1 g3 ?_
      refine it_V.at (pc1 := 150) (ls1 := [some (.ref 66), some (.int v1), some (.int v2), some (.int v3), some (.int v4), some (.int v5), none, none, some (.int v8), some (.int v9), some (.int (((50 : Int32) * v1) + ((5 : Int32) * v9))), none, none]) (st1 := [(.int (m 109 (Int32.toNatClampNeg (((50 : Int32) * v1) + ((5 : Int32) * v9)))))]) (mem1 := m) rfl rfl rfl rfl ?_
      refine it_V.sN it_cd288 it_m288 2 (pc1 := (if (m 109 (Int32.toNatClampNeg (((50 : Int32) * v1) + ((5 : Int32) * v9)))) = v2 then 154 else 177)) (ls1 := [some (.ref 66), some (.int v1), some (.int v2), some (.int v3), some (.int v4), some (.int v5), none, none, some (.int v8), some (.int v9), some (.int (((50 : Int32) * v1) + ((5 : Int32) * v9))), none, none]) (st1 := []) (mem1 := m) rfl ?_
      refine it_V.ite (fun c4 => ?_) (fun c4 => ?_)
      · have h := h.1 c4
        refine it_V.sN it_cd288 it_m288 5 (pc1 := 162) (ls1 := [some (.ref 66), some (.int v1), some (.int v2), some (.int v3), some (.int v4), some (.int v5), none, none, some (.int v8), some (.int v9), some (.int (((50 : Int32) * v1) + ((5 : Int32) * v9))), none, none]) (st1 := [(.int ((((50 : Int32) * v1) + ((5 : Int32) * v9)) + (1 : Int32))), (.ref 109)]) (mem1 := m) rfl ?_
        obtain ⟨g5, h⟩ := h
        refine it_V.iald it_cd288 it_m288 rfl ((⟨rfl, by decide⟩ : it_isR 109 400)).2 ((⟨rfl, by decide⟩ : it_isR 109 400)).1 g5 ?_
        refine it_V.at (pc1 := 163) (ls1 := [some (.ref 66), some (.int v1), some (.int v2), some (.int v3), some (.int v4), some (.int v5), none, none, some (.int v8), some (.int v9), some (.int (((50 : Int32) * v1) + ((5 : Int32) * v9))), none, none]) (st1 := [(.int (m 109 (Int32.toNatClampNeg ((((50 : Int32) * v1) + ((5 : Int32) * v9)) + (1 : Int32)))))]) (mem1 := m) rfl rfl rfl rfl ?_
        refine it_V.sN it_cd288 it_m288 2 (pc1 := (if (m 109 (Int32.toNatClampNeg ((((50 : Int32) * v1) + ((5 : Int32) * v9)) + (1 : Int32)))) = v3 then 167 else 177)) (ls1 := [some (.ref 66), some (.int v1), some (.int v2), some (.int v3), some (.int v4), some (.int v5), none, none, some (.int v8), some (.int v9), some (.int (((50 : Int32) * v1) + ((5 : Int32) * v9))), none, none]) (st1 := []) (mem1 := m) rfl ?_
        refine it_V.ite (fun c6 => ?_) (fun c6 => ?_)
        · have h := h.1 c6
          refine it_V.sN it_cd288 it_m288 3 (pc1 := 171) (ls1 := [some (.ref 66), some (.int v1), some (.int v2), some (.int v3), some (.int v4), some (.int v5), none, none, some (.int v8), some (.int v9), some (.int (((50 : Int32) * v1) + ((5 : Int32) * v9))), none, none]) (st1 := [(.int v9), (.int v1), (.ref 66)]) (mem1 := m) rfl ?_
          refine it_V.call it_cd288 it_m288 rfl it_m277 [(.ref 66), (.int v1), (.int v9)] [] rfl rfl ⟨Nat.le_of_ble_eq_true rfl, Nat.le_of_ble_eq_true rfl, Nat.le_of_ble_eq_true rfl, Nat.le_of_ble_eq_true rfl, rfl⟩ (s_277 kc v1 v9 m _ h) ?_
          rintro _ m7 ⟨rfl, h⟩
          refine it_V.at (pc1 := 174) (ls1 := [some (.ref 66), some (.int v1), some (.int v2), some (.int v3), some (.int v4), some (.int v5), none, none, some (.int v8), some (.int v9), some (.int (((50 : Int32) * v1) + ((5 : Int32) * v9))), none, none]) (st1 := []) (mem1 := m7) rfl rfl rfl rfl ?_
          refine it_V.sN it_cd288 it_m288 1 (pc1 := 180) (ls1 := [some (.ref 66), some (.int v1), some (.int v2), some (.int v3), some (.int v4), some (.int v5), none, none, some (.int v8), some (.int v9), some (.int (((50 : Int32) * v1) + ((5 : Int32) * v9))), none, none]) (st1 := []) (mem1 := m7) rfl ?_
          refine it_V.weak (l := [some (.ref 66), some (.int v1), some (.int v2), some (.int v3), some (.int v4), some (.int v5), none, none, some (.int v8), some (.int v9), none, none, none]) ⟨rfl, ⟨rfl, ⟨rfl, ⟨rfl, ⟨rfl, ⟨rfl, ⟨rfl, ⟨rfl, trivial⟩⟩⟩⟩⟩⟩⟩⟩ ?_
          exact s_288_180 kc Φ _ _ ih hK183 v1 v2 v3 v4 v5 v8 v9 m7 h
        · have h := h.2 c6
          refine it_V.weak (l := [some (.ref 66), some (.int v1), some (.int v2), some (.int v3), some (.int v4), some (.int v5), none, none, some (.int v8), some (.int v9), none, none, none]) ⟨rfl, ⟨rfl, ⟨rfl, ⟨rfl, ⟨rfl, ⟨rfl, ⟨rfl, ⟨rfl, trivial⟩⟩⟩⟩⟩⟩⟩⟩ ?_
          exact s_288_177 kc Φ _ _ ih hK183 v1 v2 v3 v4 v5 v8 v9 m h
      · have h := h.2 c4
        refine it_V.weak (l := [some (.ref 66), some (.int v1), some (.int v2), some (.int v3), some (.int v4), some (.int v5), none, none, some (.int v8), some (.int v9), none, none, none]) ⟨rfl, ⟨rfl, ⟨rfl, ⟨rfl, ⟨rfl, ⟨rfl, ⟨rfl, ⟨rfl, trivial⟩⟩⟩⟩⟩⟩⟩⟩ ?_
        exact s_288_177 kc Φ _ _ ih hK183 v1 v2 v3 v4 v5 v8 v9 m h
set_option maxRecDepth 100000 in
set_option maxHeartbeats 4000000 in
theorem s_288_110 (kc : it_Kc) (Φ : it_Me → Prop) (v4 : Int32) (v5 : Int32) (u1 : Int32) (u2 : Int32) (m : it_Me) (h : w_288_110 kc Φ v4 v5 u1 u2 m) : it_V kc it_sh0 288 110 [none, none, none, none, some (.int v4), some (.int v5), none, none, none, none, none, none, none] [(.int u2), (.int u1), (.ref 66)] m (it_Pv Φ) := by
  rw [w_288_110] at h
  refine it_V.sN it_cd288 it_m288 2 (pc1 := 114) (ls1 := [none, none, none, none, some (.int v4), some (.int v5), none, none, none, none, none, none, none]) (st1 := [(.int v5), (.int v4), (.int u2), (.int u1), (.ref 66)]) (mem1 := m) rfl ?_
  refine it_V.call it_cd288 it_m288 rfl it_m283 [(.ref 66), (.int u1), (.int u2), (.int v4), (.int v5)] [] rfl rfl ⟨Nat.le_of_ble_eq_true rfl, Nat.le_of_ble_eq_true rfl, Nat.le_of_ble_eq_true rfl, Nat.le_of_ble_eq_true rfl, rfl⟩ (s_283 kc u1 u2 v4 v5 m _ h) ?_
  rintro _ m1 ⟨rfl, h⟩
  refine it_V.at (pc1 := 117) (ls1 := [none, none, none, none, some (.int v4), some (.int v5), none, none, none, none, none, none, none]) (st1 := []) (mem1 := m1) rfl rfl rfl rfl ?_
  exact it_V.ret it_cd288 it_m288 rfl rfl ⟨rfl, h⟩
set_option maxRecDepth 100000 in
set_option maxHeartbeats 4000000 in
theorem s_288_183 (kc : it_Kc) (Φ : it_Me → Prop) (v1 : Int32) (v3 : Int32) (v4 : Int32) (v5 : Int32) (v8 : Int32) (m : it_Me) (h : w_288_183 kc Φ v1 v3 v4 v5 v8 m) : it_V kc it_sh0 288 183 [some (.ref 66), some (.int v1), none, some (.int v3), some (.int v4), some (.int v5), none, none, some (.int v8), none, none, none, none] [] m (it_Pv Φ) := by
  rw [w_288_183] at h
  refine it_V.sN it_cd288 it_m288 10 (pc1 := 198) (ls1 := [some (.ref 66), some (.int v1), none, some (.int v3), some (.int v4), some (.int v5), none, none, some (.int v8), none, some (.int ((v8 + (8 : Int32)) + ((8 : Int32) * v3))), none, none]) (st1 := [(.int ((v8 + (8 : Int32)) + ((8 : Int32) * v3))), (.ref 66)]) (mem1 := m) rfl ?_
  refine it_V.call it_cd288 it_m288 rfl it_m220 [(.ref 66), (.int ((v8 + (8 : Int32)) + ((8 : Int32) * v3)))] [] rfl rfl ⟨Nat.le_of_ble_eq_true rfl, Nat.le_of_ble_eq_true rfl, Nat.le_of_ble_eq_true rfl, Nat.le_of_ble_eq_true rfl, rfl⟩ (s_220 kc ((v8 + (8 : Int32)) + ((8 : Int32) * v3)) m _ h) ?_
  rintro _ m2 ⟨r1, rfl, h⟩
  refine it_V.at (pc1 := 201) (ls1 := [some (.ref 66), some (.int v1), none, some (.int v3), some (.int v4), some (.int v5), none, none, some (.int v8), none, some (.int ((v8 + (8 : Int32)) + ((8 : Int32) * v3))), none, none]) (st1 := [(.int r1)]) (mem1 := m2) rfl rfl rfl rfl ?_
  refine it_V.sN it_cd288 it_m288 5 (pc1 := 208) (ls1 := [some (.ref 66), some (.int v1), none, some (.int v3), some (.int v4), some (.int v5), none, none, some (.int v8), none, some (.int ((v8 + (8 : Int32)) + ((8 : Int32) * v3))), some (.int r1), none]) (st1 := [(.int (((v8 + (8 : Int32)) + ((8 : Int32) * v3)) + (4 : Int32))), (.ref 66)]) (mem1 := m2) rfl ?_
  refine it_V.call it_cd288 it_m288 rfl it_m220 [(.ref 66), (.int (((v8 + (8 : Int32)) + ((8 : Int32) * v3)) + (4 : Int32)))] [] rfl rfl ⟨Nat.le_of_ble_eq_true rfl, Nat.le_of_ble_eq_true rfl, Nat.le_of_ble_eq_true rfl, Nat.le_of_ble_eq_true rfl, rfl⟩ (s_220 kc (((v8 + (8 : Int32)) + ((8 : Int32) * v3)) + (4 : Int32)) m2 _ h) ?_
  rintro _ m4 ⟨r3, rfl, h⟩
  refine it_V.at (pc1 := 211) (ls1 := [some (.ref 66), some (.int v1), none, some (.int v3), some (.int v4), some (.int v5), none, none, some (.int v8), none, some (.int ((v8 + (8 : Int32)) + ((8 : Int32) * v3))), some (.int r1), none]) (st1 := [(.int r3)]) (mem1 := m4) rfl rfl rfl rfl ?_
  refine it_V.sN it_cd288 it_m288 4 (pc1 := 218) (ls1 := [some (.ref 66), some (.int v1), none, some (.int v3), some (.int v4), some (.int v5), none, none, some (.int v8), none, some (.int ((v8 + (8 : Int32)) + ((8 : Int32) * v3))), some (.int r1), some (.int r3)]) (st1 := [(.int v4), (.int ((v8 + (8 : Int32)) + ((8 : Int32) * v3))), (.ref 66)]) (mem1 := m4) rfl ?_
  refine it_V.call it_cd288 it_m288 rfl it_m221 [(.ref 66), (.int ((v8 + (8 : Int32)) + ((8 : Int32) * v3))), (.int v4)] [] rfl rfl ⟨Nat.le_of_ble_eq_true rfl, Nat.le_of_ble_eq_true rfl, Nat.le_of_ble_eq_true rfl, Nat.le_of_ble_eq_true rfl, rfl⟩ (s_221 kc ((v8 + (8 : Int32)) + ((8 : Int32) * v3)) v4 m4 _ h) ?_
  rintro _ m5 ⟨rfl, h⟩
  refine it_V.at (pc1 := 221) (ls1 := [some (.ref 66), some (.int v1), none, some (.int v3), some (.int v4), some (.int v5), none, none, some (.int v8), none, some (.int ((v8 + (8 : Int32)) + ((8 : Int32) * v3))), some (.int r1), some (.int r3)]) (st1 := []) (mem1 := m5) rfl rfl rfl rfl ?_
  refine it_V.sN it_cd288 it_m288 5 (pc1 := 228) (ls1 := [some (.ref 66), some (.int v1), none, some (.int v3), some (.int v4), some (.int v5), none, none, some (.int v8), none, some (.int ((v8 + (8 : Int32)) + ((8 : Int32) * v3))), some (.int r1), some (.int r3)]) (st1 := [(.int v5), (.int (((v8 + (8 : Int32)) + ((8 : Int32) * v3)) + (4 : Int32))), (.ref 66)]) (mem1 := m5) rfl ?_
  refine it_V.call it_cd288 it_m288 rfl it_m221 [(.ref 66), (.int (((v8 + (8 : Int32)) + ((8 : Int32) * v3)) + (4 : Int32))), (.int v5)] [] rfl rfl ⟨Nat.le_of_ble_eq_true rfl, Nat.le_of_ble_eq_true rfl, Nat.le_of_ble_eq_true rfl, Nat.le_of_ble_eq_true rfl, rfl⟩ (s_221 kc (((v8 + (8 : Int32)) + ((8 : Int32) * v3)) + (4 : Int32)) v5 m5 _ h) ?_
  rintro _ m6 ⟨rfl, h⟩
  refine it_V.at (pc1 := 231) (ls1 := [some (.ref 66), some (.int v1), none, some (.int v3), some (.int v4), some (.int v5), none, none, some (.int v8), none, some (.int ((v8 + (8 : Int32)) + ((8 : Int32) * v3))), some (.int r1), some (.int r3)]) (st1 := []) (mem1 := m6) rfl rfl rfl rfl ?_
  refine it_V.sN it_cd288 it_m288 5 (pc1 := 240) (ls1 := [some (.ref 66), some (.int v1), none, some (.int v3), some (.int v4), some (.int v5), none, none, some (.int v8), none, some (.int ((v8 + (8 : Int32)) + ((8 : Int32) * v3))), some (.int r1), some (.int r3)]) (st1 := [(.int r3), (.int r1), (.int (130 : Int32)), (.int v1), (.ref 66)]) (mem1 := m6) rfl ?_
  refine it_V.call it_cd288 it_m288 rfl it_m279 [(.ref 66), (.int v1), (.int (130 : Int32)), (.int r1), (.int r3)] [] rfl rfl ⟨Nat.le_of_ble_eq_true rfl, Nat.le_of_ble_eq_true rfl, Nat.le_of_ble_eq_true rfl, Nat.le_of_ble_eq_true rfl, rfl⟩ (s_279 kc v1 (130 : Int32) r1 r3 m6 _ h) ?_
  rintro _ m7 ⟨rfl, h⟩
  refine it_V.at (pc1 := 243) (ls1 := [some (.ref 66), some (.int v1), none, some (.int v3), some (.int v4), some (.int v5), none, none, some (.int v8), none, some (.int ((v8 + (8 : Int32)) + ((8 : Int32) * v3))), some (.int r1), some (.int r3)]) (st1 := []) (mem1 := m7) rfl rfl rfl rfl ?_
  exact it_V.ret it_cd288 it_m288 rfl rfl ⟨rfl, h⟩
set_option maxRecDepth 100000 in
set_option maxHeartbeats 4000000 in
theorem s_288_88 (kc : it_Kc) (Φ : it_Me → Prop) (v1 : Int32) (v2 : Int32) (v3 : Int32) (v4 : Int32) (v5 : Int32) (v6 : Int32) (u0 : Int32) (m : it_Me) (h : w_288_88 kc Φ v1 v2 v3 v4 v5 v6 u0 m) : it_V kc it_sh0 288 88 [some (.ref 66), some (.int v1), some (.int v2), some (.int v3), some (.int v4), some (.int v5), some (.int v6), none, none, none, none, none, none] [(.int u0)] m (it_Pv Φ) := by
  rw [w_288_88] at h
  refine it_V.sN it_cd288 it_m288 4 (pc1 := (if u0 = (-1 : Int32) then 96 else 118)) (ls1 := [some (.ref 66), some (.int v1), some (.int v2), some (.int v3), some (.int v4), some (.int v5), some (.int v6), none, some (.int u0), none, none, none, none]) (st1 := []) (mem1 := m) rfl ?_
  refine it_V.ite (fun c1 => ?_) (fun c1 => ?_)
  · have h := h.1 c1
    refine it_V.sN it_cd288 it_m288 4 (pc1 := (if v6 = 0 then 103 else 108)) (ls1 := [some (.ref 66), some (.int v1), some (.int v2), some (.int v3), some (.int v4), some (.int v5), some (.int v6), none, some (.int u0), none, none, none, none]) (st1 := [(.int v1), (.ref 66)]) (mem1 := m) rfl ?_
    refine it_V.ite (fun c2 => ?_) (fun c2 => ?_)
    · have h := h.1 c2
      refine it_V.sN it_cd288 it_m288 2 (pc1 := 110) (ls1 := [some (.ref 66), some (.int v1), some (.int v2), some (.int v3), some (.int v4), some (.int v5), some (.int v6), none, some (.int u0), none, none, none, none]) (st1 := [(.int (9 : Int32)), (.int v1), (.ref 66)]) (mem1 := m) rfl ?_
      refine it_V.weak (l := [none, none, none, none, some (.int v4), some (.int v5), none, none, none, none, none, none, none]) ⟨rfl, ⟨rfl, trivial⟩⟩ ?_
      exact s_288_110 kc Φ v4 v5 v1 (9 : Int32) m h
    · have h := h.2 c2
      refine it_V.sN it_cd288 it_m288 1 (pc1 := 110) (ls1 := [some (.ref 66), some (.int v1), some (.int v2), some (.int v3), some (.int v4), some (.int v5), some (.int v6), none, some (.int u0), none, none, none, none]) (st1 := [(.int v6), (.int v1), (.ref 66)]) (mem1 := m) rfl ?_
      refine it_V.weak (l := [none, none, none, none, some (.int v4), some (.int v5), none, none, none, none, none, none, none]) ⟨rfl, ⟨rfl, trivial⟩⟩ ?_
      exact s_288_110 kc Φ v4 v5 v1 v6 m h
  · have h := h.2 c1
    refine it_V.sN it_cd288 it_m288 2 (pc1 := 121) (ls1 := [some (.ref 66), some (.int v1), some (.int v2), some (.int v3), some (.int v4), some (.int v5), some (.int v6), none, some (.int u0), some (.int (0 : Int32)), none, none, none]) (st1 := []) (mem1 := m) rfl ?_
    refine it_V.weak (l := [some (.ref 66), some (.int v1), some (.int v2), some (.int v3), some (.int v4), some (.int v5), none, none, some (.int u0), some (.int (0 : Int32)), none, none, none]) ⟨rfl, ⟨rfl, ⟨rfl, ⟨rfl, ⟨rfl, ⟨rfl, ⟨rfl, ⟨rfl, trivial⟩⟩⟩⟩⟩⟩⟩⟩ ?_
    obtain ⟨n, h⟩ := h
    exact s_288_121 kc Φ _ (fun v1 v3 v4 v5 v8 m h => s_288_183 kc Φ v1 v3 v4 v5 v8 m h) n v1 v2 v3 v4 v5 u0 (0 : Int32) m h
set_option maxRecDepth 100000 in
set_option maxHeartbeats 4000000 in
theorem s_288_73 (kc : it_Kc) (Φ : it_Me → Prop) (v1 : Int32) (v2 : Int32) (v3 : Int32) (v4 : Int32) (v5 : Int32) (v6 : Int32) (m : it_Me) (h : w_288_73 kc Φ v1 v2 v3 v4 v5 v6 m) : it_V kc it_sh0 288 73 [some (.ref 66), some (.int v1), some (.int v2), some (.int v3), some (.int v4), some (.int v5), some (.int v6), none, none, none, none, none, none] [] m (it_Pv Φ) := by
  rw [w_288_73] at h
  refine it_V.sN it_cd288 it_m288 2 (pc1 := (if v6 = 0 then 78 else 87)) (ls1 := [some (.ref 66), some (.int v1), some (.int v2), some (.int v3), some (.int v4), some (.int v5), some (.int v6), none, none, none, none, none, none]) (st1 := []) (mem1 := m) rfl ?_
  refine it_V.ite (fun c1 => ?_) (fun c1 => ?_)
  · have h := h.1 c1
    refine it_V.sN it_cd288 it_m288 3 (pc1 := 81) (ls1 := [some (.ref 66), some (.int v1), some (.int v2), some (.int v3), some (.int v4), some (.int v5), some (.int v6), none, none, none, none, none, none]) (st1 := [(.int v2), (.int v1), (.ref 66)]) (mem1 := m) rfl ?_
    refine it_V.call it_cd288 it_m288 rfl it_m273 [(.ref 66), (.int v1), (.int v2)] [] rfl rfl ⟨Nat.le_of_ble_eq_true rfl, Nat.le_of_ble_eq_true rfl, Nat.le_of_ble_eq_true rfl, Nat.le_of_ble_eq_true rfl, rfl⟩ (s_273 kc v1 v2 m _ h) ?_
    rintro _ m3 ⟨r2, rfl, h⟩
    refine it_V.at (pc1 := 84) (ls1 := [some (.ref 66), some (.int v1), some (.int v2), some (.int v3), some (.int v4), some (.int v5), some (.int v6), none, none, none, none, none, none]) (st1 := [(.int r2)]) (mem1 := m3) rfl rfl rfl rfl ?_
    refine it_V.sN it_cd288 it_m288 1 (pc1 := 88) (ls1 := [some (.ref 66), some (.int v1), some (.int v2), some (.int v3), some (.int v4), some (.int v5), some (.int v6), none, none, none, none, none, none]) (st1 := [(.int r2)]) (mem1 := m3) rfl ?_
    refine it_V.weak (l := [some (.ref 66), some (.int v1), some (.int v2), some (.int v3), some (.int v4), some (.int v5), some (.int v6), none, none, none, none, none, none]) ⟨rfl, ⟨rfl, ⟨rfl, ⟨rfl, ⟨rfl, ⟨rfl, ⟨rfl, trivial⟩⟩⟩⟩⟩⟩⟩ ?_
    exact s_288_88 kc Φ v1 v2 v3 v4 v5 v6 r2 m3 h
  · have h := h.2 c1
    refine it_V.sN it_cd288 it_m288 1 (pc1 := 88) (ls1 := [some (.ref 66), some (.int v1), some (.int v2), some (.int v3), some (.int v4), some (.int v5), some (.int v6), none, none, none, none, none, none]) (st1 := [(.int (-1 : Int32))]) (mem1 := m) rfl ?_
    refine it_V.weak (l := [some (.ref 66), some (.int v1), some (.int v2), some (.int v3), some (.int v4), some (.int v5), some (.int v6), none, none, none, none, none, none]) ⟨rfl, ⟨rfl, ⟨rfl, ⟨rfl, ⟨rfl, ⟨rfl, ⟨rfl, trivial⟩⟩⟩⟩⟩⟩⟩ ?_
    exact s_288_88 kc Φ v1 v2 v3 v4 v5 v6 (-1 : Int32) m h
set_option maxRecDepth 100000 in
set_option maxHeartbeats 4000000 in
theorem s_288_69 (kc : it_Kc) (Φ : it_Me → Prop) (v1 : Int32) (v2 : Int32) (v3 : Int32) (v4 : Int32) (v5 : Int32) (m : it_Me) (h : w_288_69 kc Φ v1 v2 v3 v4 v5 m) : it_V kc it_sh0 288 69 [some (.ref 66), some (.int v1), some (.int v2), some (.int v3), some (.int v4), some (.int v5), none, none, none, none, none, none, none] [] m (it_Pv Φ) := by
  rw [w_288_69] at h
  refine it_V.sN it_cd288 it_m288 2 (pc1 := 73) (ls1 := [some (.ref 66), some (.int v1), some (.int v2), some (.int v3), some (.int v4), some (.int v5), some (.int (6 : Int32)), none, none, none, none, none, none]) (st1 := []) (mem1 := m) rfl ?_
  refine it_V.weak (l := [some (.ref 66), some (.int v1), some (.int v2), some (.int v3), some (.int v4), some (.int v5), some (.int (6 : Int32)), none, none, none, none, none, none]) ⟨rfl, ⟨rfl, ⟨rfl, ⟨rfl, ⟨rfl, ⟨rfl, ⟨rfl, trivial⟩⟩⟩⟩⟩⟩⟩ ?_
  exact s_288_73 kc Φ v1 v2 v3 v4 v5 (6 : Int32) m h
set_option maxRecDepth 100000 in
set_option maxHeartbeats 4000000 in
theorem s_288_36 (kc : it_Kc) (Φ : it_Me → Prop) (v1 : Int32) (v2 : Int32) (v3 : Int32) (v4 : Int32) (v5 : Int32) (v6 : Int32) (u0 : Int32) (m : it_Me) (h : w_288_36 kc Φ v1 v2 v3 v4 v5 v6 u0 m) : it_V kc it_sh0 288 36 [some (.ref 66), some (.int v1), some (.int v2), some (.int v3), some (.int v4), some (.int v5), some (.int v6), none, none, none, none, none, none] [(.int u0)] m (it_Pv Φ) := by
  rw [w_288_36] at h
  refine it_V.sN it_cd288 it_m288 2 (pc1 := 39) (ls1 := [some (.ref 66), some (.int v1), some (.int v2), some (.int v3), some (.int v4), some (.int v5), some (.int v6), some (.int u0), none, none, none, none, none]) (st1 := [(.int v2)]) (mem1 := m) rfl ?_
  refine it_V.call it_cd288 it_m288 rfl it_m287 [(.int v2)] [] rfl rfl ⟨Nat.le_of_ble_eq_true rfl, Nat.le_of_ble_eq_true rfl, Nat.le_of_ble_eq_true rfl, Nat.le_of_ble_eq_true rfl, rfl⟩ (s_287 kc v2 m _ h) ?_
  rintro _ m2 ⟨r1, rfl, h⟩
  refine it_V.at (pc1 := 42) (ls1 := [some (.ref 66), some (.int v1), some (.int v2), some (.int v3), some (.int v4), some (.int v5), some (.int v6), some (.int u0), none, none, none, none, none]) (st1 := [(.int r1)]) (mem1 := m2) rfl rfl rfl rfl ?_
  refine it_V.sN it_cd288 it_m288 1 (pc1 := (if r1 = 0 then 45 else 52)) (ls1 := [some (.ref 66), some (.int v1), some (.int v2), some (.int v3), some (.int v4), some (.int v5), some (.int v6), some (.int u0), none, none, none, none, none]) (st1 := []) (mem1 := m2) rfl ?_
  refine it_V.ite (fun c3 => ?_) (fun c3 => ?_)
  · have h := h.1 c3
    refine it_V.sN it_cd288 it_m288 3 (pc1 := 73) (ls1 := [some (.ref 66), some (.int v1), some (.int v2), some (.int v3), some (.int v4), some (.int v5), some (.int (11 : Int32)), some (.int u0), none, none, none, none, none]) (st1 := []) (mem1 := m2) rfl ?_
    refine it_V.weak (l := [some (.ref 66), some (.int v1), some (.int v2), some (.int v3), some (.int v4), some (.int v5), some (.int (11 : Int32)), none, none, none, none, none, none]) ⟨rfl, ⟨rfl, ⟨rfl, ⟨rfl, ⟨rfl, ⟨rfl, ⟨rfl, trivial⟩⟩⟩⟩⟩⟩⟩ ?_
    exact s_288_73 kc Φ v1 v2 v3 v4 v5 (11 : Int32) m2 h
  · have h := h.2 c3
    refine it_V.sN it_cd288 it_m288 2 (pc1 := (if v3 < 0 then 69 else 56)) (ls1 := [some (.ref 66), some (.int v1), some (.int v2), some (.int v3), some (.int v4), some (.int v5), some (.int v6), some (.int u0), none, none, none, none, none]) (st1 := []) (mem1 := m2) rfl ?_
    refine it_V.ite (fun c4 => ?_) (fun c4 => ?_)
    · have h := h.1 c4
      refine it_V.weak (l := [some (.ref 66), some (.int v1), some (.int v2), some (.int v3), some (.int v4), some (.int v5), none, none, none, none, none, none, none]) ⟨rfl, ⟨rfl, ⟨rfl, ⟨rfl, ⟨rfl, ⟨rfl, trivial⟩⟩⟩⟩⟩⟩ ?_
      exact s_288_69 kc Φ v1 v2 v3 v4 v5 m2 h
    · have h := h.2 c4
      refine it_V.sN it_cd288 it_m288 2 (pc1 := 58) (ls1 := [some (.ref 66), some (.int v1), some (.int v2), some (.int v3), some (.int v4), some (.int v5), some (.int v6), some (.int u0), none, none, none, none, none]) (st1 := [(.int v2), (.int v3)]) (mem1 := m2) rfl ?_
      refine it_V.call it_cd288 it_m288 rfl it_m264 [(.int v2)] [(.int v3)] rfl rfl ⟨Nat.le_of_ble_eq_true rfl, Nat.le_of_ble_eq_true rfl, Nat.le_of_ble_eq_true rfl, Nat.le_of_ble_eq_true rfl, rfl⟩ (s_264 kc v2 m2 _ h) ?_
      rintro _ m6 ⟨r5, rfl, h⟩
      refine it_V.at (pc1 := 61) (ls1 := [some (.ref 66), some (.int v1), some (.int v2), some (.int v3), some (.int v4), some (.int v5), some (.int v6), some (.int u0), none, none, none, none, none]) (st1 := [(.int r5), (.int v3)]) (mem1 := m6) rfl rfl rfl rfl ?_
      refine it_V.sN it_cd288 it_m288 1 (pc1 := (if r5 ≤ v3 then 69 else 64)) (ls1 := [some (.ref 66), some (.int v1), some (.int v2), some (.int v3), some (.int v4), some (.int v5), some (.int v6), some (.int u0), none, none, none, none, none]) (st1 := []) (mem1 := m6) rfl ?_
      refine it_V.ite (fun c7 => ?_) (fun c7 => ?_)
      · have h := h.1 c7
        refine it_V.weak (l := [some (.ref 66), some (.int v1), some (.int v2), some (.int v3), some (.int v4), some (.int v5), none, none, none, none, none, none, none]) ⟨rfl, ⟨rfl, ⟨rfl, ⟨rfl, ⟨rfl, ⟨rfl, trivial⟩⟩⟩⟩⟩⟩ ?_
        exact s_288_69 kc Φ v1 v2 v3 v4 v5 m6 h
      · have h := h.2 c7
        refine it_V.sN it_cd288 it_m288 2 (pc1 := (if u0 = 0 then 69 else 73)) (ls1 := [some (.ref 66), some (.int v1), some (.int v2), some (.int v3), some (.int v4), some (.int v5), some (.int v6), some (.int u0), none, none, none, none, none]) (st1 := []) (mem1 := m6) rfl ?_
        refine it_V.ite (fun c8 => ?_) (fun c8 => ?_)
        · have h := h.1 c8
          refine it_V.weak (l := [some (.ref 66), some (.int v1), some (.int v2), some (.int v3), some (.int v4), some (.int v5), none, none, none, none, none, none, none]) ⟨rfl, ⟨rfl, ⟨rfl, ⟨rfl, ⟨rfl, ⟨rfl, trivial⟩⟩⟩⟩⟩⟩ ?_
          exact s_288_69 kc Φ v1 v2 v3 v4 v5 m6 h
        · have h := h.2 c8
          refine it_V.weak (l := [some (.ref 66), some (.int v1), some (.int v2), some (.int v3), some (.int v4), some (.int v5), some (.int v6), none, none, none, none, none, none]) ⟨rfl, ⟨rfl, ⟨rfl, ⟨rfl, ⟨rfl, ⟨rfl, ⟨rfl, trivial⟩⟩⟩⟩⟩⟩⟩ ?_
          exact s_288_73 kc Φ v1 v2 v3 v4 v5 v6 m6 h
set_option maxRecDepth 100000 in
set_option maxHeartbeats 4000000 in
theorem s_288_31 (kc : it_Kc) (Φ : it_Me → Prop) (v1 : Int32) (v2 : Int32) (v3 : Int32) (v4 : Int32) (v5 : Int32) (v6 : Int32) (m : it_Me) (h : w_288_31 kc Φ v1 v2 v3 v4 v5 v6 m) : it_V kc it_sh0 288 31 [some (.ref 66), some (.int v1), some (.int v2), some (.int v3), some (.int v4), some (.int v5), some (.int v6), none, none, none, none, none, none] [] m (it_Pv Φ) := by
  rw [w_288_31] at h
  refine it_V.sN it_cd288 it_m288 2 (pc1 := 36) (ls1 := [some (.ref 66), some (.int v1), some (.int v2), some (.int v3), some (.int v4), some (.int v5), some (.int v6), none, none, none, none, none, none]) (st1 := [(.int (1 : Int32))]) (mem1 := m) rfl ?_
  refine it_V.weak (l := [some (.ref 66), some (.int v1), some (.int v2), some (.int v3), some (.int v4), some (.int v5), some (.int v6), none, none, none, none, none, none]) ⟨rfl, ⟨rfl, ⟨rfl, ⟨rfl, ⟨rfl, ⟨rfl, ⟨rfl, trivial⟩⟩⟩⟩⟩⟩⟩ ?_
  exact s_288_36 kc Φ v1 v2 v3 v4 v5 v6 (1 : Int32) m h
set_option maxRecDepth 100000 in
set_option maxHeartbeats 4000000 in
theorem s_288_35 (kc : it_Kc) (Φ : it_Me → Prop) (v1 : Int32) (v2 : Int32) (v3 : Int32) (v4 : Int32) (v5 : Int32) (v6 : Int32) (m : it_Me) (h : w_288_35 kc Φ v1 v2 v3 v4 v5 v6 m) : it_V kc it_sh0 288 35 [some (.ref 66), some (.int v1), some (.int v2), some (.int v3), some (.int v4), some (.int v5), some (.int v6), none, none, none, none, none, none] [] m (it_Pv Φ) := by
  rw [w_288_35] at h
  refine it_V.sN it_cd288 it_m288 1 (pc1 := 36) (ls1 := [some (.ref 66), some (.int v1), some (.int v2), some (.int v3), some (.int v4), some (.int v5), some (.int v6), none, none, none, none, none, none]) (st1 := [(.int (0 : Int32))]) (mem1 := m) rfl ?_
  refine it_V.weak (l := [some (.ref 66), some (.int v1), some (.int v2), some (.int v3), some (.int v4), some (.int v5), some (.int v6), none, none, none, none, none, none]) ⟨rfl, ⟨rfl, ⟨rfl, ⟨rfl, ⟨rfl, ⟨rfl, ⟨rfl, trivial⟩⟩⟩⟩⟩⟩⟩ ?_
  exact s_288_36 kc Φ v1 v2 v3 v4 v5 v6 (0 : Int32) m h
set_option maxRecDepth 100000 in
set_option maxHeartbeats 4000000 in
theorem s_288 (kc : it_Kc) (x0 : Int32) (x1 : Int32) (x2 : Int32) (x3 : Int32) (x4 : Int32) (m : it_Me) (Φ : it_Me → Prop) (h : w_288 kc x0 x1 x2 x3 x4 m Φ) : it_V kc it_sh0 288 0 (it_loc0 [(.ref 66), (.int x0), (.int x1), (.int x2), (.int x3), (.int x4)] 13) [] m (it_Pv Φ) := by
  rw [w_288] at h
  refine it_V.at (pc1 := 0) (ls1 := [some (.ref 66), some (.int x0), some (.int x1), some (.int x2), some (.int x3), some (.int x4), none, none, none, none, none, none, none]) (st1 := []) (mem1 := m) rfl rfl rfl rfl ?_
  refine it_V.sN it_cd288 it_m288 4 (pc1 := (if x3 = 0 then 31 else 8)) (ls1 := [some (.ref 66), some (.int x0), some (.int x1), some (.int x2), some (.int x3), some (.int x4), some (.int (0 : Int32)), none, none, none, none, none, none]) (st1 := []) (mem1 := m) rfl ?_
  refine it_V.ite (fun c1 => ?_) (fun c1 => ?_)
  · have h := h.1 c1
    exact s_288_31 kc Φ x0 x1 x2 x3 x4 (0 : Int32) m h
  · have h := h.2 c1
    refine it_V.sN it_cd288 it_m288 4 (pc1 := (if (x3 &&& (1 : Int32)) = 0 then 15 else 35)) (ls1 := [some (.ref 66), some (.int x0), some (.int x1), some (.int x2), some (.int x3), some (.int x4), some (.int (0 : Int32)), none, none, none, none, none, none]) (st1 := []) (mem1 := m) rfl ?_
    refine it_V.ite (fun c2 => ?_) (fun c2 => ?_)
    · have h := h.1 c2
      refine it_V.sN it_cd288 it_m288 7 (pc1 := 25) (ls1 := [some (.ref 66), some (.int x0), some (.int x1), some (.int x2), some (.int x3), some (.int x4), some (.int (0 : Int32)), none, none, none, none, none, none]) (st1 := [(.long (1 : Int64)), (.long ((Int32.toInt64 x3) &&& (4294967295 : Int64))), (.int x0), (.ref 66)]) (mem1 := m) rfl ?_
      refine it_V.call it_cd288 it_m288 rfl it_m261 [(.ref 66), (.int x0), (.long ((Int32.toInt64 x3) &&& (4294967295 : Int64))), (.long (1 : Int64))] [] rfl rfl ⟨Nat.le_of_ble_eq_true rfl, Nat.le_of_ble_eq_true rfl, Nat.le_of_ble_eq_true rfl, Nat.le_of_ble_eq_true rfl, rfl⟩ (s_261 kc x0 ((Int32.toInt64 x3) &&& (4294967295 : Int64)) (1 : Int64) m _ h) ?_
      rintro _ m4 ⟨r3, rfl, h⟩
      refine it_V.at (pc1 := 28) (ls1 := [some (.ref 66), some (.int x0), some (.int x1), some (.int x2), some (.int x3), some (.int x4), some (.int (0 : Int32)), none, none, none, none, none, none]) (st1 := [(.int r3)]) (mem1 := m4) rfl rfl rfl rfl ?_
      refine it_V.sN it_cd288 it_m288 1 (pc1 := (if r3 = 0 then 35 else 31)) (ls1 := [some (.ref 66), some (.int x0), some (.int x1), some (.int x2), some (.int x3), some (.int x4), some (.int (0 : Int32)), none, none, none, none, none, none]) (st1 := []) (mem1 := m4) rfl ?_
      refine it_V.ite (fun c5 => ?_) (fun c5 => ?_)
      · have h := h.1 c5
        exact s_288_35 kc Φ x0 x1 x2 x3 x4 (0 : Int32) m4 h
      · have h := h.2 c5
        exact s_288_31 kc Φ x0 x1 x2 x3 x4 (0 : Int32) m4 h
    · have h := h.2 c2
      exact s_288_35 kc Φ x0 x1 x2 x3 x4 (0 : Int32) m h
set_option maxRecDepth 100000 in
set_option maxHeartbeats 4000000 in
theorem s_289_164 (kc : it_Kc) (Φ : it_Me → Prop) (v5 : Int32) (v6 : Int32) (u1 : Int32) (u2 : Int32) (m : it_Me) (h : w_289_164 kc Φ v5 v6 u1 u2 m) : it_V kc it_sh0 289 164 [none, none, none, none, none, some (.int v5), some (.int v6), none, none, none, none, none] [(.int u2), (.int u1), (.ref 66)] m (it_Pv Φ) := by
  rw [w_289_164] at h
  refine it_V.sN it_cd289 it_m289 2 (pc1 := 168) (ls1 := [none, none, none, none, none, some (.int v5), some (.int v6), none, none, none, none, none]) (st1 := [(.int v6), (.int v5), (.int u2), (.int u1), (.ref 66)]) (mem1 := m) rfl ?_
  refine it_V.call it_cd289 it_m289 rfl it_m283 [(.ref 66), (.int u1), (.int u2), (.int v5), (.int v6)] [] rfl rfl ⟨Nat.le_of_ble_eq_true rfl, Nat.le_of_ble_eq_true rfl, Nat.le_of_ble_eq_true rfl, Nat.le_of_ble_eq_true rfl, rfl⟩ (s_283 kc u1 u2 v5 v6 m _ h) ?_
  rintro _ m1 ⟨rfl, h⟩
  refine it_V.at (pc1 := 171) (ls1 := [none, none, none, none, none, some (.int v5), some (.int v6), none, none, none, none, none]) (st1 := []) (mem1 := m1) rfl rfl rfl rfl ?_
  exact it_V.ret it_cd289 it_m289 rfl rfl ⟨rfl, h⟩
set_option maxRecDepth 100000 in
set_option maxHeartbeats 4000000 in
theorem s_289_195 (kc : it_Kc) (Φ : it_Me → Prop) (v1 : Int32) (v5 : Int32) (v6 : Int32) (u0 : Int32) (m : it_Me) (h : w_289_195 kc Φ v1 v5 v6 u0 m) : it_V kc it_sh0 289 195 [some (.ref 66), some (.int v1), none, none, none, some (.int v5), some (.int v6), none, none, none, none, none] [(.int u0)] m (it_Pv Φ) := by
  rw [w_289_195] at h
  refine it_V.sN it_cd289 it_m289 3 (pc1 := 200) (ls1 := [some (.ref 66), some (.int v1), none, none, none, some (.int v5), some (.int v6), none, none, some (.int u0), none, none]) (st1 := [(.int u0), (.ref 66)]) (mem1 := m) rfl ?_
  refine it_V.call it_cd289 it_m289 rfl it_m220 [(.ref 66), (.int u0)] [] rfl rfl ⟨Nat.le_of_ble_eq_true rfl, Nat.le_of_ble_eq_true rfl, Nat.le_of_ble_eq_true rfl, Nat.le_of_ble_eq_true rfl, rfl⟩ (s_220 kc u0 m _ h) ?_
  rintro _ m2 ⟨r1, rfl, h⟩
  refine it_V.at (pc1 := 203) (ls1 := [some (.ref 66), some (.int v1), none, none, none, some (.int v5), some (.int v6), none, none, some (.int u0), none, none]) (st1 := [(.int r1)]) (mem1 := m2) rfl rfl rfl rfl ?_
  refine it_V.sN it_cd289 it_m289 5 (pc1 := 210) (ls1 := [some (.ref 66), some (.int v1), none, none, none, some (.int v5), some (.int v6), none, none, some (.int u0), some (.int r1), none]) (st1 := [(.int (u0 + (4 : Int32))), (.ref 66)]) (mem1 := m2) rfl ?_
  refine it_V.call it_cd289 it_m289 rfl it_m220 [(.ref 66), (.int (u0 + (4 : Int32)))] [] rfl rfl ⟨Nat.le_of_ble_eq_true rfl, Nat.le_of_ble_eq_true rfl, Nat.le_of_ble_eq_true rfl, Nat.le_of_ble_eq_true rfl, rfl⟩ (s_220 kc (u0 + (4 : Int32)) m2 _ h) ?_
  rintro _ m4 ⟨r3, rfl, h⟩
  refine it_V.at (pc1 := 213) (ls1 := [some (.ref 66), some (.int v1), none, none, none, some (.int v5), some (.int v6), none, none, some (.int u0), some (.int r1), none]) (st1 := [(.int r3)]) (mem1 := m4) rfl rfl rfl rfl ?_
  refine it_V.sN it_cd289 it_m289 4 (pc1 := 220) (ls1 := [some (.ref 66), some (.int v1), none, none, none, some (.int v5), some (.int v6), none, none, some (.int u0), some (.int r1), some (.int r3)]) (st1 := [(.int v5), (.int u0), (.ref 66)]) (mem1 := m4) rfl ?_
  refine it_V.call it_cd289 it_m289 rfl it_m221 [(.ref 66), (.int u0), (.int v5)] [] rfl rfl ⟨Nat.le_of_ble_eq_true rfl, Nat.le_of_ble_eq_true rfl, Nat.le_of_ble_eq_true rfl, Nat.le_of_ble_eq_true rfl, rfl⟩ (s_221 kc u0 v5 m4 _ h) ?_
  rintro _ m5 ⟨rfl, h⟩
  refine it_V.at (pc1 := 223) (ls1 := [some (.ref 66), some (.int v1), none, none, none, some (.int v5), some (.int v6), none, none, some (.int u0), some (.int r1), some (.int r3)]) (st1 := []) (mem1 := m5) rfl rfl rfl rfl ?_
  refine it_V.sN it_cd289 it_m289 5 (pc1 := 230) (ls1 := [some (.ref 66), some (.int v1), none, none, none, some (.int v5), some (.int v6), none, none, some (.int u0), some (.int r1), some (.int r3)]) (st1 := [(.int v6), (.int (u0 + (4 : Int32))), (.ref 66)]) (mem1 := m5) rfl ?_
  refine it_V.call it_cd289 it_m289 rfl it_m221 [(.ref 66), (.int (u0 + (4 : Int32))), (.int v6)] [] rfl rfl ⟨Nat.le_of_ble_eq_true rfl, Nat.le_of_ble_eq_true rfl, Nat.le_of_ble_eq_true rfl, Nat.le_of_ble_eq_true rfl, rfl⟩ (s_221 kc (u0 + (4 : Int32)) v6 m5 _ h) ?_
  rintro _ m6 ⟨rfl, h⟩
  refine it_V.at (pc1 := 233) (ls1 := [some (.ref 66), some (.int v1), none, none, none, some (.int v5), some (.int v6), none, none, some (.int u0), some (.int r1), some (.int r3)]) (st1 := []) (mem1 := m6) rfl rfl rfl rfl ?_
  refine it_V.sN it_cd289 it_m289 5 (pc1 := 242) (ls1 := [some (.ref 66), some (.int v1), none, none, none, some (.int v5), some (.int v6), none, none, some (.int u0), some (.int r1), some (.int r3)]) (st1 := [(.int r3), (.int r1), (.int (130 : Int32)), (.int v1), (.ref 66)]) (mem1 := m6) rfl ?_
  refine it_V.call it_cd289 it_m289 rfl it_m279 [(.ref 66), (.int v1), (.int (130 : Int32)), (.int r1), (.int r3)] [] rfl rfl ⟨Nat.le_of_ble_eq_true rfl, Nat.le_of_ble_eq_true rfl, Nat.le_of_ble_eq_true rfl, Nat.le_of_ble_eq_true rfl, rfl⟩ (s_279 kc v1 (130 : Int32) r1 r3 m6 _ h) ?_
  rintro _ m7 ⟨rfl, h⟩
  refine it_V.at (pc1 := 245) (ls1 := [some (.ref 66), some (.int v1), none, none, none, some (.int v5), some (.int v6), none, none, some (.int u0), some (.int r1), some (.int r3)]) (st1 := []) (mem1 := m7) rfl rfl rfl rfl ?_
  exact it_V.ret it_cd289 it_m289 rfl rfl ⟨rfl, h⟩
set_option maxRecDepth 100000 in
set_option maxHeartbeats 4000000 in
theorem s_289_142 (kc : it_Kc) (Φ : it_Me → Prop) (v1 : Int32) (v2 : Int32) (v3 : Int32) (v4 : Int32) (v5 : Int32) (v6 : Int32) (v7 : Int32) (u0 : Int32) (m : it_Me) (h : w_289_142 kc Φ v1 v2 v3 v4 v5 v6 v7 u0 m) : it_V kc it_sh0 289 142 [some (.ref 66), some (.int v1), some (.int v2), some (.int v3), some (.int v4), some (.int v5), some (.int v6), some (.int v7), none, none, none, none] [(.int u0)] m (it_Pv Φ) := by
  rw [w_289_142] at h
  refine it_V.sN it_cd289 it_m289 4 (pc1 := (if u0 = (-1 : Int32) then 150 else 172)) (ls1 := [some (.ref 66), some (.int v1), some (.int v2), some (.int v3), some (.int v4), some (.int v5), some (.int v6), some (.int v7), some (.int u0), none, none, none]) (st1 := []) (mem1 := m) rfl ?_
  refine it_V.ite (fun c1 => ?_) (fun c1 => ?_)
  · have h := h.1 c1
    refine it_V.sN it_cd289 it_m289 4 (pc1 := (if v7 = 0 then 157 else 162)) (ls1 := [some (.ref 66), some (.int v1), some (.int v2), some (.int v3), some (.int v4), some (.int v5), some (.int v6), some (.int v7), some (.int u0), none, none, none]) (st1 := [(.int v1), (.ref 66)]) (mem1 := m) rfl ?_
    refine it_V.ite (fun c2 => ?_) (fun c2 => ?_)
    · have h := h.1 c2
      refine it_V.sN it_cd289 it_m289 2 (pc1 := 164) (ls1 := [some (.ref 66), some (.int v1), some (.int v2), some (.int v3), some (.int v4), some (.int v5), some (.int v6), some (.int v7), some (.int u0), none, none, none]) (st1 := [(.int (9 : Int32)), (.int v1), (.ref 66)]) (mem1 := m) rfl ?_
      refine it_V.weak (l := [none, none, none, none, none, some (.int v5), some (.int v6), none, none, none, none, none]) ⟨rfl, ⟨rfl, trivial⟩⟩ ?_
      exact s_289_164 kc Φ v5 v6 v1 (9 : Int32) m h
    · have h := h.2 c2
      refine it_V.sN it_cd289 it_m289 1 (pc1 := 164) (ls1 := [some (.ref 66), some (.int v1), some (.int v2), some (.int v3), some (.int v4), some (.int v5), some (.int v6), some (.int v7), some (.int u0), none, none, none]) (st1 := [(.int v7), (.int v1), (.ref 66)]) (mem1 := m) rfl ?_
      refine it_V.weak (l := [none, none, none, none, none, some (.int v5), some (.int v6), none, none, none, none, none]) ⟨rfl, ⟨rfl, trivial⟩⟩ ?_
      exact s_289_164 kc Φ v5 v6 v1 v7 m h
  · have h := h.2 c1
    refine it_V.sN it_cd289 it_m289 2 (pc1 := (if v2 = 0 then 187 else 176)) (ls1 := [some (.ref 66), some (.int v1), some (.int v2), some (.int v3), some (.int v4), some (.int v5), some (.int v6), some (.int v7), some (.int u0), none, none, none]) (st1 := []) (mem1 := m) rfl ?_
    refine it_V.ite (fun c3 => ?_) (fun c3 => ?_)
    · have h := h.1 c3
      refine it_V.sN it_cd289 it_m289 3 (pc1 := 192) (ls1 := [some (.ref 66), some (.int v1), some (.int v2), some (.int v3), some (.int v4), some (.int v5), some (.int v6), some (.int v7), some (.int u0), none, none, none]) (st1 := [(.int v4), (.int v3), (.int u0)]) (mem1 := m) rfl ?_
      refine it_V.call it_cd289 it_m289 rfl it_m270 [(.int u0), (.int v3), (.int v4)] [] rfl rfl ⟨Nat.le_of_ble_eq_true rfl, Nat.le_of_ble_eq_true rfl, Nat.le_of_ble_eq_true rfl, Nat.le_of_ble_eq_true rfl, rfl⟩ (s_270 kc u0 v3 v4 m _ h) ?_
      rintro _ m5 ⟨r4, rfl, h⟩
      refine it_V.at (pc1 := 195) (ls1 := [some (.ref 66), some (.int v1), some (.int v2), some (.int v3), some (.int v4), some (.int v5), some (.int v6), some (.int v7), some (.int u0), none, none, none]) (st1 := [(.int r4)]) (mem1 := m5) rfl rfl rfl rfl ?_
      refine it_V.weak (l := [some (.ref 66), some (.int v1), none, none, none, some (.int v5), some (.int v6), none, none, none, none, none]) ⟨rfl, ⟨rfl, ⟨rfl, ⟨rfl, trivial⟩⟩⟩⟩ ?_
      exact s_289_195 kc Φ v1 v5 v6 r4 m5 h
    · have h := h.2 c3
      refine it_V.sN it_cd289 it_m289 3 (pc1 := 181) (ls1 := [some (.ref 66), some (.int v1), some (.int v2), some (.int v3), some (.int v4), some (.int v5), some (.int v6), some (.int v7), some (.int u0), none, none, none]) (st1 := [(.int v4), (.int v3), (.int u0)]) (mem1 := m) rfl ?_
      refine it_V.call it_cd289 it_m289 rfl it_m271 [(.int u0), (.int v3), (.int v4)] [] rfl rfl ⟨Nat.le_of_ble_eq_true rfl, Nat.le_of_ble_eq_true rfl, Nat.le_of_ble_eq_true rfl, Nat.le_of_ble_eq_true rfl, rfl⟩ (s_271 kc u0 v3 v4 m _ h) ?_
      rintro _ m7 ⟨r6, rfl, h⟩
      refine it_V.at (pc1 := 184) (ls1 := [some (.ref 66), some (.int v1), some (.int v2), some (.int v3), some (.int v4), some (.int v5), some (.int v6), some (.int v7), some (.int u0), none, none, none]) (st1 := [(.int r6)]) (mem1 := m7) rfl rfl rfl rfl ?_
      refine it_V.sN it_cd289 it_m289 1 (pc1 := 195) (ls1 := [some (.ref 66), some (.int v1), some (.int v2), some (.int v3), some (.int v4), some (.int v5), some (.int v6), some (.int v7), some (.int u0), none, none, none]) (st1 := [(.int r6)]) (mem1 := m7) rfl ?_
      refine it_V.weak (l := [some (.ref 66), some (.int v1), none, none, none, some (.int v5), some (.int v6), none, none, none, none, none]) ⟨rfl, ⟨rfl, ⟨rfl, ⟨rfl, trivial⟩⟩⟩⟩ ?_
      exact s_289_195 kc Φ v1 v5 v6 r6 m7 h
set_option maxRecDepth 100000 in
set_option maxHeartbeats 4000000 in
theorem s_289_127 (kc : it_Kc) (Φ : it_Me → Prop) (v1 : Int32) (v2 : Int32) (v3 : Int32) (v4 : Int32) (v5 : Int32) (v6 : Int32) (v7 : Int32) (m : it_Me) (h : w_289_127 kc Φ v1 v2 v3 v4 v5 v6 v7 m) : it_V kc it_sh0 289 127 [some (.ref 66), some (.int v1), some (.int v2), some (.int v3), some (.int v4), some (.int v5), some (.int v6), some (.int v7), none, none, none, none] [] m (it_Pv Φ) := by
  rw [w_289_127] at h
  refine it_V.sN it_cd289 it_m289 2 (pc1 := (if v7 = 0 then 132 else 141)) (ls1 := [some (.ref 66), some (.int v1), some (.int v2), some (.int v3), some (.int v4), some (.int v5), some (.int v6), some (.int v7), none, none, none, none]) (st1 := []) (mem1 := m) rfl ?_
  refine it_V.ite (fun c1 => ?_) (fun c1 => ?_)
  · have h := h.1 c1
    refine it_V.sN it_cd289 it_m289 3 (pc1 := 135) (ls1 := [some (.ref 66), some (.int v1), some (.int v2), some (.int v3), some (.int v4), some (.int v5), some (.int v6), some (.int v7), none, none, none, none]) (st1 := [(.int v3), (.int v1), (.ref 66)]) (mem1 := m) rfl ?_
    refine it_V.call it_cd289 it_m289 rfl it_m273 [(.ref 66), (.int v1), (.int v3)] [] rfl rfl ⟨Nat.le_of_ble_eq_true rfl, Nat.le_of_ble_eq_true rfl, Nat.le_of_ble_eq_true rfl, Nat.le_of_ble_eq_true rfl, rfl⟩ (s_273 kc v1 v3 m _ h) ?_
    rintro _ m3 ⟨r2, rfl, h⟩
    refine it_V.at (pc1 := 138) (ls1 := [some (.ref 66), some (.int v1), some (.int v2), some (.int v3), some (.int v4), some (.int v5), some (.int v6), some (.int v7), none, none, none, none]) (st1 := [(.int r2)]) (mem1 := m3) rfl rfl rfl rfl ?_
    refine it_V.sN it_cd289 it_m289 1 (pc1 := 142) (ls1 := [some (.ref 66), some (.int v1), some (.int v2), some (.int v3), some (.int v4), some (.int v5), some (.int v6), some (.int v7), none, none, none, none]) (st1 := [(.int r2)]) (mem1 := m3) rfl ?_
    refine it_V.weak (l := [some (.ref 66), some (.int v1), some (.int v2), some (.int v3), some (.int v4), some (.int v5), some (.int v6), some (.int v7), none, none, none, none]) ⟨rfl, ⟨rfl, ⟨rfl, ⟨rfl, ⟨rfl, ⟨rfl, ⟨rfl, ⟨rfl, trivial⟩⟩⟩⟩⟩⟩⟩⟩ ?_
    exact s_289_142 kc Φ v1 v2 v3 v4 v5 v6 v7 r2 m3 h
  · have h := h.2 c1
    refine it_V.sN it_cd289 it_m289 1 (pc1 := 142) (ls1 := [some (.ref 66), some (.int v1), some (.int v2), some (.int v3), some (.int v4), some (.int v5), some (.int v6), some (.int v7), none, none, none, none]) (st1 := [(.int (-1 : Int32))]) (mem1 := m) rfl ?_
    refine it_V.weak (l := [some (.ref 66), some (.int v1), some (.int v2), some (.int v3), some (.int v4), some (.int v5), some (.int v6), some (.int v7), none, none, none, none]) ⟨rfl, ⟨rfl, ⟨rfl, ⟨rfl, ⟨rfl, ⟨rfl, ⟨rfl, ⟨rfl, trivial⟩⟩⟩⟩⟩⟩⟩⟩ ?_
    exact s_289_142 kc Φ v1 v2 v3 v4 v5 v6 v7 (-1 : Int32) m h
set_option maxRecDepth 100000 in
set_option maxHeartbeats 4000000 in
theorem s_289_125 (kc : it_Kc) (Φ : it_Me → Prop) (v1 : Int32) (v2 : Int32) (v3 : Int32) (v4 : Int32) (v5 : Int32) (v6 : Int32) (u0 : Int32) (m : it_Me) (h : w_289_125 kc Φ v1 v2 v3 v4 v5 v6 u0 m) : it_V kc it_sh0 289 125 [some (.ref 66), some (.int v1), some (.int v2), some (.int v3), some (.int v4), some (.int v5), some (.int v6), none, none, none, none, none] [(.int u0)] m (it_Pv Φ) := by
  rw [w_289_125] at h
  refine it_V.sN it_cd289 it_m289 1 (pc1 := 127) (ls1 := [some (.ref 66), some (.int v1), some (.int v2), some (.int v3), some (.int v4), some (.int v5), some (.int v6), some (.int u0), none, none, none, none]) (st1 := []) (mem1 := m) rfl ?_
  refine it_V.weak (l := [some (.ref 66), some (.int v1), some (.int v2), some (.int v3), some (.int v4), some (.int v5), some (.int v6), some (.int u0), none, none, none, none]) ⟨rfl, ⟨rfl, ⟨rfl, ⟨rfl, ⟨rfl, ⟨rfl, ⟨rfl, ⟨rfl, trivial⟩⟩⟩⟩⟩⟩⟩⟩ ?_
  exact s_289_127 kc Φ v1 v2 v3 v4 v5 v6 u0 m h
set_option maxRecDepth 100000 in
set_option maxHeartbeats 4000000 in
theorem s_289_123 (kc : it_Kc) (Φ : it_Me → Prop) (v1 : Int32) (v2 : Int32) (v3 : Int32) (v4 : Int32) (v5 : Int32) (v6 : Int32) (m : it_Me) (h : w_289_123 kc Φ v1 v2 v3 v4 v5 v6 m) : it_V kc it_sh0 289 123 [some (.ref 66), some (.int v1), some (.int v2), some (.int v3), some (.int v4), some (.int v5), some (.int v6), none, none, none, none, none] [] m (it_Pv Φ) := by
  rw [w_289_123] at h
  refine it_V.sN it_cd289 it_m289 1 (pc1 := 125) (ls1 := [some (.ref 66), some (.int v1), some (.int v2), some (.int v3), some (.int v4), some (.int v5), some (.int v6), none, none, none, none, none]) (st1 := [(.int (6 : Int32))]) (mem1 := m) rfl ?_
  refine it_V.weak (l := [some (.ref 66), some (.int v1), some (.int v2), some (.int v3), some (.int v4), some (.int v5), some (.int v6), none, none, none, none, none]) ⟨rfl, ⟨rfl, ⟨rfl, ⟨rfl, ⟨rfl, ⟨rfl, ⟨rfl, trivial⟩⟩⟩⟩⟩⟩⟩ ?_
  exact s_289_125 kc Φ v1 v2 v3 v4 v5 v6 (6 : Int32) m h
set_option maxRecDepth 100000 in
set_option maxHeartbeats 4000000 in
theorem s_289_107 (kc : it_Kc) (Φ : it_Me → Prop) (v1 : Int32) (v2 : Int32) (v3 : Int32) (v4 : Int32) (v5 : Int32) (v6 : Int32) (v8 : Int32) (u0 : Int32) (m : it_Me) (h : w_289_107 kc Φ v1 v2 v3 v4 v5 v6 v8 u0 m) : it_V kc it_sh0 289 107 [some (.ref 66), some (.int v1), some (.int v2), some (.int v3), some (.int v4), some (.int v5), some (.int v6), none, some (.int v8), none, none, none] [(.int u0)] m (it_Pv Φ) := by
  rw [w_289_107] at h
  refine it_V.sN it_cd289 it_m289 3 (pc1 := (if v8 = 0 then 123 else 114)) (ls1 := [some (.ref 66), some (.int v1), some (.int v2), some (.int v3), some (.int v4), some (.int v5), some (.int v6), none, some (.int v8), some (.int u0), none, none]) (st1 := []) (mem1 := m) rfl ?_
  refine it_V.ite (fun c1 => ?_) (fun c1 => ?_)
  · have h := h.1 c1
    refine it_V.weak (l := [some (.ref 66), some (.int v1), some (.int v2), some (.int v3), some (.int v4), some (.int v5), some (.int v6), none, none, none, none, none]) ⟨rfl, ⟨rfl, ⟨rfl, ⟨rfl, ⟨rfl, ⟨rfl, ⟨rfl, trivial⟩⟩⟩⟩⟩⟩⟩ ?_
    exact s_289_123 kc Φ v1 v2 v3 v4 v5 v6 m h
  · have h := h.2 c1
    refine it_V.sN it_cd289 it_m289 2 (pc1 := (if u0 = 0 then 123 else 119)) (ls1 := [some (.ref 66), some (.int v1), some (.int v2), some (.int v3), some (.int v4), some (.int v5), some (.int v6), none, some (.int v8), some (.int u0), none, none]) (st1 := []) (mem1 := m) rfl ?_
    refine it_V.ite (fun c2 => ?_) (fun c2 => ?_)
    · have h := h.1 c2
      refine it_V.weak (l := [some (.ref 66), some (.int v1), some (.int v2), some (.int v3), some (.int v4), some (.int v5), some (.int v6), none, none, none, none, none]) ⟨rfl, ⟨rfl, ⟨rfl, ⟨rfl, ⟨rfl, ⟨rfl, ⟨rfl, trivial⟩⟩⟩⟩⟩⟩⟩ ?_
      exact s_289_123 kc Φ v1 v2 v3 v4 v5 v6 m h
    · have h := h.2 c2
      refine it_V.sN it_cd289 it_m289 2 (pc1 := 125) (ls1 := [some (.ref 66), some (.int v1), some (.int v2), some (.int v3), some (.int v4), some (.int v5), some (.int v6), none, some (.int v8), some (.int u0), none, none]) (st1 := [(.int (0 : Int32))]) (mem1 := m) rfl ?_
      refine it_V.weak (l := [some (.ref 66), some (.int v1), some (.int v2), some (.int v3), some (.int v4), some (.int v5), some (.int v6), none, none, none, none, none]) ⟨rfl, ⟨rfl, ⟨rfl, ⟨rfl, ⟨rfl, ⟨rfl, ⟨rfl, trivial⟩⟩⟩⟩⟩⟩⟩ ?_
      exact s_289_125 kc Φ v1 v2 v3 v4 v5 v6 (0 : Int32) m h
set_option maxRecDepth 100000 in
set_option maxHeartbeats 4000000 in
theorem s_289_102 (kc : it_Kc) (Φ : it_Me → Prop) (v1 : Int32) (v2 : Int32) (v3 : Int32) (v4 : Int32) (v5 : Int32) (v6 : Int32) (v8 : Int32) (m : it_Me) (h : w_289_102 kc Φ v1 v2 v3 v4 v5 v6 v8 m) : it_V kc it_sh0 289 102 [some (.ref 66), some (.int v1), some (.int v2), some (.int v3), some (.int v4), some (.int v5), some (.int v6), none, some (.int v8), none, none, none] [] m (it_Pv Φ) := by
  rw [w_289_102] at h
  refine it_V.sN it_cd289 it_m289 2 (pc1 := 107) (ls1 := [some (.ref 66), some (.int v1), some (.int v2), some (.int v3), some (.int v4), some (.int v5), some (.int v6), none, some (.int v8), none, none, none]) (st1 := [(.int (1 : Int32))]) (mem1 := m) rfl ?_
  refine it_V.weak (l := [some (.ref 66), some (.int v1), some (.int v2), some (.int v3), some (.int v4), some (.int v5), some (.int v6), none, some (.int v8), none, none, none]) ⟨rfl, ⟨rfl, ⟨rfl, ⟨rfl, ⟨rfl, ⟨rfl, ⟨rfl, ⟨rfl, trivial⟩⟩⟩⟩⟩⟩⟩⟩ ?_
  exact s_289_107 kc Φ v1 v2 v3 v4 v5 v6 v8 (1 : Int32) m h
set_option maxRecDepth 100000 in
set_option maxHeartbeats 4000000 in
theorem s_289_106 (kc : it_Kc) (Φ : it_Me → Prop) (v1 : Int32) (v2 : Int32) (v3 : Int32) (v4 : Int32) (v5 : Int32) (v6 : Int32) (v8 : Int32) (m : it_Me) (h : w_289_106 kc Φ v1 v2 v3 v4 v5 v6 v8 m) : it_V kc it_sh0 289 106 [some (.ref 66), some (.int v1), some (.int v2), some (.int v3), some (.int v4), some (.int v5), some (.int v6), none, some (.int v8), none, none, none] [] m (it_Pv Φ) := by
  rw [w_289_106] at h
  refine it_V.sN it_cd289 it_m289 1 (pc1 := 107) (ls1 := [some (.ref 66), some (.int v1), some (.int v2), some (.int v3), some (.int v4), some (.int v5), some (.int v6), none, some (.int v8), none, none, none]) (st1 := [(.int (0 : Int32))]) (mem1 := m) rfl ?_
  refine it_V.weak (l := [some (.ref 66), some (.int v1), some (.int v2), some (.int v3), some (.int v4), some (.int v5), some (.int v6), none, some (.int v8), none, none, none]) ⟨rfl, ⟨rfl, ⟨rfl, ⟨rfl, ⟨rfl, ⟨rfl, ⟨rfl, ⟨rfl, trivial⟩⟩⟩⟩⟩⟩⟩⟩ ?_
  exact s_289_107 kc Φ v1 v2 v3 v4 v5 v6 v8 (0 : Int32) m h
set_option maxRecDepth 100000 in
set_option maxHeartbeats 4000000 in
theorem s_289_47 (kc : it_Kc) (Φ : it_Me → Prop) (v1 : Int32) (v2 : Int32) (v3 : Int32) (v4 : Int32) (v5 : Int32) (v6 : Int32) (u0 : Int32) (m : it_Me) (h : w_289_47 kc Φ v1 v2 v3 v4 v5 v6 u0 m) : it_V kc it_sh0 289 47 [some (.ref 66), some (.int v1), some (.int v2), some (.int v3), some (.int v4), some (.int v5), some (.int v6), none, none, none, none, none] [(.int u0)] m (it_Pv Φ) := by
  rw [w_289_47] at h
  refine it_V.sN it_cd289 it_m289 3 (pc1 := (if v6 = 0 then 102 else 54)) (ls1 := [some (.ref 66), some (.int v1), some (.int v2), some (.int v3), some (.int v4), some (.int v5), some (.int v6), none, some (.int u0), none, none, none]) (st1 := []) (mem1 := m) rfl ?_
  refine it_V.ite (fun c1 => ?_) (fun c1 => ?_)
  · have h := h.1 c1
    refine it_V.weak (l := [some (.ref 66), some (.int v1), some (.int v2), some (.int v3), some (.int v4), some (.int v5), some (.int v6), none, some (.int u0), none, none, none]) ⟨rfl, ⟨rfl, ⟨rfl, ⟨rfl, ⟨rfl, ⟨rfl, ⟨rfl, ⟨rfl, trivial⟩⟩⟩⟩⟩⟩⟩⟩ ?_
    exact s_289_102 kc Φ v1 v2 v3 v4 v5 v6 u0 m h
  · have h := h.2 c1
    refine it_V.sN it_cd289 it_m289 10 (pc1 := 70) (ls1 := [some (.ref 66), some (.int v1), some (.int v2), some (.int v3), some (.int v4), some (.int v5), some (.int v6), none, some (.int u0), none, none, none]) (st1 := [(.long ((Int32.toInt64 v6) &&& (4294967295 : Int64))), (.long ((Int32.toInt64 v5) &&& (4294967295 : Int64))), (.int v1), (.ref 66)]) (mem1 := m) rfl ?_
    refine it_V.call it_cd289 it_m289 rfl it_m260 [(.ref 66), (.int v1), (.long ((Int32.toInt64 v5) &&& (4294967295 : Int64))), (.long ((Int32.toInt64 v6) &&& (4294967295 : Int64)))] [] rfl rfl ⟨Nat.le_of_ble_eq_true rfl, Nat.le_of_ble_eq_true rfl, Nat.le_of_ble_eq_true rfl, Nat.le_of_ble_eq_true rfl, rfl⟩ (s_260 kc v1 ((Int32.toInt64 v5) &&& (4294967295 : Int64)) ((Int32.toInt64 v6) &&& (4294967295 : Int64)) m _ h) ?_
    rintro _ m3 ⟨r2, rfl, h⟩
    refine it_V.at (pc1 := 73) (ls1 := [some (.ref 66), some (.int v1), some (.int v2), some (.int v3), some (.int v4), some (.int v5), some (.int v6), none, some (.int u0), none, none, none]) (st1 := [(.int r2)]) (mem1 := m3) rfl rfl rfl rfl ?_
    refine it_V.sN it_cd289 it_m289 1 (pc1 := (if r2 = 0 then 76 else 102)) (ls1 := [some (.ref 66), some (.int v1), some (.int v2), some (.int v3), some (.int v4), some (.int v5), some (.int v6), none, some (.int u0), none, none, none]) (st1 := []) (mem1 := m3) rfl ?_
    refine it_V.ite (fun c4 => ?_) (fun c4 => ?_)
    · have h := h.1 c4
      refine it_V.sN it_cd289 it_m289 2 (pc1 := (if v2 = 0 then 80 else 106)) (ls1 := [some (.ref 66), some (.int v1), some (.int v2), some (.int v3), some (.int v4), some (.int v5), some (.int v6), none, some (.int u0), none, none, none]) (st1 := []) (mem1 := m3) rfl ?_
      refine it_V.ite (fun c5 => ?_) (fun c5 => ?_)
      · have h := h.1 c5
        refine it_V.sN it_cd289 it_m289 10 (pc1 := 96) (ls1 := [some (.ref 66), some (.int v1), some (.int v2), some (.int v3), some (.int v4), some (.int v5), some (.int v6), none, some (.int u0), none, none, none]) (st1 := [(.long ((Int32.toInt64 v6) &&& (4294967295 : Int64))), (.long ((Int32.toInt64 v5) &&& (4294967295 : Int64))), (.int v1), (.ref 66)]) (mem1 := m3) rfl ?_
        refine it_V.call it_cd289 it_m289 rfl it_m261 [(.ref 66), (.int v1), (.long ((Int32.toInt64 v5) &&& (4294967295 : Int64))), (.long ((Int32.toInt64 v6) &&& (4294967295 : Int64)))] [] rfl rfl ⟨Nat.le_of_ble_eq_true rfl, Nat.le_of_ble_eq_true rfl, Nat.le_of_ble_eq_true rfl, Nat.le_of_ble_eq_true rfl, rfl⟩ (s_261 kc v1 ((Int32.toInt64 v5) &&& (4294967295 : Int64)) ((Int32.toInt64 v6) &&& (4294967295 : Int64)) m3 _ h) ?_
        rintro _ m7 ⟨r6, rfl, h⟩
        refine it_V.at (pc1 := 99) (ls1 := [some (.ref 66), some (.int v1), some (.int v2), some (.int v3), some (.int v4), some (.int v5), some (.int v6), none, some (.int u0), none, none, none]) (st1 := [(.int r6)]) (mem1 := m7) rfl rfl rfl rfl ?_
        refine it_V.sN it_cd289 it_m289 1 (pc1 := (if r6 = 0 then 106 else 102)) (ls1 := [some (.ref 66), some (.int v1), some (.int v2), some (.int v3), some (.int v4), some (.int v5), some (.int v6), none, some (.int u0), none, none, none]) (st1 := []) (mem1 := m7) rfl ?_
        refine it_V.ite (fun c8 => ?_) (fun c8 => ?_)
        · have h := h.1 c8
          refine it_V.weak (l := [some (.ref 66), some (.int v1), some (.int v2), some (.int v3), some (.int v4), some (.int v5), some (.int v6), none, some (.int u0), none, none, none]) ⟨rfl, ⟨rfl, ⟨rfl, ⟨rfl, ⟨rfl, ⟨rfl, ⟨rfl, ⟨rfl, trivial⟩⟩⟩⟩⟩⟩⟩⟩ ?_
          exact s_289_106 kc Φ v1 v2 v3 v4 v5 v6 u0 m7 h
        · have h := h.2 c8
          refine it_V.weak (l := [some (.ref 66), some (.int v1), some (.int v2), some (.int v3), some (.int v4), some (.int v5), some (.int v6), none, some (.int u0), none, none, none]) ⟨rfl, ⟨rfl, ⟨rfl, ⟨rfl, ⟨rfl, ⟨rfl, ⟨rfl, ⟨rfl, trivial⟩⟩⟩⟩⟩⟩⟩⟩ ?_
          exact s_289_102 kc Φ v1 v2 v3 v4 v5 v6 u0 m7 h
      · have h := h.2 c5
        refine it_V.weak (l := [some (.ref 66), some (.int v1), some (.int v2), some (.int v3), some (.int v4), some (.int v5), some (.int v6), none, some (.int u0), none, none, none]) ⟨rfl, ⟨rfl, ⟨rfl, ⟨rfl, ⟨rfl, ⟨rfl, ⟨rfl, ⟨rfl, trivial⟩⟩⟩⟩⟩⟩⟩⟩ ?_
        exact s_289_106 kc Φ v1 v2 v3 v4 v5 v6 u0 m3 h
    · have h := h.2 c4
      refine it_V.weak (l := [some (.ref 66), some (.int v1), some (.int v2), some (.int v3), some (.int v4), some (.int v5), some (.int v6), none, some (.int u0), none, none, none]) ⟨rfl, ⟨rfl, ⟨rfl, ⟨rfl, ⟨rfl, ⟨rfl, ⟨rfl, ⟨rfl, trivial⟩⟩⟩⟩⟩⟩⟩⟩ ?_
      exact s_289_102 kc Φ v1 v2 v3 v4 v5 v6 u0 m3 h
set_option maxRecDepth 100000 in
set_option maxHeartbeats 4000000 in
theorem s_289_46 (kc : it_Kc) (Φ : it_Me → Prop) (v1 : Int32) (v2 : Int32) (v3 : Int32) (v4 : Int32) (v5 : Int32) (v6 : Int32) (m : it_Me) (h : w_289_46 kc Φ v1 v2 v3 v4 v5 v6 m) : it_V kc it_sh0 289 46 [some (.ref 66), some (.int v1), some (.int v2), some (.int v3), some (.int v4), some (.int v5), some (.int v6), none, none, none, none, none] [] m (it_Pv Φ) := by
  rw [w_289_46] at h
  refine it_V.sN it_cd289 it_m289 1 (pc1 := 47) (ls1 := [some (.ref 66), some (.int v1), some (.int v2), some (.int v3), some (.int v4), some (.int v5), some (.int v6), none, none, none, none, none]) (st1 := [(.int (0 : Int32))]) (mem1 := m) rfl ?_
  refine it_V.weak (l := [some (.ref 66), some (.int v1), some (.int v2), some (.int v3), some (.int v4), some (.int v5), some (.int v6), none, none, none, none, none]) ⟨rfl, ⟨rfl, ⟨rfl, ⟨rfl, ⟨rfl, ⟨rfl, ⟨rfl, trivial⟩⟩⟩⟩⟩⟩⟩ ?_
  exact s_289_47 kc Φ v1 v2 v3 v4 v5 v6 (0 : Int32) m h
set_option maxRecDepth 100000 in
set_option maxHeartbeats 4000000 in
theorem s_289_39 (kc : it_Kc) (Φ : it_Me → Prop) (v1 : Int32) (v2 : Int32) (v3 : Int32) (v4 : Int32) (v5 : Int32) (v6 : Int32) (u0 : Int32) (u1 : Int32) (m : it_Me) (h : w_289_39 kc Φ v1 v2 v3 v4 v5 v6 u0 u1 m) : it_V kc it_sh0 289 39 [some (.ref 66), some (.int v1), some (.int v2), some (.int v3), some (.int v4), some (.int v5), some (.int v6), none, none, none, none, none] [(.int u1), (.int u0)] m (it_Pv Φ) := by
  rw [w_289_39] at h
  refine it_V.sN it_cd289 it_m289 1 (pc1 := (if u1 ≤ u0 then 46 else 42)) (ls1 := [some (.ref 66), some (.int v1), some (.int v2), some (.int v3), some (.int v4), some (.int v5), some (.int v6), none, none, none, none, none]) (st1 := []) (mem1 := m) rfl ?_
  refine it_V.ite (fun c1 => ?_) (fun c1 => ?_)
  · have h := h.1 c1
    refine it_V.weak (l := [some (.ref 66), some (.int v1), some (.int v2), some (.int v3), some (.int v4), some (.int v5), some (.int v6), none, none, none, none, none]) ⟨rfl, ⟨rfl, ⟨rfl, ⟨rfl, ⟨rfl, ⟨rfl, ⟨rfl, trivial⟩⟩⟩⟩⟩⟩⟩ ?_
    exact s_289_46 kc Φ v1 v2 v3 v4 v5 v6 m h
  · have h := h.2 c1
    refine it_V.sN it_cd289 it_m289 2 (pc1 := 47) (ls1 := [some (.ref 66), some (.int v1), some (.int v2), some (.int v3), some (.int v4), some (.int v5), some (.int v6), none, none, none, none, none]) (st1 := [(.int (1 : Int32))]) (mem1 := m) rfl ?_
    refine it_V.weak (l := [some (.ref 66), some (.int v1), some (.int v2), some (.int v3), some (.int v4), some (.int v5), some (.int v6), none, none, none, none, none]) ⟨rfl, ⟨rfl, ⟨rfl, ⟨rfl, ⟨rfl, ⟨rfl, ⟨rfl, trivial⟩⟩⟩⟩⟩⟩⟩ ?_
    exact s_289_47 kc Φ v1 v2 v3 v4 v5 v6 (1 : Int32) m h
set_option maxRecDepth 100000 in
set_option maxHeartbeats 4000000 in
theorem s_289 (kc : it_Kc) (x0 : Int32) (x1 : Int32) (x2 : Int32) (x3 : Int32) (x4 : Int32) (x5 : Int32) (m : it_Me) (Φ : it_Me → Prop) (h : w_289 kc x0 x1 x2 x3 x4 x5 m Φ) : it_V kc it_sh0 289 0 (it_loc0 [(.ref 66), (.int x0), (.int x1), (.int x2), (.int x3), (.int x4), (.int x5)] 12) [] m (it_Pv Φ) := by
  rw [w_289] at h
  refine it_V.at (pc1 := 0) (ls1 := [some (.ref 66), some (.int x0), some (.int x1), some (.int x2), some (.int x3), some (.int x4), some (.int x5), none, none, none, none, none]) (st1 := []) (mem1 := m) rfl rfl rfl rfl ?_
  refine it_V.sN it_cd289 it_m289 3 (pc1 := 4) (ls1 := [some (.ref 66), some (.int x0), some (.int x1), some (.int x2), some (.int x3), some (.int x4), some (.int x5), some (.int (0 : Int32)), none, none, none, none]) (st1 := [(.int x2)]) (mem1 := m) rfl ?_
  refine it_V.call it_cd289 it_m289 rfl it_m287 [(.int x2)] [] rfl rfl ⟨Nat.le_of_ble_eq_true rfl, Nat.le_of_ble_eq_true rfl, Nat.le_of_ble_eq_true rfl, Nat.le_of_ble_eq_true rfl, rfl⟩ (s_287 kc x2 m _ h) ?_
  rintro _ m2 ⟨r1, rfl, h⟩
  refine it_V.at (pc1 := 7) (ls1 := [some (.ref 66), some (.int x0), some (.int x1), some (.int x2), some (.int x3), some (.int x4), some (.int x5), some (.int (0 : Int32)), none, none, none, none]) (st1 := [(.int r1)]) (mem1 := m2) rfl rfl rfl rfl ?_
  refine it_V.sN it_cd289 it_m289 1 (pc1 := (if r1 = 0 then 10 else 17)) (ls1 := [some (.ref 66), some (.int x0), some (.int x1), some (.int x2), some (.int x3), some (.int x4), some (.int x5), some (.int (0 : Int32)), none, none, none, none]) (st1 := []) (mem1 := m2) rfl ?_
  refine it_V.ite (fun c3 => ?_) (fun c3 => ?_)
  · have h := h.1 c3
    refine it_V.sN it_cd289 it_m289 3 (pc1 := 127) (ls1 := [some (.ref 66), some (.int x0), some (.int x1), some (.int x2), some (.int x3), some (.int x4), some (.int x5), some (.int (11 : Int32)), none, none, none, none]) (st1 := []) (mem1 := m2) rfl ?_
    exact s_289_127 kc Φ x0 x1 x2 x3 x4 x5 (11 : Int32) m2 h
  · have h := h.2 c3
    refine it_V.sN it_cd289 it_m289 2 (pc1 := (if x3 < 0 then 46 else 22)) (ls1 := [some (.ref 66), some (.int x0), some (.int x1), some (.int x2), some (.int x3), some (.int x4), some (.int x5), some (.int (0 : Int32)), none, none, none, none]) (st1 := []) (mem1 := m2) rfl ?_
    refine it_V.ite (fun c4 => ?_) (fun c4 => ?_)
    · have h := h.1 c4
      refine it_V.weak (l := [some (.ref 66), some (.int x0), some (.int x1), some (.int x2), some (.int x3), some (.int x4), some (.int x5), none, none, none, none, none]) ⟨rfl, ⟨rfl, ⟨rfl, ⟨rfl, ⟨rfl, ⟨rfl, ⟨rfl, trivial⟩⟩⟩⟩⟩⟩⟩ ?_
      exact s_289_46 kc Φ x0 x1 x2 x3 x4 x5 m2 h
    · have h := h.2 c4
      refine it_V.sN it_cd289 it_m289 3 (pc1 := (if x1 = 0 then 35 else 28)) (ls1 := [some (.ref 66), some (.int x0), some (.int x1), some (.int x2), some (.int x3), some (.int x4), some (.int x5), some (.int (0 : Int32)), none, none, none, none]) (st1 := [(.int x3)]) (mem1 := m2) rfl ?_
      refine it_V.ite (fun c5 => ?_) (fun c5 => ?_)
      · have h := h.1 c5
        refine it_V.sN it_cd289 it_m289 1 (pc1 := 36) (ls1 := [some (.ref 66), some (.int x0), some (.int x1), some (.int x2), some (.int x3), some (.int x4), some (.int x5), some (.int (0 : Int32)), none, none, none, none]) (st1 := [(.int x2), (.int x3)]) (mem1 := m2) rfl ?_
        refine it_V.call it_cd289 it_m289 rfl it_m265 [(.int x2)] [(.int x3)] rfl rfl ⟨Nat.le_of_ble_eq_true rfl, Nat.le_of_ble_eq_true rfl, Nat.le_of_ble_eq_true rfl, Nat.le_of_ble_eq_true rfl, rfl⟩ (s_265 kc x2 m2 _ h) ?_
        rintro _ m7 ⟨r6, rfl, h⟩
        refine it_V.at (pc1 := 39) (ls1 := [some (.ref 66), some (.int x0), some (.int x1), some (.int x2), some (.int x3), some (.int x4), some (.int x5), some (.int (0 : Int32)), none, none, none, none]) (st1 := [(.int r6), (.int x3)]) (mem1 := m7) rfl rfl rfl rfl ?_
        refine it_V.weak (l := [some (.ref 66), some (.int x0), some (.int x1), some (.int x2), some (.int x3), some (.int x4), some (.int x5), none, none, none, none, none]) ⟨rfl, ⟨rfl, ⟨rfl, ⟨rfl, ⟨rfl, ⟨rfl, ⟨rfl, trivial⟩⟩⟩⟩⟩⟩⟩ ?_
        exact s_289_39 kc Φ x0 x1 x2 x3 x4 x5 x3 r6 m7 h
      · have h := h.2 c5
        refine it_V.sN it_cd289 it_m289 1 (pc1 := 29) (ls1 := [some (.ref 66), some (.int x0), some (.int x1), some (.int x2), some (.int x3), some (.int x4), some (.int x5), some (.int (0 : Int32)), none, none, none, none]) (st1 := [(.int x2), (.int x3)]) (mem1 := m2) rfl ?_
        refine it_V.call it_cd289 it_m289 rfl it_m266 [(.int x2)] [(.int x3)] rfl rfl ⟨Nat.le_of_ble_eq_true rfl, Nat.le_of_ble_eq_true rfl, Nat.le_of_ble_eq_true rfl, Nat.le_of_ble_eq_true rfl, rfl⟩ (s_266 kc x2 m2 _ h) ?_
        rintro _ m9 ⟨r8, rfl, h⟩
        refine it_V.at (pc1 := 32) (ls1 := [some (.ref 66), some (.int x0), some (.int x1), some (.int x2), some (.int x3), some (.int x4), some (.int x5), some (.int (0 : Int32)), none, none, none, none]) (st1 := [(.int r8), (.int x3)]) (mem1 := m9) rfl rfl rfl rfl ?_
        refine it_V.sN it_cd289 it_m289 1 (pc1 := 39) (ls1 := [some (.ref 66), some (.int x0), some (.int x1), some (.int x2), some (.int x3), some (.int x4), some (.int x5), some (.int (0 : Int32)), none, none, none, none]) (st1 := [(.int r8), (.int x3)]) (mem1 := m9) rfl ?_
        refine it_V.weak (l := [some (.ref 66), some (.int x0), some (.int x1), some (.int x2), some (.int x3), some (.int x4), some (.int x5), none, none, none, none, none]) ⟨rfl, ⟨rfl, ⟨rfl, ⟨rfl, ⟨rfl, ⟨rfl, ⟨rfl, trivial⟩⟩⟩⟩⟩⟩⟩ ?_
        exact s_289_39 kc Φ x0 x1 x2 x3 x4 x5 x3 r8 m9 h
set_option maxRecDepth 100000 in
set_option maxHeartbeats 4000000 in
theorem s_292_88 (kc : it_Kc) (Φ : Int32 → it_Me → Prop) (K34 : Int32 → Int32 → Int32 → Int32 → Int32 → it_Me → Prop) (K95 : Int32 → Int32 → Int32 → Int32 → it_Me → Prop) (hK34 : ∀ (v1 : Int32) (v2 : Int32) (v3 : Int32) (v4 : Int32) (v5 : Int32) (m : it_Me), K34 v1 v2 v3 v4 v5 m → it_V kc it_sh0 292 34 [some (.ref 66), some (.int v1), some (.int v2), some (.int v3), some (.int v4), some (.int v5), none, none] [] m (it_Pi Φ)) (hK95 : ∀ (v1 : Int32) (v2 : Int32) (v3 : Int32) (v4 : Int32) (m : it_Me), K95 v1 v2 v3 v4 m → it_V kc it_sh0 292 95 [some (.ref 66), some (.int v1), some (.int v2), some (.int v3), some (.int v4), none, none, none] [] m (it_Pi Φ)) (v1 : Int32) (v3 : Int32) (v4 : Int32) (v5 : Int32) (u0 : Int32) (m : it_Me) (h : w_292_88 kc Φ K34 K95 v1 v3 v4 v5 u0 m) : it_V kc it_sh0 292 88 [some (.ref 66), some (.int v1), none, some (.int v3), some (.int v4), some (.int v5), none, none] [(.int u0)] m (it_Pi Φ) := by
  rw [w_292_88] at h
  refine it_V.sN it_cd292 it_m292 3 (pc1 := 34) (ls1 := [some (.ref 66), some (.int v1), some (.int u0), some (.int v3), some (.int v4), some (.int (v5 + (8 : Int32))), none, none]) (st1 := []) (mem1 := m) rfl ?_
  refine it_V.weak (l := [some (.ref 66), some (.int v1), some (.int u0), some (.int v3), some (.int v4), some (.int (v5 + (8 : Int32))), none, none]) ⟨rfl, ⟨rfl, ⟨rfl, ⟨rfl, ⟨rfl, ⟨rfl, trivial⟩⟩⟩⟩⟩⟩ ?_
  exact hK34 v1 u0 v3 v4 (v5 + (8 : Int32)) m h
set_option maxRecDepth 100000 in
set_option maxHeartbeats 4000000 in
theorem s_292_87 (kc : it_Kc) (Φ : Int32 → it_Me → Prop) (K34 : Int32 → Int32 → Int32 → Int32 → Int32 → it_Me → Prop) (K95 : Int32 → Int32 → Int32 → Int32 → it_Me → Prop) (hK34 : ∀ (v1 : Int32) (v2 : Int32) (v3 : Int32) (v4 : Int32) (v5 : Int32) (m : it_Me), K34 v1 v2 v3 v4 v5 m → it_V kc it_sh0 292 34 [some (.ref 66), some (.int v1), some (.int v2), some (.int v3), some (.int v4), some (.int v5), none, none] [] m (it_Pi Φ)) (hK95 : ∀ (v1 : Int32) (v2 : Int32) (v3 : Int32) (v4 : Int32) (m : it_Me), K95 v1 v2 v3 v4 m → it_V kc it_sh0 292 95 [some (.ref 66), some (.int v1), some (.int v2), some (.int v3), some (.int v4), none, none, none] [] m (it_Pi Φ)) (v1 : Int32) (v2 : Int32) (v3 : Int32) (v4 : Int32) (v5 : Int32) (m : it_Me) (h : w_292_87 kc Φ K34 K95 v1 v2 v3 v4 v5 m) : it_V kc it_sh0 292 87 [some (.ref 66), some (.int v1), some (.int v2), some (.int v3), some (.int v4), some (.int v5), none, none] [] m (it_Pi Φ) := by
  rw [w_292_87] at h
  refine it_V.sN it_cd292 it_m292 1 (pc1 := 88) (ls1 := [some (.ref 66), some (.int v1), some (.int v2), some (.int v3), some (.int v4), some (.int v5), none, none]) (st1 := [(.int v2)]) (mem1 := m) rfl ?_
  refine it_V.weak (l := [some (.ref 66), some (.int v1), none, some (.int v3), some (.int v4), some (.int v5), none, none]) ⟨rfl, ⟨rfl, ⟨rfl, ⟨rfl, ⟨rfl, trivial⟩⟩⟩⟩⟩ ?_
  exact s_292_88 kc Φ _ _ hK34 hK95 v1 v3 v4 v5 v2 m h
set_option maxRecDepth 100000 in
set_option maxHeartbeats 4000000 in
theorem s_292_34 (kc : it_Kc) (Φ : Int32 → it_Me → Prop) (K95 : Int32 → Int32 → Int32 → Int32 → it_Me → Prop) (hK95 : ∀ (v1 : Int32) (v2 : Int32) (v3 : Int32) (v4 : Int32) (m : it_Me), K95 v1 v2 v3 v4 m → it_V kc it_sh0 292 95 [some (.ref 66), some (.int v1), some (.int v2), some (.int v3), some (.int v4), none, none, none] [] m (it_Pi Φ)) : ∀ (n : Nat) (v1 : Int32) (v2 : Int32) (v3 : Int32) (v4 : Int32) (v5 : Int32) (m : it_Me) (h : w_292_34 kc Φ K95 n v1 v2 v3 v4 v5 m), it_V kc it_sh0 292 34 [some (.ref 66), some (.int v1), some (.int v2), some (.int v3), some (.int v4), some (.int v5), none, none] [] m (it_Pi Φ) := by
  intro n
  induction n with
  | zero => intro v1 v2 v3 v4 v5 m h; exact absurd h id
  | succ n ih =>
    intro v1 v2 v3 v4 v5 m h
    rw [w_292_34] at h
    refine it_V.sN it_cd292 it_m292 3 (pc1 := 39) (ls1 := [some (.ref 66), some (.int v1), some (.int v2), some (.int v3), some (.int v4), some (.int v5), none, none]) (st1 := [(.int v4), (.int v3), (.int v5)]) (mem1 := m) rfl ?_
    refine it_V.call it_cd292 it_m292 rfl it_m269 [(.int v3), (.int v4)] [(.int v5)] rfl rfl ⟨Nat.le_of_ble_eq_true rfl, Nat.le_of_ble_eq_true rfl, Nat.le_of_ble_eq_true rfl, Nat.le_of_ble_eq_true rfl, rfl⟩ (s_269 kc v3 v4 m _ h) ?_
    rintro _ m2 ⟨r1, rfl, h⟩
    refine it_V.at (pc1 := 42) (ls1 := [some (.ref 66), some (.int v1), some (.int v2), some (.int v3), some (.int v4), some (.int v5), none, none]) (st1 := [(.int r1), (.int v5)]) (mem1 := m2) rfl rfl rfl rfl ?_
    refine it_V.sN it_cd292 it_m292 1 (pc1 := (if r1 ≤ v5 then 95 else 45)) (ls1 := [some (.ref 66), some (.int v1), some (.int v2), some (.int v3), some (.int v4), some (.int v5), none, none]) (st1 := []) (mem1 := m2) rfl ?_
    refine it_V.ite (fun c3 => ?_) (fun c3 => ?_)
    · have h := h.1 c3
      refine it_V.weak (l := [some (.ref 66), some (.int v1), some (.int v2), some (.int v3), some (.int v4), none, none, none]) ⟨rfl, ⟨rfl, ⟨rfl, ⟨rfl, ⟨rfl, trivial⟩⟩⟩⟩⟩ ?_
      exact hK95 v1 v2 v3 v4 m2 h
    · have h := h.2 c3
      refine it_V.sN it_cd292 it_m292 2 (pc1 := 48) (ls1 := [some (.ref 66), some (.int v1), some (.int v2), some (.int v3), some (.int v4), some (.int v5), none, none]) (st1 := [(.int v5), (.ref 66)]) (mem1 := m2) rfl ?_
      refine it_V.call it_cd292 it_m292 rfl it_m220 [(.ref 66), (.int v5)] [] rfl rfl ⟨Nat.le_of_ble_eq_true rfl, Nat.le_of_ble_eq_true rfl, Nat.le_of_ble_eq_true rfl, Nat.le_of_ble_eq_true rfl, rfl⟩ (s_220 kc v5 m2 _ h) ?_
      rintro _ m5 ⟨r4, rfl, h⟩
      refine it_V.at (pc1 := 51) (ls1 := [some (.ref 66), some (.int v1), some (.int v2), some (.int v3), some (.int v4), some (.int v5), none, none]) (st1 := [(.int r4)]) (mem1 := m5) rfl rfl rfl rfl ?_
      refine it_V.sN it_cd292 it_m292 5 (pc1 := 58) (ls1 := [some (.ref 66), some (.int v1), some (.int v2), some (.int v3), some (.int v4), some (.int v5), some (.int r4), none]) (st1 := [(.int (v5 + (4 : Int32))), (.ref 66)]) (mem1 := m5) rfl ?_
      refine it_V.call it_cd292 it_m292 rfl it_m220 [(.ref 66), (.int (v5 + (4 : Int32)))] [] rfl rfl ⟨Nat.le_of_ble_eq_true rfl, Nat.le_of_ble_eq_true rfl, Nat.le_of_ble_eq_true rfl, Nat.le_of_ble_eq_true rfl, rfl⟩ (s_220 kc (v5 + (4 : Int32)) m5 _ h) ?_
      rintro _ m7 ⟨r6, rfl, h⟩
      refine it_V.at (pc1 := 61) (ls1 := [some (.ref 66), some (.int v1), some (.int v2), some (.int v3), some (.int v4), some (.int v5), some (.int r4), none]) (st1 := [(.int r6)]) (mem1 := m7) rfl rfl rfl rfl ?_
      refine it_V.sN it_cd292 it_m292 3 (pc1 := (if r6 = 0 then 87 else 68)) (ls1 := [some (.ref 66), some (.int v1), some (.int v2), some (.int v3), some (.int v4), some (.int v5), some (.int r4), some (.int r6)]) (st1 := []) (mem1 := m7) rfl ?_
      refine it_V.ite (fun c8 => ?_) (fun c8 => ?_)
      · have h := h.1 c8
        refine it_V.weak (l := [some (.ref 66), some (.int v1), some (.int v2), some (.int v3), some (.int v4), some (.int v5), none, none]) ⟨rfl, ⟨rfl, ⟨rfl, ⟨rfl, ⟨rfl, ⟨rfl, trivial⟩⟩⟩⟩⟩⟩ ?_
        exact s_292_87 kc Φ _ _ ih hK95 v1 v2 v3 v4 v5 m7 h
      · have h := h.2 c8
        refine it_V.sN it_cd292 it_m292 3 (pc1 := (if r4 < (131072 : Int32) then 87 else 75)) (ls1 := [some (.ref 66), some (.int v1), some (.int v2), some (.int v3), some (.int v4), some (.int v5), some (.int r4), some (.int r6)]) (st1 := []) (mem1 := m7) rfl ?_
        refine it_V.ite (fun c9 => ?_) (fun c9 => ?_)
        · have h := h.1 c9
          refine it_V.weak (l := [some (.ref 66), some (.int v1), some (.int v2), some (.int v3), some (.int v4), some (.int v5), none, none]) ⟨rfl, ⟨rfl, ⟨rfl, ⟨rfl, ⟨rfl, ⟨rfl, trivial⟩⟩⟩⟩⟩⟩ ?_
          exact s_292_87 kc Φ _ _ ih hK95 v1 v2 v3 v4 v5 m7 h
        · have h := h.2 c9
          refine it_V.sN it_cd292 it_m292 6 (pc1 := 88) (ls1 := [some (.ref 66), some (.int v1), some (.int v2), some (.int v3), some (.int v4), some (.int v5), some (.int r4), some (.int r6)]) (st1 := [(.int (it_max v2 (r4 + r6)))]) (mem1 := m7) rfl ?_
          refine it_V.weak (l := [some (.ref 66), some (.int v1), none, some (.int v3), some (.int v4), some (.int v5), none, none]) ⟨rfl, ⟨rfl, ⟨rfl, ⟨rfl, ⟨rfl, trivial⟩⟩⟩⟩⟩ ?_
          exact s_292_88 kc Φ _ _ ih hK95 v1 v3 v4 v5 (it_max v2 (r4 + r6)) m7 h
set_option maxRecDepth 100000 in
set_option maxHeartbeats 4000000 in
theorem s_292_95 (kc : it_Kc) (Φ : Int32 → it_Me → Prop) (K9 : Int32 → Int32 → Int32 → it_Me → Prop) (K106 : Int32 → it_Me → Prop) (hK9 : ∀ (v1 : Int32) (v2 : Int32) (v3 : Int32) (m : it_Me), K9 v1 v2 v3 m → it_V kc it_sh0 292 9 [some (.ref 66), some (.int v1), some (.int v2), some (.int v3), none, none, none, none] [] m (it_Pi Φ)) (hK106 : ∀ (v2 : Int32) (m : it_Me), K106 v2 m → it_V kc it_sh0 292 106 [none, none, some (.int v2), none, none, none, none, none] [] m (it_Pi Φ)) (v1 : Int32) (v2 : Int32) (v3 : Int32) (v4 : Int32) (m : it_Me) (h : w_292_95 kc Φ K9 K106 v1 v2 v3 v4 m) : it_V kc it_sh0 292 95 [some (.ref 66), some (.int v1), some (.int v2), some (.int v3), some (.int v4), none, none, none] [] m (it_Pi Φ) := by
  rw [w_292_95] at h
  refine it_V.sN it_cd292 it_m292 2 (pc1 := 98) (ls1 := [some (.ref 66), some (.int v1), some (.int v2), some (.int v3), some (.int v4), none, none, none]) (st1 := [(.int v4), (.int v3)]) (mem1 := m) rfl ?_
  refine it_V.call it_cd292 it_m292 rfl it_m268 [(.int v4)] [(.int v3)] rfl rfl ⟨Nat.le_of_ble_eq_true rfl, Nat.le_of_ble_eq_true rfl, Nat.le_of_ble_eq_true rfl, Nat.le_of_ble_eq_true rfl, rfl⟩ (s_268 kc v4 m _ h) ?_
  rintro _ m2 ⟨r1, rfl, h⟩
  refine it_V.at (pc1 := 101) (ls1 := [some (.ref 66), some (.int v1), some (.int v2), some (.int v3), some (.int v4), none, none, none]) (st1 := [(.int r1), (.int v3)]) (mem1 := m2) rfl rfl rfl rfl ?_
  refine it_V.sN it_cd292 it_m292 3 (pc1 := 9) (ls1 := [some (.ref 66), some (.int v1), some (.int v2), some (.int (v3 + r1)), some (.int v4), none, none, none]) (st1 := []) (mem1 := m2) rfl ?_
  refine it_V.weak (l := [some (.ref 66), some (.int v1), some (.int v2), some (.int (v3 + r1)), none, none, none, none]) ⟨rfl, ⟨rfl, ⟨rfl, ⟨rfl, trivial⟩⟩⟩⟩ ?_
  exact hK9 v1 v2 (v3 + r1) m2 h
set_option maxRecDepth 100000 in
set_option maxHeartbeats 4000000 in
theorem s_292_9 (kc : it_Kc) (Φ : Int32 → it_Me → Prop) (K106 : Int32 → it_Me → Prop) (hK106 : ∀ (v2 : Int32) (m : it_Me), K106 v2 m → it_V kc it_sh0 292 106 [none, none, some (.int v2), none, none, none, none, none] [] m (it_Pi Φ)) : ∀ (n : Nat) (v1 : Int32) (v2 : Int32) (v3 : Int32) (m : it_Me) (h : w_292_9 kc Φ K106 n v1 v2 v3 m), it_V kc it_sh0 292 9 [some (.ref 66), some (.int v1), some (.int v2), some (.int v3), none, none, none, none] [] m (it_Pi Φ) := by
  intro n
  induction n with
  | zero => intro v1 v2 v3 m h; exact absurd h id
  | succ n ih =>
    intro v1 v2 v3 m h
    rw [w_292_9] at h
    refine it_V.sN it_cd292 it_m292 3 (pc1 := 12) (ls1 := [some (.ref 66), some (.int v1), some (.int v2), some (.int v3), none, none, none, none]) (st1 := [(.int v1), (.ref 66), (.int v3)]) (mem1 := m) rfl ?_
    refine it_V.call it_cd292 it_m292 rfl it_m252 [(.ref 66), (.int v1)] [(.int v3)] rfl rfl ⟨Nat.le_of_ble_eq_true rfl, Nat.le_of_ble_eq_true rfl, Nat.le_of_ble_eq_true rfl, Nat.le_of_ble_eq_true rfl, rfl⟩ (s_252 kc v1 m _ h) ?_
    rintro _ m2 ⟨r1, rfl, h⟩
    refine it_V.at (pc1 := 15) (ls1 := [some (.ref 66), some (.int v1), some (.int v2), some (.int v3), none, none, none, none]) (st1 := [(.int r1), (.int v3)]) (mem1 := m2) rfl rfl rfl rfl ?_
    refine it_V.sN it_cd292 it_m292 1 (pc1 := (if v3 = r1 then 106 else 18)) (ls1 := [some (.ref 66), some (.int v1), some (.int v2), some (.int v3), none, none, none, none]) (st1 := []) (mem1 := m2) rfl ?_
    refine it_V.ite (fun c3 => ?_) (fun c3 => ?_)
    · have h := h.1 c3
      refine it_V.weak (l := [none, none, some (.int v2), none, none, none, none, none]) ⟨rfl, trivial⟩ ?_
      exact hK106 v2 m2 h
    · have h := h.2 c3
      refine it_V.sN it_cd292 it_m292 2 (pc1 := 20) (ls1 := [some (.ref 66), some (.int v1), some (.int v2), some (.int v3), none, none, none, none]) (st1 := [(.int v3), (.ref 66)]) (mem1 := m2) rfl ?_
      refine it_V.call it_cd292 it_m292 rfl it_m220 [(.ref 66), (.int v3)] [] rfl rfl ⟨Nat.le_of_ble_eq_true rfl, Nat.le_of_ble_eq_true rfl, Nat.le_of_ble_eq_true rfl, Nat.le_of_ble_eq_true rfl, rfl⟩ (s_220 kc v3 m2 _ h) ?_
      rintro _ m5 ⟨r4, rfl, h⟩
      refine it_V.at (pc1 := 23) (ls1 := [some (.ref 66), some (.int v1), some (.int v2), some (.int v3), none, none, none, none]) (st1 := [(.int r4)]) (mem1 := m5) rfl rfl rfl rfl ?_
      refine it_V.sN it_cd292 it_m292 4 (pc1 := 29) (ls1 := [some (.ref 66), some (.int v1), some (.int v2), some (.int v3), some (.int r4), none, none, none]) (st1 := [(.int (0 : Int32)), (.int r4), (.int v3)]) (mem1 := m5) rfl ?_
      refine it_V.call it_cd292 it_m292 rfl it_m270 [(.int v3), (.int r4), (.int (0 : Int32))] [] rfl rfl ⟨Nat.le_of_ble_eq_true rfl, Nat.le_of_ble_eq_true rfl, Nat.le_of_ble_eq_true rfl, Nat.le_of_ble_eq_true rfl, rfl⟩ (s_270 kc v3 r4 (0 : Int32) m5 _ h) ?_
      rintro _ m7 ⟨r6, rfl, h⟩
      refine it_V.at (pc1 := 32) (ls1 := [some (.ref 66), some (.int v1), some (.int v2), some (.int v3), some (.int r4), none, none, none]) (st1 := [(.int r6)]) (mem1 := m7) rfl rfl rfl rfl ?_
      refine it_V.sN it_cd292 it_m292 1 (pc1 := 34) (ls1 := [some (.ref 66), some (.int v1), some (.int v2), some (.int v3), some (.int r4), some (.int r6), none, none]) (st1 := []) (mem1 := m7) rfl ?_
      refine it_V.weak (l := [some (.ref 66), some (.int v1), some (.int v2), some (.int v3), some (.int r4), some (.int r6), none, none]) ⟨rfl, ⟨rfl, ⟨rfl, ⟨rfl, ⟨rfl, ⟨rfl, trivial⟩⟩⟩⟩⟩⟩ ?_
      obtain ⟨n, h⟩ := h
      exact s_292_34 kc Φ _ (fun v1 v2 v3 v4 m h => s_292_95 kc Φ _ _ ih hK106 v1 v2 v3 v4 m h) n v1 v2 v3 r4 r6 m7 h
set_option maxRecDepth 100000 in
set_option maxHeartbeats 4000000 in
theorem s_292_106 (kc : it_Kc) (Φ : Int32 → it_Me → Prop) (v2 : Int32) (m : it_Me) (h : w_292_106 kc Φ v2 m) : it_V kc it_sh0 292 106 [none, none, some (.int v2), none, none, none, none, none] [] m (it_Pi Φ) := by
  rw [w_292_106] at h
  refine it_V.sN it_cd292 it_m292 1 (pc1 := 107) (ls1 := [none, none, some (.int v2), none, none, none, none, none]) (st1 := [(.int v2)]) (mem1 := m) rfl ?_
  exact it_V.ret it_cd292 it_m292 rfl rfl ⟨_, rfl, h⟩
set_option maxRecDepth 100000 in
set_option maxHeartbeats 4000000 in
theorem s_292 (kc : it_Kc) (x0 : Int32) (m : it_Me) (Φ : Int32 → it_Me → Prop) (h : w_292 kc x0 m Φ) : it_V kc it_sh0 292 0 (it_loc0 [(.ref 66), (.int x0)] 8) [] m (it_Pi Φ) := by
  rw [w_292] at h
  refine it_V.at (pc1 := 0) (ls1 := [some (.ref 66), some (.int x0), none, none, none, none, none, none]) (st1 := []) (mem1 := m) rfl rfl rfl rfl ?_
  refine it_V.sN it_cd292 it_m292 5 (pc1 := 7) (ls1 := [some (.ref 66), some (.int x0), some (.int (0 : Int32)), none, none, none, none, none]) (st1 := [(.int x0), (.ref 92)]) (mem1 := m) rfl ?_
  obtain ⟨g1, h⟩ := h
  refine it_V.iald it_cd292 it_m292 rfl ((⟨rfl, by decide⟩ : it_isR 92 8)).2 ((⟨rfl, by decide⟩ : it_isR 92 8)).1 g1 ?_
  refine it_V.at (pc1 := 8) (ls1 := [some (.ref 66), some (.int x0), some (.int (0 : Int32)), none, none, none, none, none]) (st1 := [(.int (m 92 (Int32.toNatClampNeg x0)))]) (mem1 := m) rfl rfl rfl rfl ?_
  refine it_V.sN it_cd292 it_m292 1 (pc1 := 9) (ls1 := [some (.ref 66), some (.int x0), some (.int (0 : Int32)), some (.int (m 92 (Int32.toNatClampNeg x0))), none, none, none, none]) (st1 := []) (mem1 := m) rfl ?_
  obtain ⟨n, h⟩ := h
  exact s_292_9 kc Φ _ (fun v2 m h => s_292_106 kc Φ v2 m h) n x0 (0 : Int32) (m 92 (Int32.toNatClampNeg x0)) m h
set_option maxRecDepth 100000 in
set_option maxHeartbeats 4000000 in
theorem s_291_120 (kc : it_Kc) (Φ : it_Me → Prop) (m : it_Me) (h : w_291_120 kc Φ m) : it_V kc it_sh0 291 120 [none, none, none, none, none, none, none, none] [] m (it_Pv Φ) := by
  rw [w_291_120] at h
  exact it_V.ret it_cd291 it_m291 rfl rfl ⟨rfl, h⟩
set_option maxRecDepth 100000 in
set_option maxHeartbeats 4000000 in
theorem s_291_50 (kc : it_Kc) (Φ : it_Me → Prop) (v1 : Int32) (m : it_Me) (h : w_291_50 kc Φ v1 m) : it_V kc it_sh0 291 50 [some (.ref 66), some (.int v1), none, none, none, none, none, none] [] m (it_Pv Φ) := by
  rw [w_291_50] at h
  refine it_V.sN it_cd291 it_m291 3 (pc1 := 54) (ls1 := [some (.ref 66), some (.int v1), none, none, none, none, none, none]) (st1 := [(.int (6 : Int32)), (.int v1), (.ref 66)]) (mem1 := m) rfl ?_
  refine it_V.call it_cd291 it_m291 rfl it_m282 [(.ref 66), (.int v1), (.int (6 : Int32))] [] rfl rfl ⟨Nat.le_of_ble_eq_true rfl, Nat.le_of_ble_eq_true rfl, Nat.le_of_ble_eq_true rfl, Nat.le_of_ble_eq_true rfl, rfl⟩ (s_282 kc v1 (6 : Int32) m _ h) ?_
  rintro _ m1 ⟨rfl, h⟩
  refine it_V.at (pc1 := 57) (ls1 := [some (.ref 66), some (.int v1), none, none, none, none, none, none]) (st1 := []) (mem1 := m1) rfl rfl rfl rfl ?_
  refine it_V.sN it_cd291 it_m291 1 (pc1 := 120) (ls1 := [some (.ref 66), some (.int v1), none, none, none, none, none, none]) (st1 := []) (mem1 := m1) rfl ?_
  refine it_V.weak (l := [none, none, none, none, none, none, none, none]) trivial ?_
  exact s_291_120 kc Φ m1 h
set_option maxRecDepth 100000 in
set_option maxHeartbeats 4000000 in
theorem s_291_23 (kc : it_Kc) (Φ : it_Me → Prop) (v1 : Int32) (v4 : Int32) (u0 : Int64) (m : it_Me) (h : w_291_23 kc Φ v1 v4 u0 m) : it_V kc it_sh0 291 23 [some (.ref 66), some (.int v1), none, none, some (.int v4), none, none, none] [(.long u0)] m (it_Pv Φ) := by
  rw [w_291_23] at h
  refine it_V.sN it_cd291 it_m291 5 (pc1 := 32) (ls1 := [some (.ref 66), some (.int v1), none, none, some (.int v4), some (.long u0), none, none]) (st1 := [(.int v1), (.ref 89), (.long u0)]) (mem1 := m) rfl ?_
  obtain ⟨g1, h⟩ := h
  refine it_V.iald it_cd291 it_m291 rfl ((⟨rfl, by decide⟩ : it_isR 89 8)).2 ((⟨rfl, by decide⟩ : it_isR 89 8)).1 g1 ?_
  refine it_V.at (pc1 := 33) (ls1 := [some (.ref 66), some (.int v1), none, none, some (.int v4), some (.long u0), none, none]) (st1 := [(.int (m 89 (Int32.toNatClampNeg v1))), (.long u0)]) (mem1 := m) rfl rfl rfl rfl ?_
  refine it_V.sN it_cd291 it_m291 3 (pc1 := (if (lg_cmp u0 (Int32.toInt64 (m 89 (Int32.toNatClampNeg v1)))) < 0 then 50 else 38)) (ls1 := [some (.ref 66), some (.int v1), none, none, some (.int v4), some (.long u0), none, none]) (st1 := []) (mem1 := m) rfl ?_
  refine it_V.ite (fun c2 => ?_) (fun c2 => ?_)
  · have h := h.1 c2
    refine it_V.weak (l := [some (.ref 66), some (.int v1), none, none, none, none, none, none]) ⟨rfl, ⟨rfl, trivial⟩⟩ ?_
    exact s_291_50 kc Φ v1 m h
  · have h := h.2 c2
    refine it_V.sN it_cd291 it_m291 3 (pc1 := 42) (ls1 := [some (.ref 66), some (.int v1), none, none, some (.int v4), some (.long u0), none, none]) (st1 := [(.int v1), (.ref 66), (.long u0)]) (mem1 := m) rfl ?_
    refine it_V.call it_cd291 it_m291 rfl it_m292 [(.ref 66), (.int v1)] [(.long u0)] rfl rfl ⟨Nat.le_of_ble_eq_true rfl, Nat.le_of_ble_eq_true rfl, Nat.le_of_ble_eq_true rfl, Nat.le_of_ble_eq_true rfl, rfl⟩ (s_292 kc v1 m _ h) ?_
    rintro _ m4 ⟨r3, rfl, h⟩
    refine it_V.at (pc1 := 45) (ls1 := [some (.ref 66), some (.int v1), none, none, some (.int v4), some (.long u0), none, none]) (st1 := [(.int r3), (.long u0)]) (mem1 := m4) rfl rfl rfl rfl ?_
    refine it_V.sN it_cd291 it_m291 3 (pc1 := (if 0 ≤ (lg_cmp u0 (Int32.toInt64 r3)) then 60 else 50)) (ls1 := [some (.ref 66), some (.int v1), none, none, some (.int v4), some (.long u0), none, none]) (st1 := []) (mem1 := m4) rfl ?_
    refine it_V.ite (fun c5 => ?_) (fun c5 => ?_)
    · have h := h.1 c5
      refine it_V.sN it_cd291 it_m291 4 (pc1 := 67) (ls1 := [some (.ref 66), some (.int v1), none, none, some (.int v4), some (.long u0), none, none]) (st1 := [(.int v1), (.ref 92), (.long u0)]) (mem1 := m4) rfl ?_
      obtain ⟨g6, h⟩ := h
      refine it_V.iald it_cd291 it_m291 rfl ((⟨rfl, by decide⟩ : it_isR 92 8)).2 ((⟨rfl, by decide⟩ : it_isR 92 8)).1 g6 ?_
      refine it_V.at (pc1 := 68) (ls1 := [some (.ref 66), some (.int v1), none, none, some (.int v4), some (.long u0), none, none]) (st1 := [(.int (m4 92 (Int32.toNatClampNeg v1))), (.long u0)]) (mem1 := m4) rfl rfl rfl rfl ?_
      refine it_V.sN it_cd291 it_m291 3 (pc1 := (if (lg_cmp u0 (Int32.toInt64 (m4 92 (Int32.toNatClampNeg v1)))) ≤ 0 then 83 else 73)) (ls1 := [some (.ref 66), some (.int v1), none, none, some (.int v4), some (.long u0), none, none]) (st1 := []) (mem1 := m4) rfl ?_
      refine it_V.ite (fun c7 => ?_) (fun c7 => ?_)
      · have h := h.1 c7
        refine it_V.sN it_cd291 it_m291 3 (pc1 := 88) (ls1 := [some (.ref 66), some (.int v1), none, none, some (.int v4), some (.long u0), none, none]) (st1 := [(.int v1), (.ref 91)]) (mem1 := m4) rfl ?_
        obtain ⟨g8, h⟩ := h
        refine it_V.iald it_cd291 it_m291 rfl ((⟨rfl, by decide⟩ : it_isR 91 8)).2 ((⟨rfl, by decide⟩ : it_isR 91 8)).1 g8 ?_
        refine it_V.at (pc1 := 89) (ls1 := [some (.ref 66), some (.int v1), none, none, some (.int v4), some (.long u0), none, none]) (st1 := [(.int (m4 91 (Int32.toNatClampNeg v1)))]) (mem1 := m4) rfl rfl rfl rfl ?_
        refine it_V.sN it_cd291 it_m291 6 (pc1 := 99) (ls1 := [some (.ref 66), some (.int v1), none, none, some (.int v4), some (.long u0), none, some (.int (m4 91 (Int32.toNatClampNeg v1)))]) (st1 := [(.int (Int64.toInt32 u0)), (.int v1), (.ref 91)]) (mem1 := m4) rfl ?_
        obtain ⟨g9, h⟩ := h
        refine it_V.iast it_cd291 it_m291 rfl ((⟨rfl, by decide⟩ : it_isR 91 8)).1 g9 ?_
        refine it_V.at (pc1 := 100) (ls1 := [some (.ref 66), some (.int v1), none, none, some (.int v4), some (.long u0), none, some (.int (m4 91 (Int32.toNatClampNeg v1)))]) (st1 := []) (mem1 := (it_sv m4 91 (Int32.toNatClampNeg v1) (Int64.toInt32 u0))) rfl rfl rfl rfl ?_
        refine it_V.sN it_cd291 it_m291 2 (pc1 := (if v4 = 0 then 115 else 105)) (ls1 := [some (.ref 66), some (.int v1), none, none, some (.int v4), some (.long u0), none, some (.int (m4 91 (Int32.toNatClampNeg v1)))]) (st1 := []) (mem1 := (it_sv m4 91 (Int32.toNatClampNeg v1) (Int64.toInt32 u0))) rfl ?_
        refine it_V.ite (fun c10 => ?_) (fun c10 => ?_)
        · have h := h.1 c10
          refine it_V.sN it_cd291 it_m291 2 (pc1 := 117) (ls1 := [some (.ref 66), some (.int v1), none, none, some (.int v4), some (.long u0), none, some (.int (m4 91 (Int32.toNatClampNeg v1)))]) (st1 := [(.int v1), (.ref 66)]) (mem1 := (it_sv m4 91 (Int32.toNatClampNeg v1) (Int64.toInt32 u0))) rfl ?_
          refine it_V.call it_cd291 it_m291 rfl it_m280 [(.ref 66), (.int v1)] [] rfl rfl ⟨Nat.le_of_ble_eq_true rfl, Nat.le_of_ble_eq_true rfl, Nat.le_of_ble_eq_true rfl, Nat.le_of_ble_eq_true rfl, rfl⟩ (s_280 kc v1 (it_sv m4 91 (Int32.toNatClampNeg v1) (Int64.toInt32 u0)) _ h) ?_
          rintro _ m11 ⟨rfl, h⟩
          refine it_V.at (pc1 := 120) (ls1 := [some (.ref 66), some (.int v1), none, none, some (.int v4), some (.long u0), none, some (.int (m4 91 (Int32.toNatClampNeg v1)))]) (st1 := []) (mem1 := m11) rfl rfl rfl rfl ?_
          refine it_V.weak (l := [none, none, none, none, none, none, none, none]) trivial ?_
          exact s_291_120 kc Φ m11 h
        · have h := h.2 c10
          refine it_V.sN it_cd291 it_m291 3 (pc1 := 109) (ls1 := [some (.ref 66), some (.int v1), none, none, some (.int v4), some (.long u0), none, some (.int (m4 91 (Int32.toNatClampNeg v1)))]) (st1 := [(.int (m4 91 (Int32.toNatClampNeg v1))), (.int v1), (.ref 66)]) (mem1 := (it_sv m4 91 (Int32.toNatClampNeg v1) (Int64.toInt32 u0))) rfl ?_
          refine it_V.call it_cd291 it_m291 rfl it_m281 [(.ref 66), (.int v1), (.int (m4 91 (Int32.toNatClampNeg v1)))] [] rfl rfl ⟨Nat.le_of_ble_eq_true rfl, Nat.le_of_ble_eq_true rfl, Nat.le_of_ble_eq_true rfl, Nat.le_of_ble_eq_true rfl, rfl⟩ (s_281 kc v1 (m4 91 (Int32.toNatClampNeg v1)) (it_sv m4 91 (Int32.toNatClampNeg v1) (Int64.toInt32 u0)) _ h) ?_
          rintro _ m12 ⟨rfl, h⟩
          refine it_V.at (pc1 := 112) (ls1 := [some (.ref 66), some (.int v1), none, none, some (.int v4), some (.long u0), none, some (.int (m4 91 (Int32.toNatClampNeg v1)))]) (st1 := []) (mem1 := m12) rfl rfl rfl rfl ?_
          refine it_V.sN it_cd291 it_m291 1 (pc1 := 120) (ls1 := [some (.ref 66), some (.int v1), none, none, some (.int v4), some (.long u0), none, some (.int (m4 91 (Int32.toNatClampNeg v1)))]) (st1 := []) (mem1 := m12) rfl ?_
          refine it_V.weak (l := [none, none, none, none, none, none, none, none]) trivial ?_
          exact s_291_120 kc Φ m12 h
      · have h := h.2 c7
        refine it_V.sN it_cd291 it_m291 3 (pc1 := 77) (ls1 := [some (.ref 66), some (.int v1), none, none, some (.int v4), some (.long u0), none, none]) (st1 := [(.int (9 : Int32)), (.int v1), (.ref 66)]) (mem1 := m4) rfl ?_
        refine it_V.call it_cd291 it_m291 rfl it_m282 [(.ref 66), (.int v1), (.int (9 : Int32))] [] rfl rfl ⟨Nat.le_of_ble_eq_true rfl, Nat.le_of_ble_eq_true rfl, Nat.le_of_ble_eq_true rfl, Nat.le_of_ble_eq_true rfl, rfl⟩ (s_282 kc v1 (9 : Int32) m4 _ h) ?_
        rintro _ m13 ⟨rfl, h⟩
        refine it_V.at (pc1 := 80) (ls1 := [some (.ref 66), some (.int v1), none, none, some (.int v4), some (.long u0), none, none]) (st1 := []) (mem1 := m13) rfl rfl rfl rfl ?_
        refine it_V.sN it_cd291 it_m291 1 (pc1 := 120) (ls1 := [some (.ref 66), some (.int v1), none, none, some (.int v4), some (.long u0), none, none]) (st1 := []) (mem1 := m13) rfl ?_
        refine it_V.weak (l := [none, none, none, none, none, none, none, none]) trivial ?_
        exact s_291_120 kc Φ m13 h
    · have h := h.2 c5
      refine it_V.weak (l := [some (.ref 66), some (.int v1), none, none, none, none, none, none]) ⟨rfl, ⟨rfl, trivial⟩⟩ ?_
      exact s_291_50 kc Φ v1 m4 h
set_option maxRecDepth 100000 in
set_option maxHeartbeats 4000000 in
theorem s_291 (kc : it_Kc) (x0 : Int32) (x1 : Int64) (x2 : Int32) (m : it_Me) (Φ : it_Me → Prop) (h : w_291 kc x0 x1 x2 m Φ) : it_V kc it_sh0 291 0 (it_loc0 [(.ref 66), (.int x0), (.long x1), (.int x2)] 8) [] m (it_Pv Φ) := by
  rw [w_291] at h
  refine it_V.at (pc1 := 0) (ls1 := [some (.ref 66), some (.int x0), some (.long x1), none, some (.int x2), none, none, none]) (st1 := []) (mem1 := m) rfl rfl rfl rfl ?_
  refine it_V.sN it_cd291 it_m291 4 (pc1 := (if 0 ≤ (lg_cmp x1 (0 : Int64)) then 10 else 6)) (ls1 := [some (.ref 66), some (.int x0), some (.long x1), none, some (.int x2), none, none, none]) (st1 := []) (mem1 := m) rfl ?_
  refine it_V.ite (fun c1 => ?_) (fun c1 => ?_)
  · have h := h.1 c1
    refine it_V.sN it_cd291 it_m291 4 (pc1 := 18) (ls1 := [some (.ref 66), some (.int x0), some (.long x1), none, some (.int x2), none, none, none]) (st1 := [(.long (4 : Int64)), (.long (x1 + (3 : Int64)))]) (mem1 := m) rfl ?_
    obtain ⟨g2, h⟩ := h
    refine it_V.s1 it_cd291 it_m291 (pc1 := 19) (ls1 := [some (.ref 66), some (.int x0), some (.long x1), none, some (.int x2), none, none, none]) (st1 := [(.long ((x1 + (3 : Int64)) / (4 : Int64)))]) (mem1 := m) (by simp only [it_s1, show it_lk it_c291 18 = some (0, .ldiv, 0, 0) from rfl, it_ops, if_neg g2]; rfl) ?_
    refine it_V.sN it_cd291 it_m291 2 (pc1 := 23) (ls1 := [some (.ref 66), some (.int x0), some (.long x1), none, some (.int x2), none, none, none]) (st1 := [(.long (((x1 + (3 : Int64)) / (4 : Int64)) * (4 : Int64)))]) (mem1 := m) rfl ?_
    refine it_V.weak (l := [some (.ref 66), some (.int x0), none, none, some (.int x2), none, none, none]) ⟨rfl, ⟨rfl, ⟨rfl, trivial⟩⟩⟩ ?_
    exact s_291_23 kc Φ x0 x2 (((x1 + (3 : Int64)) / (4 : Int64)) * (4 : Int64)) m h
  · have h := h.2 c1
    refine it_V.sN it_cd291 it_m291 2 (pc1 := 23) (ls1 := [some (.ref 66), some (.int x0), some (.long x1), none, some (.int x2), none, none, none]) (st1 := [(.long x1)]) (mem1 := m) rfl ?_
    refine it_V.weak (l := [some (.ref 66), some (.int x0), none, none, some (.int x2), none, none, none]) ⟨rfl, ⟨rfl, ⟨rfl, trivial⟩⟩⟩ ?_
    exact s_291_23 kc Φ x0 x2 x1 m h
set_option maxRecDepth 100000 in
set_option maxHeartbeats 4000000 in
theorem s_290_155 (kc : it_Kc) (Φ : it_Me → Prop) (m : it_Me) (h : w_290_155 kc Φ m) : it_V kc it_sh0 290 155 [none, none, none, none] [] m (it_Pv Φ) := by
  rw [w_290_155] at h
  exact it_V.ret it_cd290 it_m290 rfl rfl ⟨rfl, h⟩
set_option maxRecDepth 100000 in
set_option maxHeartbeats 4000000 in
theorem s_290 (kc : it_Kc) (x0 : Int32) (x1 : Int32) (x2 : Int32) (m : it_Me) (Φ : it_Me → Prop) (h : w_290 kc x0 x1 x2 m Φ) : it_V kc it_sh0 290 0 (it_loc0 [(.ref 66), (.int x0), (.int x1), (.int x2)] 4) [] m (it_Pv Φ) := by
  rw [w_290] at h
  refine it_V.at (pc1 := 0) (ls1 := [some (.ref 66), some (.int x0), some (.int x1), some (.int x2)]) (st1 := []) (mem1 := m) rfl rfl rfl rfl ?_
  refine it_V.sN it_cd290 it_m290 1 (pc1 := 1) (ls1 := [some (.ref 66), some (.int x0), some (.int x1), some (.int x2)]) (st1 := [(.int x1)]) (mem1 := m) rfl ?_
  refine it_V.sN it_cd290 it_m290 1 (pc1 := (if x1 = (0 : Int32) then 44 else (if x1 = (1 : Int32) then 59 else (if x1 = (2 : Int32) then 78 else (if x1 = (3 : Int32) then 92 else (if x1 = (4 : Int32) then 106 else (if x1 = (5 : Int32) then 120 else (if x1 = (6 : Int32) then 134 else 148)))))))) (ls1 := [some (.ref 66), some (.int x0), some (.int x1), some (.int x2)]) (st1 := []) (mem1 := m) rfl ?_
  refine it_V.ite (fun c1 => ?_) (fun c1 => ?_)
  · have h := h.1 c1
    refine it_V.sN it_cd290 it_m290 7 (pc1 := 53) (ls1 := [some (.ref 66), some (.int x0), some (.int x1), some (.int x2)]) (st1 := [(.int (0 : Int32)), (.long ((Int32.toInt64 x2) &&& (4294967295 : Int64))), (.int x0), (.ref 66)]) (mem1 := m) rfl ?_
    refine it_V.call it_cd290 it_m290 rfl it_m291 [(.ref 66), (.int x0), (.long ((Int32.toInt64 x2) &&& (4294967295 : Int64))), (.int (0 : Int32))] [] rfl rfl ⟨Nat.le_of_ble_eq_true rfl, Nat.le_of_ble_eq_true rfl, Nat.le_of_ble_eq_true rfl, Nat.le_of_ble_eq_true rfl, rfl⟩ (s_291 kc x0 ((Int32.toInt64 x2) &&& (4294967295 : Int64)) (0 : Int32) m _ h) ?_
    rintro _ m2 ⟨rfl, h⟩
    refine it_V.at (pc1 := 56) (ls1 := [some (.ref 66), some (.int x0), some (.int x1), some (.int x2)]) (st1 := []) (mem1 := m2) rfl rfl rfl rfl ?_
    refine it_V.sN it_cd290 it_m290 1 (pc1 := 155) (ls1 := [some (.ref 66), some (.int x0), some (.int x1), some (.int x2)]) (st1 := []) (mem1 := m2) rfl ?_
    refine it_V.weak (l := [none, none, none, none]) trivial ?_
    exact s_290_155 kc Φ m2 h
  · have h := h.2 c1
    refine it_V.ite (fun c3 => ?_) (fun c3 => ?_)
    · have h := h.1 c3
      refine it_V.sN it_cd290 it_m290 5 (pc1 := 66) (ls1 := [some (.ref 66), some (.int x0), some (.int x1), some (.int x2)]) (st1 := [(.int x0), (.ref 91), (.int x0), (.ref 66)]) (mem1 := m) rfl ?_
      obtain ⟨g4, h⟩ := h
      refine it_V.iald it_cd290 it_m290 rfl ((⟨rfl, by decide⟩ : it_isR 91 8)).2 ((⟨rfl, by decide⟩ : it_isR 91 8)).1 g4 ?_
      refine it_V.at (pc1 := 67) (ls1 := [some (.ref 66), some (.int x0), some (.int x1), some (.int x2)]) (st1 := [(.int (m 91 (Int32.toNatClampNeg x0))), (.int x0), (.ref 66)]) (mem1 := m) rfl rfl rfl rfl ?_
      refine it_V.sN it_cd290 it_m290 5 (pc1 := 72) (ls1 := [some (.ref 66), some (.int x0), some (.int x1), some (.int x2)]) (st1 := [(.int (1 : Int32)), (.long ((Int32.toInt64 (m 91 (Int32.toNatClampNeg x0))) + (Int32.toInt64 x2))), (.int x0), (.ref 66)]) (mem1 := m) rfl ?_
      refine it_V.call it_cd290 it_m290 rfl it_m291 [(.ref 66), (.int x0), (.long ((Int32.toInt64 (m 91 (Int32.toNatClampNeg x0))) + (Int32.toInt64 x2))), (.int (1 : Int32))] [] rfl rfl ⟨Nat.le_of_ble_eq_true rfl, Nat.le_of_ble_eq_true rfl, Nat.le_of_ble_eq_true rfl, Nat.le_of_ble_eq_true rfl, rfl⟩ (s_291 kc x0 ((Int32.toInt64 (m 91 (Int32.toNatClampNeg x0))) + (Int32.toInt64 x2)) (1 : Int32) m _ h) ?_
      rintro _ m5 ⟨rfl, h⟩
      refine it_V.at (pc1 := 75) (ls1 := [some (.ref 66), some (.int x0), some (.int x1), some (.int x2)]) (st1 := []) (mem1 := m5) rfl rfl rfl rfl ?_
      refine it_V.sN it_cd290 it_m290 1 (pc1 := 155) (ls1 := [some (.ref 66), some (.int x0), some (.int x1), some (.int x2)]) (st1 := []) (mem1 := m5) rfl ?_
      refine it_V.weak (l := [none, none, none, none]) trivial ?_
      exact s_290_155 kc Φ m5 h
    · have h := h.2 c3
      refine it_V.ite (fun c6 => ?_) (fun c6 => ?_)
      · have h := h.1 c6
        refine it_V.sN it_cd290 it_m290 5 (pc1 := 85) (ls1 := [some (.ref 66), some (.int x0), some (.int x1), some (.int x2)]) (st1 := [(.int x0), (.ref 79), (.int x0), (.ref 66)]) (mem1 := m) rfl ?_
        obtain ⟨g7, h⟩ := h
        refine it_V.iald it_cd290 it_m290 rfl ((⟨rfl, by decide⟩ : it_isR 79 8)).2 ((⟨rfl, by decide⟩ : it_isR 79 8)).1 g7 ?_
        refine it_V.at (pc1 := 86) (ls1 := [some (.ref 66), some (.int x0), some (.int x1), some (.int x2)]) (st1 := [(.int (m 79 (Int32.toNatClampNeg x0))), (.int x0), (.ref 66)]) (mem1 := m) rfl rfl rfl rfl ?_
        refine it_V.call it_cd290 it_m290 rfl it_m281 [(.ref 66), (.int x0), (.int (m 79 (Int32.toNatClampNeg x0)))] [] rfl rfl ⟨Nat.le_of_ble_eq_true rfl, Nat.le_of_ble_eq_true rfl, Nat.le_of_ble_eq_true rfl, Nat.le_of_ble_eq_true rfl, rfl⟩ (s_281 kc x0 (m 79 (Int32.toNatClampNeg x0)) m _ h) ?_
        rintro _ m8 ⟨rfl, h⟩
        refine it_V.at (pc1 := 89) (ls1 := [some (.ref 66), some (.int x0), some (.int x1), some (.int x2)]) (st1 := []) (mem1 := m8) rfl rfl rfl rfl ?_
        refine it_V.sN it_cd290 it_m290 1 (pc1 := 155) (ls1 := [some (.ref 66), some (.int x0), some (.int x1), some (.int x2)]) (st1 := []) (mem1 := m8) rfl ?_
        refine it_V.weak (l := [none, none, none, none]) trivial ?_
        exact s_290_155 kc Φ m8 h
      · have h := h.2 c6
        refine it_V.ite (fun c9 => ?_) (fun c9 => ?_)
        · have h := h.1 c9
          refine it_V.sN it_cd290 it_m290 5 (pc1 := 99) (ls1 := [some (.ref 66), some (.int x0), some (.int x1), some (.int x2)]) (st1 := [(.int x0), (.ref 80), (.int x0), (.ref 66)]) (mem1 := m) rfl ?_
          obtain ⟨g10, h⟩ := h
          refine it_V.iald it_cd290 it_m290 rfl ((⟨rfl, by decide⟩ : it_isR 80 8)).2 ((⟨rfl, by decide⟩ : it_isR 80 8)).1 g10 ?_
          refine it_V.at (pc1 := 100) (ls1 := [some (.ref 66), some (.int x0), some (.int x1), some (.int x2)]) (st1 := [(.int (m 80 (Int32.toNatClampNeg x0))), (.int x0), (.ref 66)]) (mem1 := m) rfl rfl rfl rfl ?_
          refine it_V.call it_cd290 it_m290 rfl it_m281 [(.ref 66), (.int x0), (.int (m 80 (Int32.toNatClampNeg x0)))] [] rfl rfl ⟨Nat.le_of_ble_eq_true rfl, Nat.le_of_ble_eq_true rfl, Nat.le_of_ble_eq_true rfl, Nat.le_of_ble_eq_true rfl, rfl⟩ (s_281 kc x0 (m 80 (Int32.toNatClampNeg x0)) m _ h) ?_
          rintro _ m11 ⟨rfl, h⟩
          refine it_V.at (pc1 := 103) (ls1 := [some (.ref 66), some (.int x0), some (.int x1), some (.int x2)]) (st1 := []) (mem1 := m11) rfl rfl rfl rfl ?_
          refine it_V.sN it_cd290 it_m290 1 (pc1 := 155) (ls1 := [some (.ref 66), some (.int x0), some (.int x1), some (.int x2)]) (st1 := []) (mem1 := m11) rfl ?_
          refine it_V.weak (l := [none, none, none, none]) trivial ?_
          exact s_290_155 kc Φ m11 h
        · have h := h.2 c9
          refine it_V.ite (fun c12 => ?_) (fun c12 => ?_)
          · have h := h.1 c12
            refine it_V.sN it_cd290 it_m290 5 (pc1 := 113) (ls1 := [some (.ref 66), some (.int x0), some (.int x1), some (.int x2)]) (st1 := [(.int x0), (.ref 89), (.int x0), (.ref 66)]) (mem1 := m) rfl ?_
            obtain ⟨g13, h⟩ := h
            refine it_V.iald it_cd290 it_m290 rfl ((⟨rfl, by decide⟩ : it_isR 89 8)).2 ((⟨rfl, by decide⟩ : it_isR 89 8)).1 g13 ?_
            refine it_V.at (pc1 := 114) (ls1 := [some (.ref 66), some (.int x0), some (.int x1), some (.int x2)]) (st1 := [(.int (m 89 (Int32.toNatClampNeg x0))), (.int x0), (.ref 66)]) (mem1 := m) rfl rfl rfl rfl ?_
            refine it_V.call it_cd290 it_m290 rfl it_m281 [(.ref 66), (.int x0), (.int (m 89 (Int32.toNatClampNeg x0)))] [] rfl rfl ⟨Nat.le_of_ble_eq_true rfl, Nat.le_of_ble_eq_true rfl, Nat.le_of_ble_eq_true rfl, Nat.le_of_ble_eq_true rfl, rfl⟩ (s_281 kc x0 (m 89 (Int32.toNatClampNeg x0)) m _ h) ?_
            rintro _ m14 ⟨rfl, h⟩
            refine it_V.at (pc1 := 117) (ls1 := [some (.ref 66), some (.int x0), some (.int x1), some (.int x2)]) (st1 := []) (mem1 := m14) rfl rfl rfl rfl ?_
            refine it_V.sN it_cd290 it_m290 1 (pc1 := 155) (ls1 := [some (.ref 66), some (.int x0), some (.int x1), some (.int x2)]) (st1 := []) (mem1 := m14) rfl ?_
            refine it_V.weak (l := [none, none, none, none]) trivial ?_
            exact s_290_155 kc Φ m14 h
          · have h := h.2 c12
            refine it_V.ite (fun c15 => ?_) (fun c15 => ?_)
            · have h := h.1 c15
              refine it_V.sN it_cd290 it_m290 5 (pc1 := 127) (ls1 := [some (.ref 66), some (.int x0), some (.int x1), some (.int x2)]) (st1 := [(.int x0), (.ref 91), (.int x0), (.ref 66)]) (mem1 := m) rfl ?_
              obtain ⟨g16, h⟩ := h
              refine it_V.iald it_cd290 it_m290 rfl ((⟨rfl, by decide⟩ : it_isR 91 8)).2 ((⟨rfl, by decide⟩ : it_isR 91 8)).1 g16 ?_
              refine it_V.at (pc1 := 128) (ls1 := [some (.ref 66), some (.int x0), some (.int x1), some (.int x2)]) (st1 := [(.int (m 91 (Int32.toNatClampNeg x0))), (.int x0), (.ref 66)]) (mem1 := m) rfl rfl rfl rfl ?_
              refine it_V.call it_cd290 it_m290 rfl it_m281 [(.ref 66), (.int x0), (.int (m 91 (Int32.toNatClampNeg x0)))] [] rfl rfl ⟨Nat.le_of_ble_eq_true rfl, Nat.le_of_ble_eq_true rfl, Nat.le_of_ble_eq_true rfl, Nat.le_of_ble_eq_true rfl, rfl⟩ (s_281 kc x0 (m 91 (Int32.toNatClampNeg x0)) m _ h) ?_
              rintro _ m17 ⟨rfl, h⟩
              refine it_V.at (pc1 := 131) (ls1 := [some (.ref 66), some (.int x0), some (.int x1), some (.int x2)]) (st1 := []) (mem1 := m17) rfl rfl rfl rfl ?_
              refine it_V.sN it_cd290 it_m290 1 (pc1 := 155) (ls1 := [some (.ref 66), some (.int x0), some (.int x1), some (.int x2)]) (st1 := []) (mem1 := m17) rfl ?_
              refine it_V.weak (l := [none, none, none, none]) trivial ?_
              exact s_290_155 kc Φ m17 h
            · have h := h.2 c15
              refine it_V.ite (fun c18 => ?_) (fun c18 => ?_)
              · have h := h.1 c18
                refine it_V.sN it_cd290 it_m290 5 (pc1 := 141) (ls1 := [some (.ref 66), some (.int x0), some (.int x1), some (.int x2)]) (st1 := [(.int x0), (.ref 92), (.int x0), (.ref 66)]) (mem1 := m) rfl ?_
                obtain ⟨g19, h⟩ := h
                refine it_V.iald it_cd290 it_m290 rfl ((⟨rfl, by decide⟩ : it_isR 92 8)).2 ((⟨rfl, by decide⟩ : it_isR 92 8)).1 g19 ?_
                refine it_V.at (pc1 := 142) (ls1 := [some (.ref 66), some (.int x0), some (.int x1), some (.int x2)]) (st1 := [(.int (m 92 (Int32.toNatClampNeg x0))), (.int x0), (.ref 66)]) (mem1 := m) rfl rfl rfl rfl ?_
                refine it_V.call it_cd290 it_m290 rfl it_m281 [(.ref 66), (.int x0), (.int (m 92 (Int32.toNatClampNeg x0)))] [] rfl rfl ⟨Nat.le_of_ble_eq_true rfl, Nat.le_of_ble_eq_true rfl, Nat.le_of_ble_eq_true rfl, Nat.le_of_ble_eq_true rfl, rfl⟩ (s_281 kc x0 (m 92 (Int32.toNatClampNeg x0)) m _ h) ?_
                rintro _ m20 ⟨rfl, h⟩
                refine it_V.at (pc1 := 145) (ls1 := [some (.ref 66), some (.int x0), some (.int x1), some (.int x2)]) (st1 := []) (mem1 := m20) rfl rfl rfl rfl ?_
                refine it_V.sN it_cd290 it_m290 1 (pc1 := 155) (ls1 := [some (.ref 66), some (.int x0), some (.int x1), some (.int x2)]) (st1 := []) (mem1 := m20) rfl ?_
                refine it_V.weak (l := [none, none, none, none]) trivial ?_
                exact s_290_155 kc Φ m20 h
              · have h := h.2 c18
                refine it_V.sN it_cd290 it_m290 3 (pc1 := 152) (ls1 := [some (.ref 66), some (.int x0), some (.int x1), some (.int x2)]) (st1 := [(.int (10 : Int32)), (.int x0), (.ref 66)]) (mem1 := m) rfl ?_
                refine it_V.call it_cd290 it_m290 rfl it_m282 [(.ref 66), (.int x0), (.int (10 : Int32))] [] rfl rfl ⟨Nat.le_of_ble_eq_true rfl, Nat.le_of_ble_eq_true rfl, Nat.le_of_ble_eq_true rfl, Nat.le_of_ble_eq_true rfl, rfl⟩ (s_282 kc x0 (10 : Int32) m _ h) ?_
                rintro _ m21 ⟨rfl, h⟩
                refine it_V.at (pc1 := 155) (ls1 := [some (.ref 66), some (.int x0), some (.int x1), some (.int x2)]) (st1 := []) (mem1 := m21) rfl rfl rfl rfl ?_
                refine it_V.weak (l := [none, none, none, none]) trivial ?_
                exact s_290_155 kc Φ m21 h
set_option maxRecDepth 100000 in
set_option maxHeartbeats 4000000 in
theorem s_293_47 (kc : it_Kc) (Φ : it_Me → Prop) (m : it_Me) (h : w_293_47 kc Φ m) : it_V kc it_sh0 293 47 [none, none, none, none] [] m (it_Pv Φ) := by
  rw [w_293_47] at h
  exact it_V.ret it_cd293 it_m293 rfl rfl ⟨rfl, h⟩
set_option maxRecDepth 100000 in
set_option maxHeartbeats 4000000 in
theorem s_293 (kc : it_Kc) (x0 : Int32) (x1 : Int32) (x2 : Int32) (m : it_Me) (Φ : it_Me → Prop) (h : w_293 kc x0 x1 x2 m Φ) : it_V kc it_sh0 293 0 (it_loc0 [(.ref 66), (.int x0), (.int x1), (.int x2)] 4) [] m (it_Pv Φ) := by
  rw [w_293] at h
  refine it_V.at (pc1 := 0) (ls1 := [some (.ref 66), some (.int x0), some (.int x1), some (.int x2)]) (st1 := []) (mem1 := m) rfl rfl rfl rfl ?_
  refine it_V.sN it_cd293 it_m293 2 (pc1 := (if x1 = 0 then 4 else 27)) (ls1 := [some (.ref 66), some (.int x0), some (.int x1), some (.int x2)]) (st1 := []) (mem1 := m) rfl ?_
  refine it_V.ite (fun c1 => ?_) (fun c1 => ?_)
  · have h := h.1 c1
    refine it_V.sN it_cd293 it_m293 3 (pc1 := 7) (ls1 := [some (.ref 66), some (.int x0), some (.int x1), some (.int x2)]) (st1 := [(.int (4 : Int32)), (.int x0), (.ref 66)]) (mem1 := m) rfl ?_
    refine it_V.call it_cd293 it_m293 rfl it_m256 [(.ref 66), (.int x0), (.int (4 : Int32))] [] rfl rfl ⟨Nat.le_of_ble_eq_true rfl, Nat.le_of_ble_eq_true rfl, Nat.le_of_ble_eq_true rfl, Nat.le_of_ble_eq_true rfl, rfl⟩ (s_256 kc x0 (4 : Int32) m _ h) ?_
    rintro _ m2 ⟨rfl, h⟩
    refine it_V.at (pc1 := 10) (ls1 := [some (.ref 66), some (.int x0), some (.int x1), some (.int x2)]) (st1 := []) (mem1 := m2) rfl rfl rfl rfl ?_
    refine it_V.sN it_cd293 it_m293 4 (pc1 := 16) (ls1 := [some (.ref 66), some (.int x0), some (.int x1), some (.int x2)]) (st1 := [(.int x2), (.int x0), (.ref 101)]) (mem1 := m2) rfl ?_
    obtain ⟨g3, h⟩ := h
    refine it_V.iast it_cd293 it_m293 rfl ((⟨rfl, by decide⟩ : it_isR 101 8)).1 g3 ?_
    refine it_V.at (pc1 := 17) (ls1 := [some (.ref 66), some (.int x0), some (.int x1), some (.int x2)]) (st1 := []) (mem1 := (it_sv m2 101 (Int32.toNatClampNeg x0) x2)) rfl rfl rfl rfl ?_
    refine it_V.sN it_cd293 it_m293 4 (pc1 := 21) (ls1 := [some (.ref 66), some (.int x0), some (.int x1), some (.int x2)]) (st1 := [(.int x2), (.int (4 : Int32)), (.int x0), (.ref 66)]) (mem1 := (it_sv m2 101 (Int32.toNatClampNeg x0) x2)) rfl ?_
    refine it_V.call it_cd293 it_m293 rfl it_m257 [(.ref 66), (.int x0), (.int (4 : Int32)), (.int x2)] [] rfl rfl ⟨Nat.le_of_ble_eq_true rfl, Nat.le_of_ble_eq_true rfl, Nat.le_of_ble_eq_true rfl, Nat.le_of_ble_eq_true rfl, rfl⟩ (s_257 kc x0 (4 : Int32) x2 (it_sv m2 101 (Int32.toNatClampNeg x0) x2) _ h) ?_
    rintro _ m4 ⟨rfl, h⟩
    refine it_V.at (pc1 := 24) (ls1 := [some (.ref 66), some (.int x0), some (.int x1), some (.int x2)]) (st1 := []) (mem1 := m4) rfl rfl rfl rfl ?_
    refine it_V.sN it_cd293 it_m293 1 (pc1 := 47) (ls1 := [some (.ref 66), some (.int x0), some (.int x1), some (.int x2)]) (st1 := []) (mem1 := m4) rfl ?_
    refine it_V.weak (l := [none, none, none, none]) trivial ?_
    exact s_293_47 kc Φ m4 h
  · have h := h.2 c1
    refine it_V.sN it_cd293 it_m293 3 (pc1 := (if x1 = (1 : Int32) then 32 else 40)) (ls1 := [some (.ref 66), some (.int x0), some (.int x1), some (.int x2)]) (st1 := []) (mem1 := m) rfl ?_
    refine it_V.ite (fun c5 => ?_) (fun c5 => ?_)
    · have h := h.1 c5
      refine it_V.sN it_cd293 it_m293 2 (pc1 := 34) (ls1 := [some (.ref 66), some (.int x0), some (.int x1), some (.int x2)]) (st1 := [(.int x0), (.ref 66)]) (mem1 := m) rfl ?_
      refine it_V.call it_cd293 it_m293 rfl it_m255 [(.ref 66), (.int x0)] [] rfl rfl ⟨Nat.le_of_ble_eq_true rfl, Nat.le_of_ble_eq_true rfl, Nat.le_of_ble_eq_true rfl, Nat.le_of_ble_eq_true rfl, rfl⟩ (s_255 kc x0 m _ h) ?_
      rintro _ m6 ⟨rfl, h⟩
      refine it_V.at (pc1 := 37) (ls1 := [some (.ref 66), some (.int x0), some (.int x1), some (.int x2)]) (st1 := []) (mem1 := m6) rfl rfl rfl rfl ?_
      refine it_V.sN it_cd293 it_m293 1 (pc1 := 47) (ls1 := [some (.ref 66), some (.int x0), some (.int x1), some (.int x2)]) (st1 := []) (mem1 := m6) rfl ?_
      refine it_V.weak (l := [none, none, none, none]) trivial ?_
      exact s_293_47 kc Φ m6 h
    · have h := h.2 c5
      refine it_V.sN it_cd293 it_m293 3 (pc1 := 44) (ls1 := [some (.ref 66), some (.int x0), some (.int x1), some (.int x2)]) (st1 := [(.int (10 : Int32)), (.int x0), (.ref 66)]) (mem1 := m) rfl ?_
      refine it_V.call it_cd293 it_m293 rfl it_m282 [(.ref 66), (.int x0), (.int (10 : Int32))] [] rfl rfl ⟨Nat.le_of_ble_eq_true rfl, Nat.le_of_ble_eq_true rfl, Nat.le_of_ble_eq_true rfl, Nat.le_of_ble_eq_true rfl, rfl⟩ (s_282 kc x0 (10 : Int32) m _ h) ?_
      rintro _ m7 ⟨rfl, h⟩
      refine it_V.at (pc1 := 47) (ls1 := [some (.ref 66), some (.int x0), some (.int x1), some (.int x2)]) (st1 := []) (mem1 := m7) rfl rfl rfl rfl ?_
      refine it_V.weak (l := [none, none, none, none]) trivial ?_
      exact s_293_47 kc Φ m7 h
set_option maxRecDepth 100000 in
set_option maxHeartbeats 4000000 in
theorem s_294_105 (kc : it_Kc) (Φ : Int32 → it_Me → Prop) (K22 : Int32 → Int32 → Int32 → Int32 → Int32 → it_Me → Prop) (K113 : Int32 → it_Me → Prop) (hK22 : ∀ (v1 : Int32) (v2 : Int32) (v3 : Int32) (v4 : Int32) (v5 : Int32) (m : it_Me), K22 v1 v2 v3 v4 v5 m → it_V kc it_sh0 294 22 [some (.ref 66), some (.int v1), some (.int v2), some (.int v3), some (.int v4), some (.int v5), none] [] m (it_Pi Φ)) (hK113 : ∀ (v4 : Int32) (m : it_Me), K113 v4 m → it_V kc it_sh0 294 113 [none, none, none, none, some (.int v4), none, none] [] m (it_Pi Φ)) (v1 : Int32) (v2 : Int32) (v3 : Int32) (v5 : Int32) (u0 : Int32) (m : it_Me) (h : w_294_105 kc Φ K22 K113 v1 v2 v3 v5 u0 m) : it_V kc it_sh0 294 105 [some (.ref 66), some (.int v1), some (.int v2), some (.int v3), none, some (.int v5), none] [(.int u0)] m (it_Pi Φ) := by
  rw [w_294_105] at h
  refine it_V.sN it_cd294 it_m294 3 (pc1 := 22) (ls1 := [some (.ref 66), some (.int v1), some (.int v2), some (.int v3), some (.int u0), some (.int (v5 + (8 : Int32))), none]) (st1 := []) (mem1 := m) rfl ?_
  refine it_V.weak (l := [some (.ref 66), some (.int v1), some (.int v2), some (.int v3), some (.int u0), some (.int (v5 + (8 : Int32))), none]) ⟨rfl, ⟨rfl, ⟨rfl, ⟨rfl, ⟨rfl, ⟨rfl, trivial⟩⟩⟩⟩⟩⟩ ?_
  exact hK22 v1 v2 v3 u0 (v5 + (8 : Int32)) m h
set_option maxRecDepth 100000 in
set_option maxHeartbeats 4000000 in
theorem s_294_104 (kc : it_Kc) (Φ : Int32 → it_Me → Prop) (K22 : Int32 → Int32 → Int32 → Int32 → Int32 → it_Me → Prop) (K113 : Int32 → it_Me → Prop) (hK22 : ∀ (v1 : Int32) (v2 : Int32) (v3 : Int32) (v4 : Int32) (v5 : Int32) (m : it_Me), K22 v1 v2 v3 v4 v5 m → it_V kc it_sh0 294 22 [some (.ref 66), some (.int v1), some (.int v2), some (.int v3), some (.int v4), some (.int v5), none] [] m (it_Pi Φ)) (hK113 : ∀ (v4 : Int32) (m : it_Me), K113 v4 m → it_V kc it_sh0 294 113 [none, none, none, none, some (.int v4), none, none] [] m (it_Pi Φ)) (v1 : Int32) (v2 : Int32) (v3 : Int32) (v5 : Int32) (m : it_Me) (h : w_294_104 kc Φ K22 K113 v1 v2 v3 v5 m) : it_V kc it_sh0 294 104 [some (.ref 66), some (.int v1), some (.int v2), some (.int v3), none, some (.int v5), none] [] m (it_Pi Φ) := by
  rw [w_294_104] at h
  refine it_V.sN it_cd294 it_m294 1 (pc1 := 105) (ls1 := [some (.ref 66), some (.int v1), some (.int v2), some (.int v3), none, some (.int v5), none]) (st1 := [(.int (0 : Int32))]) (mem1 := m) rfl ?_
  refine it_V.weak (l := [some (.ref 66), some (.int v1), some (.int v2), some (.int v3), none, some (.int v5), none]) ⟨rfl, ⟨rfl, ⟨rfl, ⟨rfl, ⟨rfl, trivial⟩⟩⟩⟩⟩ ?_
  exact s_294_105 kc Φ _ _ hK22 hK113 v1 v2 v3 v5 (0 : Int32) m h
set_option maxRecDepth 100000 in
set_option maxHeartbeats 4000000 in
theorem s_294_88 (kc : it_Kc) (Φ : Int32 → it_Me → Prop) (K22 : Int32 → Int32 → Int32 → Int32 → Int32 → it_Me → Prop) (K113 : Int32 → it_Me → Prop) (hK22 : ∀ (v1 : Int32) (v2 : Int32) (v3 : Int32) (v4 : Int32) (v5 : Int32) (m : it_Me), K22 v1 v2 v3 v4 v5 m → it_V kc it_sh0 294 22 [some (.ref 66), some (.int v1), some (.int v2), some (.int v3), some (.int v4), some (.int v5), none] [] m (it_Pi Φ)) (hK113 : ∀ (v4 : Int32) (m : it_Me), K113 v4 m → it_V kc it_sh0 294 113 [none, none, none, none, some (.int v4), none, none] [] m (it_Pi Φ)) (v1 : Int32) (v2 : Int32) (v3 : Int32) (v4 : Int32) (v5 : Int32) (u0 : Int32) (m : it_Me) (h : w_294_88 kc Φ K22 K113 v1 v2 v3 v4 v5 u0 m) : it_V kc it_sh0 294 88 [some (.ref 66), some (.int v1), some (.int v2), some (.int v3), some (.int v4), some (.int v5), none] [(.int u0)] m (it_Pi Φ) := by
  rw [w_294_88] at h
  refine it_V.sN it_cd294 it_m294 3 (pc1 := (if v4 = 0 then 104 else 95)) (ls1 := [some (.ref 66), some (.int v1), some (.int v2), some (.int v3), some (.int v4), some (.int v5), some (.int u0)]) (st1 := []) (mem1 := m) rfl ?_
  refine it_V.ite (fun c1 => ?_) (fun c1 => ?_)
  · have h := h.1 c1
    refine it_V.weak (l := [some (.ref 66), some (.int v1), some (.int v2), some (.int v3), none, some (.int v5), none]) ⟨rfl, ⟨rfl, ⟨rfl, ⟨rfl, ⟨rfl, trivial⟩⟩⟩⟩⟩ ?_
    exact s_294_104 kc Φ _ _ hK22 hK113 v1 v2 v3 v5 m h
  · have h := h.2 c1
    refine it_V.sN it_cd294 it_m294 2 (pc1 := (if u0 = 0 then 100 else 104)) (ls1 := [some (.ref 66), some (.int v1), some (.int v2), some (.int v3), some (.int v4), some (.int v5), some (.int u0)]) (st1 := []) (mem1 := m) rfl ?_
    refine it_V.ite (fun c2 => ?_) (fun c2 => ?_)
    · have h := h.1 c2
      refine it_V.sN it_cd294 it_m294 2 (pc1 := 105) (ls1 := [some (.ref 66), some (.int v1), some (.int v2), some (.int v3), some (.int v4), some (.int v5), some (.int u0)]) (st1 := [(.int (1 : Int32))]) (mem1 := m) rfl ?_
      refine it_V.weak (l := [some (.ref 66), some (.int v1), some (.int v2), some (.int v3), none, some (.int v5), none]) ⟨rfl, ⟨rfl, ⟨rfl, ⟨rfl, ⟨rfl, trivial⟩⟩⟩⟩⟩ ?_
      exact s_294_105 kc Φ _ _ hK22 hK113 v1 v2 v3 v5 (1 : Int32) m h
    · have h := h.2 c2
      refine it_V.weak (l := [some (.ref 66), some (.int v1), some (.int v2), some (.int v3), none, some (.int v5), none]) ⟨rfl, ⟨rfl, ⟨rfl, ⟨rfl, ⟨rfl, trivial⟩⟩⟩⟩⟩ ?_
      exact s_294_104 kc Φ _ _ hK22 hK113 v1 v2 v3 v5 m h
set_option maxRecDepth 100000 in
set_option maxHeartbeats 4000000 in
theorem s_294_87 (kc : it_Kc) (Φ : Int32 → it_Me → Prop) (K22 : Int32 → Int32 → Int32 → Int32 → Int32 → it_Me → Prop) (K113 : Int32 → it_Me → Prop) (hK22 : ∀ (v1 : Int32) (v2 : Int32) (v3 : Int32) (v4 : Int32) (v5 : Int32) (m : it_Me), K22 v1 v2 v3 v4 v5 m → it_V kc it_sh0 294 22 [some (.ref 66), some (.int v1), some (.int v2), some (.int v3), some (.int v4), some (.int v5), none] [] m (it_Pi Φ)) (hK113 : ∀ (v4 : Int32) (m : it_Me), K113 v4 m → it_V kc it_sh0 294 113 [none, none, none, none, some (.int v4), none, none] [] m (it_Pi Φ)) (v1 : Int32) (v2 : Int32) (v3 : Int32) (v4 : Int32) (v5 : Int32) (m : it_Me) (h : w_294_87 kc Φ K22 K113 v1 v2 v3 v4 v5 m) : it_V kc it_sh0 294 87 [some (.ref 66), some (.int v1), some (.int v2), some (.int v3), some (.int v4), some (.int v5), none] [] m (it_Pi Φ) := by
  rw [w_294_87] at h
  refine it_V.sN it_cd294 it_m294 1 (pc1 := 88) (ls1 := [some (.ref 66), some (.int v1), some (.int v2), some (.int v3), some (.int v4), some (.int v5), none]) (st1 := [(.int (0 : Int32))]) (mem1 := m) rfl ?_
  refine it_V.weak (l := [some (.ref 66), some (.int v1), some (.int v2), some (.int v3), some (.int v4), some (.int v5), none]) ⟨rfl, ⟨rfl, ⟨rfl, ⟨rfl, ⟨rfl, ⟨rfl, trivial⟩⟩⟩⟩⟩⟩ ?_
  exact s_294_88 kc Φ _ _ hK22 hK113 v1 v2 v3 v4 v5 (0 : Int32) m h
set_option maxRecDepth 100000 in
set_option maxHeartbeats 4000000 in
theorem s_294_22 (kc : it_Kc) (Φ : Int32 → it_Me → Prop) (K113 : Int32 → it_Me → Prop) (hK113 : ∀ (v4 : Int32) (m : it_Me), K113 v4 m → it_V kc it_sh0 294 113 [none, none, none, none, some (.int v4), none, none] [] m (it_Pi Φ)) : ∀ (n : Nat) (v1 : Int32) (v2 : Int32) (v3 : Int32) (v4 : Int32) (v5 : Int32) (m : it_Me) (h : w_294_22 kc Φ K113 n v1 v2 v3 v4 v5 m), it_V kc it_sh0 294 22 [some (.ref 66), some (.int v1), some (.int v2), some (.int v3), some (.int v4), some (.int v5), none] [] m (it_Pi Φ) := by
  intro n
  induction n with
  | zero => intro v1 v2 v3 v4 v5 m h; exact absurd h id
  | succ n ih =>
    intro v1 v2 v3 v4 v5 m h
    rw [w_294_22] at h
    refine it_V.sN it_cd294 it_m294 4 (pc1 := 29) (ls1 := [some (.ref 66), some (.int v1), some (.int v2), some (.int v3), some (.int v4), some (.int v5), none]) (st1 := [(.int v1), (.ref 88), (.int v5)]) (mem1 := m) rfl ?_
    obtain ⟨g1, h⟩ := h
    refine it_V.iald it_cd294 it_m294 rfl ((⟨rfl, by decide⟩ : it_isR 88 8)).2 ((⟨rfl, by decide⟩ : it_isR 88 8)).1 g1 ?_
    refine it_V.at (pc1 := 30) (ls1 := [some (.ref 66), some (.int v1), some (.int v2), some (.int v3), some (.int v4), some (.int v5), none]) (st1 := [(.int (m 88 (Int32.toNatClampNeg v1))), (.int v5)]) (mem1 := m) rfl rfl rfl rfl ?_
    refine it_V.sN it_cd294 it_m294 1 (pc1 := (if (m 88 (Int32.toNatClampNeg v1)) ≤ v5 then 113 else 33)) (ls1 := [some (.ref 66), some (.int v1), some (.int v2), some (.int v3), some (.int v4), some (.int v5), none]) (st1 := []) (mem1 := m) rfl ?_
    refine it_V.ite (fun c2 => ?_) (fun c2 => ?_)
    · have h := h.1 c2
      refine it_V.weak (l := [none, none, none, none, some (.int v4), none, none]) ⟨rfl, trivial⟩ ?_
      exact hK113 v4 m h
    · have h := h.2 c2
      refine it_V.sN it_cd294 it_m294 4 (pc1 := 39) (ls1 := [some (.ref 66), some (.int v1), some (.int v2), some (.int v3), some (.int v4), some (.int v5), none]) (st1 := [(.int v1), (.ref 87), (.ref 66)]) (mem1 := m) rfl ?_
      obtain ⟨g3, h⟩ := h
      refine it_V.iald it_cd294 it_m294 rfl ((⟨rfl, by decide⟩ : it_isR 87 8)).2 ((⟨rfl, by decide⟩ : it_isR 87 8)).1 g3 ?_
      refine it_V.at (pc1 := 40) (ls1 := [some (.ref 66), some (.int v1), some (.int v2), some (.int v3), some (.int v4), some (.int v5), none]) (st1 := [(.int (m 87 (Int32.toNatClampNeg v1))), (.ref 66)]) (mem1 := m) rfl rfl rfl rfl ?_
      refine it_V.sN it_cd294 it_m294 2 (pc1 := 43) (ls1 := [some (.ref 66), some (.int v1), some (.int v2), some (.int v3), some (.int v4), some (.int v5), none]) (st1 := [(.int ((m 87 (Int32.toNatClampNeg v1)) + v5)), (.ref 66)]) (mem1 := m) rfl ?_
      refine it_V.call it_cd294 it_m294 rfl it_m220 [(.ref 66), (.int ((m 87 (Int32.toNatClampNeg v1)) + v5))] [] rfl rfl ⟨Nat.le_of_ble_eq_true rfl, Nat.le_of_ble_eq_true rfl, Nat.le_of_ble_eq_true rfl, Nat.le_of_ble_eq_true rfl, rfl⟩ (s_220 kc ((m 87 (Int32.toNatClampNeg v1)) + v5) m _ h) ?_
      rintro _ m5 ⟨r4, rfl, h⟩
      refine it_V.at (pc1 := 46) (ls1 := [some (.ref 66), some (.int v1), some (.int v2), some (.int v3), some (.int v4), some (.int v5), none]) (st1 := [(.int r4)]) (mem1 := m5) rfl rfl rfl rfl ?_
      refine it_V.sN it_cd294 it_m294 2 (pc1 := (if r4 = v2 then 50 else 87)) (ls1 := [some (.ref 66), some (.int v1), some (.int v2), some (.int v3), some (.int v4), some (.int v5), none]) (st1 := []) (mem1 := m5) rfl ?_
      refine it_V.ite (fun c6 => ?_) (fun c6 => ?_)
      · have h := h.1 c6
        refine it_V.sN it_cd294 it_m294 2 (pc1 := (if v3 ≤ 0 then 87 else 54)) (ls1 := [some (.ref 66), some (.int v1), some (.int v2), some (.int v3), some (.int v4), some (.int v5), none]) (st1 := []) (mem1 := m5) rfl ?_
        refine it_V.ite (fun c7 => ?_) (fun c7 => ?_)
        · have h := h.1 c7
          refine it_V.weak (l := [some (.ref 66), some (.int v1), some (.int v2), some (.int v3), some (.int v4), some (.int v5), none]) ⟨rfl, ⟨rfl, ⟨rfl, ⟨rfl, ⟨rfl, ⟨rfl, trivial⟩⟩⟩⟩⟩⟩ ?_
          exact s_294_87 kc Φ _ _ ih hK113 v1 v2 v3 v4 v5 m5 h
        · have h := h.2 c7
          refine it_V.sN it_cd294 it_m294 3 (pc1 := (if (32 : Int32) ≤ v3 then 87 else 60)) (ls1 := [some (.ref 66), some (.int v1), some (.int v2), some (.int v3), some (.int v4), some (.int v5), none]) (st1 := []) (mem1 := m5) rfl ?_
          refine it_V.ite (fun c8 => ?_) (fun c8 => ?_)
          · have h := h.1 c8
            refine it_V.weak (l := [some (.ref 66), some (.int v1), some (.int v2), some (.int v3), some (.int v4), some (.int v5), none]) ⟨rfl, ⟨rfl, ⟨rfl, ⟨rfl, ⟨rfl, ⟨rfl, trivial⟩⟩⟩⟩⟩⟩ ?_
            exact s_294_87 kc Φ _ _ ih hK113 v1 v2 v3 v4 v5 m5 h
          · have h := h.2 c8
            refine it_V.sN it_cd294 it_m294 4 (pc1 := 66) (ls1 := [some (.ref 66), some (.int v1), some (.int v2), some (.int v3), some (.int v4), some (.int v5), none]) (st1 := [(.int v1), (.ref 87), (.ref 66)]) (mem1 := m5) rfl ?_
            obtain ⟨g9, h⟩ := h
            refine it_V.iald it_cd294 it_m294 rfl ((⟨rfl, by decide⟩ : it_isR 87 8)).2 ((⟨rfl, by decide⟩ : it_isR 87 8)).1 g9 ?_
            refine it_V.at (pc1 := 67) (ls1 := [some (.ref 66), some (.int v1), some (.int v2), some (.int v3), some (.int v4), some (.int v5), none]) (st1 := [(.int (m5 87 (Int32.toNatClampNeg v1))), (.ref 66)]) (mem1 := m5) rfl rfl rfl rfl ?_
            refine it_V.sN it_cd294 it_m294 4 (pc1 := 72) (ls1 := [some (.ref 66), some (.int v1), some (.int v2), some (.int v3), some (.int v4), some (.int v5), none]) (st1 := [(.int (((m5 87 (Int32.toNatClampNeg v1)) + v5) + (4 : Int32))), (.ref 66)]) (mem1 := m5) rfl ?_
            refine it_V.call it_cd294 it_m294 rfl it_m220 [(.ref 66), (.int (((m5 87 (Int32.toNatClampNeg v1)) + v5) + (4 : Int32)))] [] rfl rfl ⟨Nat.le_of_ble_eq_true rfl, Nat.le_of_ble_eq_true rfl, Nat.le_of_ble_eq_true rfl, Nat.le_of_ble_eq_true rfl, rfl⟩ (s_220 kc (((m5 87 (Int32.toNatClampNeg v1)) + v5) + (4 : Int32)) m5 _ h) ?_
            rintro _ m11 ⟨r10, rfl, h⟩
            refine it_V.at (pc1 := 75) (ls1 := [some (.ref 66), some (.int v1), some (.int v2), some (.int v3), some (.int v4), some (.int v5), none]) (st1 := [(.int r10)]) (mem1 := m11) rfl rfl rfl rfl ?_
            refine it_V.sN it_cd294 it_m294 6 (pc1 := (if ((it_us r10 v3) &&& (1 : Int32)) = (1 : Int32) then 83 else 87)) (ls1 := [some (.ref 66), some (.int v1), some (.int v2), some (.int v3), some (.int v4), some (.int v5), none]) (st1 := []) (mem1 := m11) rfl ?_
            refine it_V.ite (fun c12 => ?_) (fun c12 => ?_)
            · have h := h.1 c12
              refine it_V.sN it_cd294 it_m294 2 (pc1 := 88) (ls1 := [some (.ref 66), some (.int v1), some (.int v2), some (.int v3), some (.int v4), some (.int v5), none]) (st1 := [(.int (1 : Int32))]) (mem1 := m11) rfl ?_
              refine it_V.weak (l := [some (.ref 66), some (.int v1), some (.int v2), some (.int v3), some (.int v4), some (.int v5), none]) ⟨rfl, ⟨rfl, ⟨rfl, ⟨rfl, ⟨rfl, ⟨rfl, trivial⟩⟩⟩⟩⟩⟩ ?_
              exact s_294_88 kc Φ _ _ ih hK113 v1 v2 v3 v4 v5 (1 : Int32) m11 h
            · have h := h.2 c12
              refine it_V.weak (l := [some (.ref 66), some (.int v1), some (.int v2), some (.int v3), some (.int v4), some (.int v5), none]) ⟨rfl, ⟨rfl, ⟨rfl, ⟨rfl, ⟨rfl, ⟨rfl, trivial⟩⟩⟩⟩⟩⟩ ?_
              exact s_294_87 kc Φ _ _ ih hK113 v1 v2 v3 v4 v5 m11 h
      · have h := h.2 c6
        refine it_V.weak (l := [some (.ref 66), some (.int v1), some (.int v2), some (.int v3), some (.int v4), some (.int v5), none]) ⟨rfl, ⟨rfl, ⟨rfl, ⟨rfl, ⟨rfl, ⟨rfl, trivial⟩⟩⟩⟩⟩⟩ ?_
        exact s_294_87 kc Φ _ _ ih hK113 v1 v2 v3 v4 v5 m5 h
set_option maxRecDepth 100000 in
set_option maxHeartbeats 4000000 in
theorem s_294_14 (kc : it_Kc) (Φ : Int32 → it_Me → Prop) (m : it_Me) (h : w_294_14 kc Φ m) : it_V kc it_sh0 294 14 [none, none, none, none, none, none, none] [] m (it_Pi Φ) := by
  rw [w_294_14] at h
  refine it_V.sN it_cd294 it_m294 1 (pc1 := 15) (ls1 := [none, none, none, none, none, none, none]) (st1 := [(.int (0 : Int32))]) (mem1 := m) rfl ?_
  exact it_V.ret it_cd294 it_m294 rfl rfl ⟨_, rfl, h⟩
set_option maxRecDepth 100000 in
set_option maxHeartbeats 4000000 in
theorem s_294_113 (kc : it_Kc) (Φ : Int32 → it_Me → Prop) (v4 : Int32) (m : it_Me) (h : w_294_113 kc Φ v4 m) : it_V kc it_sh0 294 113 [none, none, none, none, some (.int v4), none, none] [] m (it_Pi Φ) := by
  rw [w_294_113] at h
  refine it_V.sN it_cd294 it_m294 1 (pc1 := 115) (ls1 := [none, none, none, none, some (.int v4), none, none]) (st1 := [(.int v4)]) (mem1 := m) rfl ?_
  exact it_V.retZ it_cd294 it_m294 rfl rfl h.1 ⟨_, rfl, h.2⟩
set_option maxRecDepth 100000 in
set_option maxHeartbeats 4000000 in
theorem s_294 (kc : it_Kc) (x0 : Int32) (x1 : Int32) (x2 : Int32) (m : it_Me) (Φ : Int32 → it_Me → Prop) (h : w_294 kc x0 x1 x2 m Φ) : it_V kc it_sh0 294 0 (it_loc0 [(.ref 66), (.int x0), (.int x1), (.int x2)] 7) [] m (it_Pi Φ) := by
  rw [w_294] at h
  refine it_V.at (pc1 := 0) (ls1 := [some (.ref 66), some (.int x0), some (.int x1), some (.int x2), none, none, none]) (st1 := []) (mem1 := m) rfl rfl rfl rfl ?_
  refine it_V.sN it_cd294 it_m294 2 (pc1 := (if x2 = 0 then 14 else 4)) (ls1 := [some (.ref 66), some (.int x0), some (.int x1), some (.int x2), none, none, none]) (st1 := []) (mem1 := m) rfl ?_
  refine it_V.ite (fun c1 => ?_) (fun c1 => ?_)
  · have h := h.1 c1
    refine it_V.weak (l := [none, none, none, none, none, none, none]) trivial ?_
    exact s_294_14 kc Φ m h
  · have h := h.2 c1
    refine it_V.sN it_cd294 it_m294 3 (pc1 := 9) (ls1 := [some (.ref 66), some (.int x0), some (.int x1), some (.int x2), none, none, none]) (st1 := [(.int x0), (.ref 87)]) (mem1 := m) rfl ?_
    obtain ⟨g2, h⟩ := h
    refine it_V.iald it_cd294 it_m294 rfl ((⟨rfl, by decide⟩ : it_isR 87 8)).2 ((⟨rfl, by decide⟩ : it_isR 87 8)).1 g2 ?_
    refine it_V.at (pc1 := 10) (ls1 := [some (.ref 66), some (.int x0), some (.int x1), some (.int x2), none, none, none]) (st1 := [(.int (m 87 (Int32.toNatClampNeg x0)))]) (mem1 := m) rfl rfl rfl rfl ?_
    refine it_V.sN it_cd294 it_m294 2 (pc1 := (if (m 87 (Int32.toNatClampNeg x0)) = (-1 : Int32) then 14 else 16)) (ls1 := [some (.ref 66), some (.int x0), some (.int x1), some (.int x2), none, none, none]) (st1 := []) (mem1 := m) rfl ?_
    refine it_V.ite (fun c3 => ?_) (fun c3 => ?_)
    · have h := h.1 c3
      refine it_V.weak (l := [none, none, none, none, none, none, none]) trivial ?_
      exact s_294_14 kc Φ m h
    · have h := h.2 c3
      refine it_V.sN it_cd294 it_m294 4 (pc1 := 22) (ls1 := [some (.ref 66), some (.int x0), some (.int x1), some (.int x2), some (.int (1 : Int32)), some (.int (0 : Int32)), none]) (st1 := []) (mem1 := m) rfl ?_
      obtain ⟨n, h⟩ := h
      exact s_294_22 kc Φ _ (fun v4 m h => s_294_113 kc Φ v4 m h) n x0 x1 x2 (1 : Int32) (0 : Int32) m h
set_option maxRecDepth 100000 in
set_option maxHeartbeats 4000000 in
theorem s_295_70 (kc : it_Kc) (Φ : Int32 → it_Me → Prop) (u0 : Int32) (m : it_Me) (h : w_295_70 kc Φ u0 m) : it_V kc it_sh0 295 70 [none, none, none] [(.int u0)] m (it_Pi Φ) := by
  rw [w_295_70] at h
  exact it_V.ret it_cd295 it_m295 rfl rfl ⟨_, rfl, h⟩
set_option maxRecDepth 100000 in
set_option maxHeartbeats 4000000 in
theorem s_295 (kc : it_Kc) (x0 : Int32) (x1 : Int32) (m : it_Me) (Φ : Int32 → it_Me → Prop) (h : w_295 kc x0 x1 m Φ) : it_V kc it_sh0 295 0 (it_loc0 [(.ref 66), (.int x0), (.int x1)] 3) [] m (it_Pi Φ) := by
  rw [w_295] at h
  refine it_V.at (pc1 := 0) (ls1 := [some (.ref 66), some (.int x0), some (.int x1)]) (st1 := []) (mem1 := m) rfl rfl rfl rfl ?_
  refine it_V.sN it_cd295 it_m295 1 (pc1 := 1) (ls1 := [some (.ref 66), some (.int x0), some (.int x1)]) (st1 := [(.int x1)]) (mem1 := m) rfl ?_
  refine it_V.sN it_cd295 it_m295 1 (pc1 := (if x1 = (0 : Int32) then 52 else (if x1 = (1 : Int32) then 73 else (if x1 = (2 : Int32) then 73 else (if x1 = (3 : Int32) then 73 else (if x1 = (4 : Int32) then 71 else (if x1 = (5 : Int32) then 55 else (if x1 = (6 : Int32) then 73 else (if x1 = (7 : Int32) then 73 else (if x1 = (8 : Int32) then 71 else 73)))))))))) (ls1 := [some (.ref 66), some (.int x0), some (.int x1)]) (st1 := []) (mem1 := m) rfl ?_
  refine it_V.ite (fun c1 => ?_) (fun c1 => ?_)
  · have h := h.1 c1
    refine it_V.sN it_cd295 it_m295 1 (pc1 := 54) (ls1 := [some (.ref 66), some (.int x0), some (.int x1)]) (st1 := [(.int (6 : Int32))]) (mem1 := m) rfl ?_
    exact it_V.ret it_cd295 it_m295 rfl rfl ⟨_, rfl, h⟩
  · have h := h.2 c1
    refine it_V.ite (fun c2 => ?_) (fun c2 => ?_)
    · have h := h.1 c2
      refine it_V.sN it_cd295 it_m295 1 (pc1 := 74) (ls1 := [some (.ref 66), some (.int x0), some (.int x1)]) (st1 := [(.int (3 : Int32))]) (mem1 := m) rfl ?_
      exact it_V.ret it_cd295 it_m295 rfl rfl ⟨_, rfl, h⟩
    · have h := h.2 c2
      refine it_V.ite (fun c3 => ?_) (fun c3 => ?_)
      · have h := h.1 c3
        refine it_V.sN it_cd295 it_m295 1 (pc1 := 74) (ls1 := [some (.ref 66), some (.int x0), some (.int x1)]) (st1 := [(.int (3 : Int32))]) (mem1 := m) rfl ?_
        exact it_V.ret it_cd295 it_m295 rfl rfl ⟨_, rfl, h⟩
      · have h := h.2 c3
        refine it_V.ite (fun c4 => ?_) (fun c4 => ?_)
        · have h := h.1 c4
          refine it_V.sN it_cd295 it_m295 1 (pc1 := 74) (ls1 := [some (.ref 66), some (.int x0), some (.int x1)]) (st1 := [(.int (3 : Int32))]) (mem1 := m) rfl ?_
          exact it_V.ret it_cd295 it_m295 rfl rfl ⟨_, rfl, h⟩
        · have h := h.2 c4
          refine it_V.ite (fun c5 => ?_) (fun c5 => ?_)
          · have h := h.1 c5
            refine it_V.sN it_cd295 it_m295 1 (pc1 := 72) (ls1 := [some (.ref 66), some (.int x0), some (.int x1)]) (st1 := [(.int (1 : Int32))]) (mem1 := m) rfl ?_
            exact it_V.ret it_cd295 it_m295 rfl rfl ⟨_, rfl, h⟩
          · have h := h.2 c5
            refine it_V.ite (fun c6 => ?_) (fun c6 => ?_)
            · have h := h.1 c6
              refine it_V.sN it_cd295 it_m295 3 (pc1 := 60) (ls1 := [some (.ref 66), some (.int x0), some (.int x1)]) (st1 := [(.int x0), (.ref 86)]) (mem1 := m) rfl ?_
              obtain ⟨g7, h⟩ := h
              refine it_V.iald it_cd295 it_m295 rfl ((⟨rfl, by decide⟩ : it_isR 86 8)).2 ((⟨rfl, by decide⟩ : it_isR 86 8)).1 g7 ?_
              refine it_V.at (pc1 := 61) (ls1 := [some (.ref 66), some (.int x0), some (.int x1)]) (st1 := [(.int (m 86 (Int32.toNatClampNeg x0)))]) (mem1 := m) rfl rfl rfl rfl ?_
              refine it_V.sN it_cd295 it_m295 2 (pc1 := (if (m 86 (Int32.toNatClampNeg x0)) = (-1 : Int32) then 65 else 69)) (ls1 := [some (.ref 66), some (.int x0), some (.int x1)]) (st1 := []) (mem1 := m) rfl ?_
              refine it_V.ite (fun c8 => ?_) (fun c8 => ?_)
              · have h := h.1 c8
                refine it_V.sN it_cd295 it_m295 2 (pc1 := 70) (ls1 := [some (.ref 66), some (.int x0), some (.int x1)]) (st1 := [(.int (0 : Int32))]) (mem1 := m) rfl ?_
                refine it_V.weak (l := [none, none, none]) trivial ?_
                exact s_295_70 kc Φ (0 : Int32) m h
              · have h := h.2 c8
                refine it_V.sN it_cd295 it_m295 1 (pc1 := 70) (ls1 := [some (.ref 66), some (.int x0), some (.int x1)]) (st1 := [(.int (3 : Int32))]) (mem1 := m) rfl ?_
                refine it_V.weak (l := [none, none, none]) trivial ?_
                exact s_295_70 kc Φ (3 : Int32) m h
            · have h := h.2 c6
              refine it_V.ite (fun c9 => ?_) (fun c9 => ?_)
              · have h := h.1 c9
                refine it_V.sN it_cd295 it_m295 1 (pc1 := 74) (ls1 := [some (.ref 66), some (.int x0), some (.int x1)]) (st1 := [(.int (3 : Int32))]) (mem1 := m) rfl ?_
                exact it_V.ret it_cd295 it_m295 rfl rfl ⟨_, rfl, h⟩
              · have h := h.2 c9
                refine it_V.ite (fun c10 => ?_) (fun c10 => ?_)
                · have h := h.1 c10
                  refine it_V.sN it_cd295 it_m295 1 (pc1 := 74) (ls1 := [some (.ref 66), some (.int x0), some (.int x1)]) (st1 := [(.int (3 : Int32))]) (mem1 := m) rfl ?_
                  exact it_V.ret it_cd295 it_m295 rfl rfl ⟨_, rfl, h⟩
                · have h := h.2 c10
                  refine it_V.ite (fun c11 => ?_) (fun c11 => ?_)
                  · have h := h.1 c11
                    refine it_V.sN it_cd295 it_m295 1 (pc1 := 72) (ls1 := [some (.ref 66), some (.int x0), some (.int x1)]) (st1 := [(.int (1 : Int32))]) (mem1 := m) rfl ?_
                    exact it_V.ret it_cd295 it_m295 rfl rfl ⟨_, rfl, h⟩
                  · have h := h.2 c11
                    refine it_V.sN it_cd295 it_m295 1 (pc1 := 74) (ls1 := [some (.ref 66), some (.int x0), some (.int x1)]) (st1 := [(.int (3 : Int32))]) (mem1 := m) rfl ?_
                    exact it_V.ret it_cd295 it_m295 rfl rfl ⟨_, rfl, h⟩
set_option maxRecDepth 100000 in
set_option maxHeartbeats 4000000 in
theorem s_297_17 (kc : it_Kc) (Φ : Int32 → it_Me → Prop) (u0 : Int32) (m : it_Me) (h : w_297_17 kc Φ u0 m) : it_V kc it_sh0 297 17 [none, none] [(.int u0)] m (it_Pi Φ) := by
  rw [w_297_17] at h
  exact it_V.ret it_cd297 it_m297 rfl rfl ⟨_, rfl, h⟩
set_option maxRecDepth 100000 in
set_option maxHeartbeats 4000000 in
theorem s_297 (kc : it_Kc) (x0 : Int32) (x1 : Int32) (m : it_Me) (Φ : Int32 → it_Me → Prop) (h : w_297 kc x0 x1 m Φ) : it_V kc it_sh0 297 0 (it_loc0 [(.int x0), (.int x1)] 2) [] m (it_Pi Φ) := by
  rw [w_297] at h
  refine it_V.at (pc1 := 0) (ls1 := [some (.int x0), some (.int x1)]) (st1 := []) (mem1 := m) rfl rfl rfl rfl ?_
  refine it_V.sN it_cd297 it_m297 8 (pc1 := (if 0 ≤ (lg_cmp ((Int32.toInt64 x0) &&& (4294967295 : Int64)) (Int32.toInt64 x1)) then 16 else 12)) (ls1 := [some (.int x0), some (.int x1)]) (st1 := []) (mem1 := m) rfl ?_
  refine it_V.ite (fun c1 => ?_) (fun c1 => ?_)
  · have h := h.1 c1
    refine it_V.sN it_cd297 it_m297 1 (pc1 := 17) (ls1 := [some (.int x0), some (.int x1)]) (st1 := [(.int x1)]) (mem1 := m) rfl ?_
    refine it_V.weak (l := [none, none]) trivial ?_
    exact s_297_17 kc Φ x1 m h
  · have h := h.2 c1
    refine it_V.sN it_cd297 it_m297 2 (pc1 := 17) (ls1 := [some (.int x0), some (.int x1)]) (st1 := [(.int x0)]) (mem1 := m) rfl ?_
    refine it_V.weak (l := [none, none]) trivial ?_
    exact s_297_17 kc Φ x0 m h
set_option maxRecDepth 100000 in
set_option maxHeartbeats 4000000 in
theorem s_298_134 (kc : it_Kc) (Φ : it_Me → Prop) (m : it_Me) (h : w_298_134 kc Φ m) : it_V kc it_sh0 298 134 [none, none, none, none, none, none, none, none] [] m (it_Pv Φ) := by
  rw [w_298_134] at h
  exact it_V.ret it_cd298 it_m298 rfl rfl ⟨rfl, h⟩
set_option maxRecDepth 100000 in
set_option maxHeartbeats 4000000 in
theorem s_298_97 (kc : it_Kc) (Φ : it_Me → Prop) (v1 : Int32) (v2 : Int32) (v6 : Int32) (u0 : Int32) (m : it_Me) (h : w_298_97 kc Φ v1 v2 v6 u0 m) : it_V kc it_sh0 298 97 [some (.ref 66), some (.int v1), some (.int v2), none, none, none, some (.int v6), none] [(.int u0)] m (it_Pv Φ) := by
  rw [w_298_97] at h
  refine it_V.sN it_cd298 it_m298 4 (pc1 := 102) (ls1 := [some (.ref 66), some (.int v1), some (.int v2), none, none, none, some (.int v6), some (.int u0)]) (st1 := [(.int (1 : Int32)), (.int v2), (.ref 66)]) (mem1 := m) rfl ?_
  refine it_V.call it_cd298 it_m298 rfl it_m221 [(.ref 66), (.int v2), (.int (1 : Int32))] [] rfl rfl ⟨Nat.le_of_ble_eq_true rfl, Nat.le_of_ble_eq_true rfl, Nat.le_of_ble_eq_true rfl, Nat.le_of_ble_eq_true rfl, rfl⟩ (s_221 kc v2 (1 : Int32) m _ h) ?_
  rintro _ m1 ⟨rfl, h⟩
  refine it_V.at (pc1 := 105) (ls1 := [some (.ref 66), some (.int v1), some (.int v2), none, none, none, some (.int v6), some (.int u0)]) (st1 := []) (mem1 := m1) rfl rfl rfl rfl ?_
  refine it_V.sN it_cd298 it_m298 5 (pc1 := 111) (ls1 := [some (.ref 66), some (.int v1), some (.int v2), none, none, none, some (.int v6), some (.int u0)]) (st1 := [(.int v6), (.int (v2 + (4 : Int32))), (.ref 66)]) (mem1 := m1) rfl ?_
  refine it_V.call it_cd298 it_m298 rfl it_m221 [(.ref 66), (.int (v2 + (4 : Int32))), (.int v6)] [] rfl rfl ⟨Nat.le_of_ble_eq_true rfl, Nat.le_of_ble_eq_true rfl, Nat.le_of_ble_eq_true rfl, Nat.le_of_ble_eq_true rfl, rfl⟩ (s_221 kc (v2 + (4 : Int32)) v6 m1 _ h) ?_
  rintro _ m2 ⟨rfl, h⟩
  refine it_V.at (pc1 := 114) (ls1 := [some (.ref 66), some (.int v1), some (.int v2), none, none, none, some (.int v6), some (.int u0)]) (st1 := []) (mem1 := m2) rfl rfl rfl rfl ?_
  refine it_V.sN it_cd298 it_m298 5 (pc1 := 121) (ls1 := [some (.ref 66), some (.int v1), some (.int v2), none, none, none, some (.int v6), some (.int u0)]) (st1 := [(.int u0), (.int (v2 + (8 : Int32))), (.ref 66)]) (mem1 := m2) rfl ?_
  refine it_V.call it_cd298 it_m298 rfl it_m221 [(.ref 66), (.int (v2 + (8 : Int32))), (.int u0)] [] rfl rfl ⟨Nat.le_of_ble_eq_true rfl, Nat.le_of_ble_eq_true rfl, Nat.le_of_ble_eq_true rfl, Nat.le_of_ble_eq_true rfl, rfl⟩ (s_221 kc (v2 + (8 : Int32)) u0 m2 _ h) ?_
  rintro _ m3 ⟨rfl, h⟩
  refine it_V.at (pc1 := 124) (ls1 := [some (.ref 66), some (.int v1), some (.int v2), none, none, none, some (.int v6), some (.int u0)]) (st1 := []) (mem1 := m3) rfl rfl rfl rfl ?_
  refine it_V.sN it_cd298 it_m298 5 (pc1 := 131) (ls1 := [some (.ref 66), some (.int v1), some (.int v2), none, none, none, some (.int v6), some (.int u0)]) (st1 := [(.int (v6 + u0)), (.int v1), (.ref 66)]) (mem1 := m3) rfl ?_
  refine it_V.call it_cd298 it_m298 rfl it_m281 [(.ref 66), (.int v1), (.int (v6 + u0))] [] rfl rfl ⟨Nat.le_of_ble_eq_true rfl, Nat.le_of_ble_eq_true rfl, Nat.le_of_ble_eq_true rfl, Nat.le_of_ble_eq_true rfl, rfl⟩ (s_281 kc v1 (v6 + u0) m3 _ h) ?_
  rintro _ m4 ⟨rfl, h⟩
  refine it_V.at (pc1 := 134) (ls1 := [some (.ref 66), some (.int v1), some (.int v2), none, none, none, some (.int v6), some (.int u0)]) (st1 := []) (mem1 := m4) rfl rfl rfl rfl ?_
  refine it_V.weak (l := [none, none, none, none, none, none, none, none]) trivial ?_
  exact s_298_134 kc Φ m4 h
set_option maxRecDepth 100000 in
set_option maxHeartbeats 4000000 in
theorem s_298_83 (kc : it_Kc) (Φ : it_Me → Prop) (v1 : Int32) (v2 : Int32) (v3 : Int32) (v4 : Int32) (v5 : Int32) (u0 : Int32) (m : it_Me) (h : w_298_83 kc Φ v1 v2 v3 v4 v5 u0 m) : it_V kc it_sh0 298 83 [some (.ref 66), some (.int v1), some (.int v2), some (.int v3), some (.int v4), some (.int v5), none, none] [(.int u0)] m (it_Pv Φ) := by
  rw [w_298_83] at h
  refine it_V.sN it_cd298 it_m298 4 (pc1 := (if v3 = (5 : Int32) then 90 else 95)) (ls1 := [some (.ref 66), some (.int v1), some (.int v2), some (.int v3), some (.int v4), some (.int v5), some (.int u0), none]) (st1 := []) (mem1 := m) rfl ?_
  refine it_V.ite (fun c1 => ?_) (fun c1 => ?_)
  · have h := h.1 c1
    refine it_V.sN it_cd298 it_m298 2 (pc1 := 97) (ls1 := [some (.ref 66), some (.int v1), some (.int v2), some (.int v3), some (.int v4), some (.int v5), some (.int u0), none]) (st1 := [(.int v4)]) (mem1 := m) rfl ?_
    refine it_V.weak (l := [some (.ref 66), some (.int v1), some (.int v2), none, none, none, some (.int u0), none]) ⟨rfl, ⟨rfl, ⟨rfl, ⟨rfl, trivial⟩⟩⟩⟩ ?_
    exact s_298_97 kc Φ v1 v2 u0 v4 m h
  · have h := h.2 c1
    refine it_V.sN it_cd298 it_m298 1 (pc1 := 97) (ls1 := [some (.ref 66), some (.int v1), some (.int v2), some (.int v3), some (.int v4), some (.int v5), some (.int u0), none]) (st1 := [(.int v5)]) (mem1 := m) rfl ?_
    refine it_V.weak (l := [some (.ref 66), some (.int v1), some (.int v2), none, none, none, some (.int u0), none]) ⟨rfl, ⟨rfl, ⟨rfl, ⟨rfl, trivial⟩⟩⟩⟩ ?_
    exact s_298_97 kc Φ v1 v2 u0 v5 m h
set_option maxRecDepth 100000 in
set_option maxHeartbeats 4000000 in
theorem s_298 (kc : it_Kc) (x0 : Int32) (x1 : Int32) (x2 : Int32) (x3 : Int32) (x4 : Int32) (m : it_Me) (Φ : it_Me → Prop) (h : w_298 kc x0 x1 x2 x3 x4 m Φ) : it_V kc it_sh0 298 0 (it_loc0 [(.ref 66), (.int x0), (.int x1), (.int x2), (.int x3), (.int x4)] 8) [] m (it_Pv Φ) := by
  rw [w_298] at h
  refine it_V.at (pc1 := 0) (ls1 := [some (.ref 66), some (.int x0), some (.int x1), some (.int x2), some (.int x3), some (.int x4), none, none]) (st1 := []) (mem1 := m) rfl rfl rfl rfl ?_
  refine it_V.sN it_cd298 it_m298 3 (pc1 := (if x2 = (1 : Int32) then 5 else 16)) (ls1 := [some (.ref 66), some (.int x0), some (.int x1), some (.int x2), some (.int x3), some (.int x4), none, none]) (st1 := []) (mem1 := m) rfl ?_
  refine it_V.ite (fun c1 => ?_) (fun c1 => ?_)
  · have h := h.1 c1
    refine it_V.sN it_cd298 it_m298 3 (pc1 := 10) (ls1 := [some (.ref 66), some (.int x0), some (.int x1), some (.int x2), some (.int x3), some (.int x4), none, none]) (st1 := [(.int (1000 : Int32)), (.int x0), (.ref 66)]) (mem1 := m) rfl ?_
    refine it_V.call it_cd298 it_m298 rfl it_m281 [(.ref 66), (.int x0), (.int (1000 : Int32))] [] rfl rfl ⟨Nat.le_of_ble_eq_true rfl, Nat.le_of_ble_eq_true rfl, Nat.le_of_ble_eq_true rfl, Nat.le_of_ble_eq_true rfl, rfl⟩ (s_281 kc x0 (1000 : Int32) m _ h) ?_
    rintro _ m2 ⟨rfl, h⟩
    refine it_V.at (pc1 := 13) (ls1 := [some (.ref 66), some (.int x0), some (.int x1), some (.int x2), some (.int x3), some (.int x4), none, none]) (st1 := []) (mem1 := m2) rfl rfl rfl rfl ?_
    refine it_V.sN it_cd298 it_m298 1 (pc1 := 134) (ls1 := [some (.ref 66), some (.int x0), some (.int x1), some (.int x2), some (.int x3), some (.int x4), none, none]) (st1 := []) (mem1 := m2) rfl ?_
    refine it_V.weak (l := [none, none, none, none, none, none, none, none]) trivial ?_
    exact s_298_134 kc Φ m2 h
  · have h := h.2 c1
    refine it_V.sN it_cd298 it_m298 3 (pc1 := (if x2 = (2 : Int32) then 21 else 33)) (ls1 := [some (.ref 66), some (.int x0), some (.int x1), some (.int x2), some (.int x3), some (.int x4), none, none]) (st1 := []) (mem1 := m) rfl ?_
    refine it_V.ite (fun c3 => ?_) (fun c3 => ?_)
    · have h := h.1 c3
      refine it_V.sN it_cd298 it_m298 4 (pc1 := 27) (ls1 := [some (.ref 66), some (.int x0), some (.int x1), some (.int x2), some (.int x3), some (.int x4), none, none]) (st1 := [(.int (m 66 6)), (.int x0), (.ref 66)]) (mem1 := m) rfl ?_
      refine it_V.call it_cd298 it_m298 rfl it_m281 [(.ref 66), (.int x0), (.int (m 66 6))] [] rfl rfl ⟨Nat.le_of_ble_eq_true rfl, Nat.le_of_ble_eq_true rfl, Nat.le_of_ble_eq_true rfl, Nat.le_of_ble_eq_true rfl, rfl⟩ (s_281 kc x0 (m 66 6) m _ h) ?_
      rintro _ m4 ⟨rfl, h⟩
      refine it_V.at (pc1 := 30) (ls1 := [some (.ref 66), some (.int x0), some (.int x1), some (.int x2), some (.int x3), some (.int x4), none, none]) (st1 := []) (mem1 := m4) rfl rfl rfl rfl ?_
      refine it_V.sN it_cd298 it_m298 1 (pc1 := 134) (ls1 := [some (.ref 66), some (.int x0), some (.int x1), some (.int x2), some (.int x3), some (.int x4), none, none]) (st1 := []) (mem1 := m4) rfl ?_
      refine it_V.weak (l := [none, none, none, none, none, none, none, none]) trivial ?_
      exact s_298_134 kc Φ m4 h
    · have h := h.2 c3
      refine it_V.sN it_cd298 it_m298 3 (pc1 := (if x2 = (3 : Int32) then 38 else 69)) (ls1 := [some (.ref 66), some (.int x0), some (.int x1), some (.int x2), some (.int x3), some (.int x4), none, none]) (st1 := []) (mem1 := m) rfl ?_
      refine it_V.ite (fun c5 => ?_) (fun c5 => ?_)
      · have h := h.1 c5
        refine it_V.sN it_cd298 it_m298 2 (pc1 := 40) (ls1 := [some (.ref 66), some (.int x0), some (.int x1), some (.int x2), some (.int x3), some (.int x4), none, none]) (st1 := [(.int x1), (.ref 66)]) (mem1 := m) rfl ?_
        refine it_V.call it_cd298 it_m298 rfl it_m220 [(.ref 66), (.int x1)] [] rfl rfl ⟨Nat.le_of_ble_eq_true rfl, Nat.le_of_ble_eq_true rfl, Nat.le_of_ble_eq_true rfl, Nat.le_of_ble_eq_true rfl, rfl⟩ (s_220 kc x1 m _ h) ?_
        rintro _ m7 ⟨r6, rfl, h⟩
        refine it_V.at (pc1 := 43) (ls1 := [some (.ref 66), some (.int x0), some (.int x1), some (.int x2), some (.int x3), some (.int x4), none, none]) (st1 := [(.int r6)]) (mem1 := m7) rfl rfl rfl rfl ?_
        refine it_V.sN it_cd298 it_m298 1 (pc1 := (if r6 = 0 then 46 else 55)) (ls1 := [some (.ref 66), some (.int x0), some (.int x1), some (.int x2), some (.int x3), some (.int x4), none, none]) (st1 := []) (mem1 := m7) rfl ?_
        refine it_V.ite (fun c8 => ?_) (fun c8 => ?_)
        · have h := h.1 c8
          refine it_V.sN it_cd298 it_m298 3 (pc1 := 49) (ls1 := [some (.ref 66), some (.int x0), some (.int x1), some (.int x2), some (.int x3), some (.int x4), none, none]) (st1 := [(.int (3 : Int32)), (.int x0), (.ref 66)]) (mem1 := m7) rfl ?_
          refine it_V.call it_cd298 it_m298 rfl it_m282 [(.ref 66), (.int x0), (.int (3 : Int32))] [] rfl rfl ⟨Nat.le_of_ble_eq_true rfl, Nat.le_of_ble_eq_true rfl, Nat.le_of_ble_eq_true rfl, Nat.le_of_ble_eq_true rfl, rfl⟩ (s_282 kc x0 (3 : Int32) m7 _ h) ?_
          rintro _ m9 ⟨rfl, h⟩
          refine it_V.at (pc1 := 52) (ls1 := [some (.ref 66), some (.int x0), some (.int x1), some (.int x2), some (.int x3), some (.int x4), none, none]) (st1 := []) (mem1 := m9) rfl rfl rfl rfl ?_
          refine it_V.sN it_cd298 it_m298 1 (pc1 := 134) (ls1 := [some (.ref 66), some (.int x0), some (.int x1), some (.int x2), some (.int x3), some (.int x4), none, none]) (st1 := []) (mem1 := m9) rfl ?_
          refine it_V.weak (l := [none, none, none, none, none, none, none, none]) trivial ?_
          exact s_298_134 kc Φ m9 h
        · have h := h.2 c8
          refine it_V.sN it_cd298 it_m298 3 (pc1 := 58) (ls1 := [some (.ref 66), some (.int x0), some (.int x1), some (.int x2), some (.int x3), some (.int x4), none, none]) (st1 := [(.int (0 : Int32)), (.int x1), (.ref 66)]) (mem1 := m7) rfl ?_
          refine it_V.call it_cd298 it_m298 rfl it_m221 [(.ref 66), (.int x1), (.int (0 : Int32))] [] rfl rfl ⟨Nat.le_of_ble_eq_true rfl, Nat.le_of_ble_eq_true rfl, Nat.le_of_ble_eq_true rfl, Nat.le_of_ble_eq_true rfl, rfl⟩ (s_221 kc x1 (0 : Int32) m7 _ h) ?_
          rintro _ m10 ⟨rfl, h⟩
          refine it_V.at (pc1 := 61) (ls1 := [some (.ref 66), some (.int x0), some (.int x1), some (.int x2), some (.int x3), some (.int x4), none, none]) (st1 := []) (mem1 := m10) rfl rfl rfl rfl ?_
          refine it_V.sN it_cd298 it_m298 2 (pc1 := 63) (ls1 := [some (.ref 66), some (.int x0), some (.int x1), some (.int x2), some (.int x3), some (.int x4), none, none]) (st1 := [(.int x0), (.ref 66)]) (mem1 := m10) rfl ?_
          refine it_V.call it_cd298 it_m298 rfl it_m280 [(.ref 66), (.int x0)] [] rfl rfl ⟨Nat.le_of_ble_eq_true rfl, Nat.le_of_ble_eq_true rfl, Nat.le_of_ble_eq_true rfl, Nat.le_of_ble_eq_true rfl, rfl⟩ (s_280 kc x0 m10 _ h) ?_
          rintro _ m11 ⟨rfl, h⟩
          refine it_V.at (pc1 := 66) (ls1 := [some (.ref 66), some (.int x0), some (.int x1), some (.int x2), some (.int x3), some (.int x4), none, none]) (st1 := []) (mem1 := m11) rfl rfl rfl rfl ?_
          refine it_V.sN it_cd298 it_m298 1 (pc1 := 134) (ls1 := [some (.ref 66), some (.int x0), some (.int x1), some (.int x2), some (.int x3), some (.int x4), none, none]) (st1 := []) (mem1 := m11) rfl ?_
          refine it_V.weak (l := [none, none, none, none, none, none, none, none]) trivial ?_
          exact s_298_134 kc Φ m11 h
      · have h := h.2 c5
        refine it_V.sN it_cd298 it_m298 3 (pc1 := (if x2 = (5 : Int32) then 74 else 81)) (ls1 := [some (.ref 66), some (.int x0), some (.int x1), some (.int x2), some (.int x3), some (.int x4), none, none]) (st1 := []) (mem1 := m) rfl ?_
        refine it_V.ite (fun c12 => ?_) (fun c12 => ?_)
        · have h := h.1 c12
          refine it_V.sN it_cd298 it_m298 3 (pc1 := 83) (ls1 := [some (.ref 66), some (.int x0), some (.int x1), some (.int x2), some (.int x3), some (.int x4), none, none]) (st1 := [(.int (m 66 6))]) (mem1 := m) rfl ?_
          exact s_298_83 kc Φ x0 x1 x2 x3 x4 (m 66 6) m h
        · have h := h.2 c12
          refine it_V.sN it_cd298 it_m298 1 (pc1 := 83) (ls1 := [some (.ref 66), some (.int x0), some (.int x1), some (.int x2), some (.int x3), some (.int x4), none, none]) (st1 := [(.int x3)]) (mem1 := m) rfl ?_
          exact s_298_83 kc Φ x0 x1 x2 x3 x4 x3 m h
set_option maxRecDepth 100000 in
set_option maxHeartbeats 4000000 in
theorem s_299_223 (kc : it_Kc) (Φ : it_Me → Prop) (m : it_Me) (h : w_299_223 kc Φ m) : it_V kc it_sh0 299 223 [none, none, none, none, none, none, none, none] [] m (it_Pv Φ) := by
  rw [w_299_223] at h
  exact it_V.ret it_cd299 it_m299 rfl rfl ⟨rfl, h⟩
set_option maxRecDepth 100000 in
set_option maxHeartbeats 4000000 in
theorem s_299_218 (kc : it_Kc) (Φ : it_Me → Prop) (v1 : Int32) (m : it_Me) (h : w_299_218 kc Φ v1 m) : it_V kc it_sh0 299 218 [some (.ref 66), some (.int v1), none, none, none, none, none, none] [] m (it_Pv Φ) := by
  rw [w_299_218] at h
  refine it_V.sN it_cd299 it_m299 2 (pc1 := 220) (ls1 := [some (.ref 66), some (.int v1), none, none, none, none, none, none]) (st1 := [(.int v1), (.ref 66)]) (mem1 := m) rfl ?_
  refine it_V.call it_cd299 it_m299 rfl it_m280 [(.ref 66), (.int v1)] [] rfl rfl ⟨Nat.le_of_ble_eq_true rfl, Nat.le_of_ble_eq_true rfl, Nat.le_of_ble_eq_true rfl, Nat.le_of_ble_eq_true rfl, rfl⟩ (s_280 kc v1 m _ h) ?_
  rintro _ m1 ⟨rfl, h⟩
  refine it_V.at (pc1 := 223) (ls1 := [some (.ref 66), some (.int v1), none, none, none, none, none, none]) (st1 := []) (mem1 := m1) rfl rfl rfl rfl ?_
  refine it_V.weak (l := [none, none, none, none, none, none, none, none]) trivial ?_
  exact s_299_223 kc Φ m1 h
set_option maxRecDepth 100000 in
set_option maxHeartbeats 4000000 in
theorem s_299_120 (kc : it_Kc) (Φ : it_Me → Prop) (v1 : Int32) (v3 : Int32) (v6 : Int32) (u0 : Int32) (u2 : Int32) (m : it_Me) (h : w_299_120 kc Φ v1 v3 v6 u0 u2 m) : it_V kc it_sh0 299 120 [some (.ref 66), some (.int v1), none, some (.int v3), none, none, some (.int v6), none] [(.int u2), (.ref 66), (.int u0)] m (it_Pv Φ) := by
  rw [w_299_120] at h
  refine it_V.sN it_cd299 it_m299 2 (pc1 := 122) (ls1 := [some (.ref 66), some (.int v1), none, some (.int v3), none, none, some (.int v6), none]) (st1 := [(.int (u2 + (4 : Int32))), (.ref 66), (.int u0)]) (mem1 := m) rfl ?_
  refine it_V.call it_cd299 it_m299 rfl it_m220 [(.ref 66), (.int (u2 + (4 : Int32)))] [(.int u0)] rfl rfl ⟨Nat.le_of_ble_eq_true rfl, Nat.le_of_ble_eq_true rfl, Nat.le_of_ble_eq_true rfl, Nat.le_of_ble_eq_true rfl, rfl⟩ (s_220 kc (u2 + (4 : Int32)) m _ h) ?_
  rintro _ m2 ⟨r1, rfl, h⟩
  refine it_V.at (pc1 := 125) (ls1 := [some (.ref 66), some (.int v1), none, some (.int v3), none, none, some (.int v6), none]) (st1 := [(.int r1), (.int u0)]) (mem1 := m2) rfl rfl rfl rfl ?_
  refine it_V.call it_cd299 it_m299 rfl it_m297 [(.int u0), (.int r1)] [] rfl rfl ⟨Nat.le_of_ble_eq_true rfl, Nat.le_of_ble_eq_true rfl, Nat.le_of_ble_eq_true rfl, Nat.le_of_ble_eq_true rfl, rfl⟩ (s_297 kc u0 r1 m2 _ h) ?_
  rintro _ m4 ⟨r3, rfl, h⟩
  refine it_V.at (pc1 := 128) (ls1 := [some (.ref 66), some (.int v1), none, some (.int v3), none, none, some (.int v6), none]) (st1 := [(.int r3)]) (mem1 := m4) rfl rfl rfl rfl ?_
  refine it_V.sN it_cd299 it_m299 3 (pc1 := 133) (ls1 := [some (.ref 66), some (.int v1), none, some (.int v3), none, none, some (.int v6), some (.int r3)]) (st1 := [(.int v6), (.ref 66)]) (mem1 := m4) rfl ?_
  refine it_V.call it_cd299 it_m299 rfl it_m220 [(.ref 66), (.int v6)] [] rfl rfl ⟨Nat.le_of_ble_eq_true rfl, Nat.le_of_ble_eq_true rfl, Nat.le_of_ble_eq_true rfl, Nat.le_of_ble_eq_true rfl, rfl⟩ (s_220 kc v6 m4 _ h) ?_
  rintro _ m6 ⟨r5, rfl, h⟩
  refine it_V.at (pc1 := 136) (ls1 := [some (.ref 66), some (.int v1), none, some (.int v3), none, none, some (.int v6), some (.int r3)]) (st1 := [(.int r5)]) (mem1 := m6) rfl rfl rfl rfl ?_
  refine it_V.sN it_cd299 it_m299 1 (pc1 := (if r5 = 0 then 148 else 139)) (ls1 := [some (.ref 66), some (.int v1), none, some (.int v3), none, none, some (.int v6), some (.int r3)]) (st1 := []) (mem1 := m6) rfl ?_
  refine it_V.ite (fun c7 => ?_) (fun c7 => ?_)
  · have h := h.1 c7
    refine it_V.sN it_cd299 it_m299 2 (pc1 := (if r3 = 0 then 153 else 163)) (ls1 := [some (.ref 66), some (.int v1), none, some (.int v3), none, none, some (.int v6), some (.int r3)]) (st1 := []) (mem1 := m6) rfl ?_
    refine it_V.ite (fun c8 => ?_) (fun c8 => ?_)
    · have h := h.1 c8
      refine it_V.sN it_cd299 it_m299 3 (pc1 := 157) (ls1 := [some (.ref 66), some (.int v1), none, some (.int v3), none, none, some (.int v6), some (.int r3)]) (st1 := [(.int (7 : Int32)), (.int v1), (.ref 66)]) (mem1 := m6) rfl ?_
      refine it_V.call it_cd299 it_m299 rfl it_m282 [(.ref 66), (.int v1), (.int (7 : Int32))] [] rfl rfl ⟨Nat.le_of_ble_eq_true rfl, Nat.le_of_ble_eq_true rfl, Nat.le_of_ble_eq_true rfl, Nat.le_of_ble_eq_true rfl, rfl⟩ (s_282 kc v1 (7 : Int32) m6 _ h) ?_
      rintro _ m9 ⟨rfl, h⟩
      refine it_V.at (pc1 := 160) (ls1 := [some (.ref 66), some (.int v1), none, some (.int v3), none, none, some (.int v6), some (.int r3)]) (st1 := []) (mem1 := m9) rfl rfl rfl rfl ?_
      refine it_V.sN it_cd299 it_m299 1 (pc1 := 223) (ls1 := [some (.ref 66), some (.int v1), none, some (.int v3), none, none, some (.int v6), some (.int r3)]) (st1 := []) (mem1 := m9) rfl ?_
      refine it_V.weak (l := [none, none, none, none, none, none, none, none]) trivial ?_
      exact s_299_223 kc Φ m9 h
    · have h := h.2 c8
      refine it_V.sN it_cd299 it_m299 3 (pc1 := 168) (ls1 := [some (.ref 66), some (.int v1), none, some (.int v3), none, none, some (.int v6), some (.int r3)]) (st1 := [(.int r3), (.int v6), (.ref 66)]) (mem1 := m6) rfl ?_
      refine it_V.call it_cd299 it_m299 rfl it_m221 [(.ref 66), (.int v6), (.int r3)] [] rfl rfl ⟨Nat.le_of_ble_eq_true rfl, Nat.le_of_ble_eq_true rfl, Nat.le_of_ble_eq_true rfl, Nat.le_of_ble_eq_true rfl, rfl⟩ (s_221 kc v6 r3 m6 _ h) ?_
      rintro _ m10 ⟨rfl, h⟩
      refine it_V.at (pc1 := 171) (ls1 := [some (.ref 66), some (.int v1), none, some (.int v3), none, none, some (.int v6), some (.int r3)]) (st1 := []) (mem1 := m10) rfl rfl rfl rfl ?_
      refine it_V.sN it_cd299 it_m299 5 (pc1 := 177) (ls1 := [some (.ref 66), some (.int v1), none, some (.int v3), none, none, some (.int v6), some (.int r3)]) (st1 := [(.int (0 : Int32)), (.int (v6 + (4 : Int32))), (.ref 66)]) (mem1 := m10) rfl ?_
      refine it_V.call it_cd299 it_m299 rfl it_m221 [(.ref 66), (.int (v6 + (4 : Int32))), (.int (0 : Int32))] [] rfl rfl ⟨Nat.le_of_ble_eq_true rfl, Nat.le_of_ble_eq_true rfl, Nat.le_of_ble_eq_true rfl, Nat.le_of_ble_eq_true rfl, rfl⟩ (s_221 kc (v6 + (4 : Int32)) (0 : Int32) m10 _ h) ?_
      rintro _ m11 ⟨rfl, h⟩
      refine it_V.at (pc1 := 180) (ls1 := [some (.ref 66), some (.int v1), none, some (.int v3), none, none, some (.int v6), some (.int r3)]) (st1 := []) (mem1 := m11) rfl rfl rfl rfl ?_
      refine it_V.sN it_cd299 it_m299 9 (pc1 := (if v3 = (1 : Int32) then 195 else 208)) (ls1 := [some (.ref 66), some (.int v1), none, some (.int v3), none, none, some (.int v6), some (.int r3)]) (st1 := []) (mem1 := (it_sv m11 66 69 ((m11 66 69) + (1 : Int32)))) rfl ?_
      refine it_V.ite (fun c12 => ?_) (fun c12 => ?_)
      · have h := h.1 c12
        refine it_V.sN it_cd299 it_m299 5 (pc1 := 204) (ls1 := [some (.ref 66), some (.int v1), none, some (.int v3), none, none, some (.int v6), some (.int r3)]) (st1 := [(.int ((it_sv m11 66 69 ((m11 66 69) + (1 : Int32))) 66 69)), (.int v1), (.ref 111)]) (mem1 := (it_sv m11 66 69 ((m11 66 69) + (1 : Int32)))) rfl ?_
        obtain ⟨g13, h⟩ := h
        refine it_V.iast it_cd299 it_m299 rfl ((⟨rfl, by decide⟩ : it_isR 111 8)).1 g13 ?_
        refine it_V.at (pc1 := 205) (ls1 := [some (.ref 66), some (.int v1), none, some (.int v3), none, none, some (.int v6), some (.int r3)]) (st1 := []) (mem1 := (it_sv (it_sv m11 66 69 ((m11 66 69) + (1 : Int32))) 111 (Int32.toNatClampNeg v1) ((it_sv m11 66 69 ((m11 66 69) + (1 : Int32))) 66 69))) rfl rfl rfl rfl ?_
        refine it_V.sN it_cd299 it_m299 1 (pc1 := 218) (ls1 := [some (.ref 66), some (.int v1), none, some (.int v3), none, none, some (.int v6), some (.int r3)]) (st1 := []) (mem1 := (it_sv (it_sv m11 66 69 ((m11 66 69) + (1 : Int32))) 111 (Int32.toNatClampNeg v1) ((it_sv m11 66 69 ((m11 66 69) + (1 : Int32))) 66 69))) rfl ?_
        refine it_V.weak (l := [some (.ref 66), some (.int v1), none, none, none, none, none, none]) ⟨rfl, ⟨rfl, trivial⟩⟩ ?_
        exact s_299_218 kc Φ v1 (it_sv (it_sv m11 66 69 ((m11 66 69) + (1 : Int32))) 111 (Int32.toNatClampNeg v1) ((it_sv m11 66 69 ((m11 66 69) + (1 : Int32))) 66 69)) h
      · have h := h.2 c12
        refine it_V.sN it_cd299 it_m299 5 (pc1 := 217) (ls1 := [some (.ref 66), some (.int v1), none, some (.int v3), none, none, some (.int v6), some (.int r3)]) (st1 := [(.int ((it_sv m11 66 69 ((m11 66 69) + (1 : Int32))) 66 69)), (.int v1), (.ref 112)]) (mem1 := (it_sv m11 66 69 ((m11 66 69) + (1 : Int32)))) rfl ?_
        obtain ⟨g14, h⟩ := h
        refine it_V.iast it_cd299 it_m299 rfl ((⟨rfl, by decide⟩ : it_isR 112 8)).1 g14 ?_
        refine it_V.at (pc1 := 218) (ls1 := [some (.ref 66), some (.int v1), none, some (.int v3), none, none, some (.int v6), some (.int r3)]) (st1 := []) (mem1 := (it_sv (it_sv m11 66 69 ((m11 66 69) + (1 : Int32))) 112 (Int32.toNatClampNeg v1) ((it_sv m11 66 69 ((m11 66 69) + (1 : Int32))) 66 69))) rfl rfl rfl rfl ?_
        refine it_V.weak (l := [some (.ref 66), some (.int v1), none, none, none, none, none, none]) ⟨rfl, ⟨rfl, trivial⟩⟩ ?_
        exact s_299_218 kc Φ v1 (it_sv (it_sv m11 66 69 ((m11 66 69) + (1 : Int32))) 112 (Int32.toNatClampNeg v1) ((it_sv m11 66 69 ((m11 66 69) + (1 : Int32))) 66 69)) h
  · have h := h.2 c7
    refine it_V.sN it_cd299 it_m299 3 (pc1 := 142) (ls1 := [some (.ref 66), some (.int v1), none, some (.int v3), none, none, some (.int v6), some (.int r3)]) (st1 := [(.int (2 : Int32)), (.int v1), (.ref 66)]) (mem1 := m6) rfl ?_
    refine it_V.call it_cd299 it_m299 rfl it_m282 [(.ref 66), (.int v1), (.int (2 : Int32))] [] rfl rfl ⟨Nat.le_of_ble_eq_true rfl, Nat.le_of_ble_eq_true rfl, Nat.le_of_ble_eq_true rfl, Nat.le_of_ble_eq_true rfl, rfl⟩ (s_282 kc v1 (2 : Int32) m6 _ h) ?_
    rintro _ m15 ⟨rfl, h⟩
    refine it_V.at (pc1 := 145) (ls1 := [some (.ref 66), some (.int v1), none, some (.int v3), none, none, some (.int v6), some (.int r3)]) (st1 := []) (mem1 := m15) rfl rfl rfl rfl ?_
    refine it_V.sN it_cd299 it_m299 1 (pc1 := 223) (ls1 := [some (.ref 66), some (.int v1), none, some (.int v3), none, none, some (.int v6), some (.int r3)]) (st1 := []) (mem1 := m15) rfl ?_
    refine it_V.weak (l := [none, none, none, none, none, none, none, none]) trivial ?_
    exact s_299_223 kc Φ m15 h
set_option maxRecDepth 100000 in
set_option maxHeartbeats 4000000 in
theorem s_299_95 (kc : it_Kc) (Φ : it_Me → Prop) (v1 : Int32) (v2 : Int32) (v3 : Int32) (v4 : Int32) (u0 : Int32) (m : it_Me) (h : w_299_95 kc Φ v1 v2 v3 v4 u0 m) : it_V kc it_sh0 299 95 [some (.ref 66), some (.int v1), some (.int v2), some (.int v3), some (.int v4), none, none, none] [(.int u0)] m (it_Pv Φ) := by
  rw [w_299_95] at h
  refine it_V.sN it_cd299 it_m299 6 (pc1 := (if v3 = (1 : Int32) then 105 else 114)) (ls1 := [some (.ref 66), some (.int v1), some (.int v2), some (.int v3), some (.int v4), none, some (.int u0), none]) (st1 := [(.ref 66), (.int v4)]) (mem1 := m) rfl ?_
  refine it_V.ite (fun c1 => ?_) (fun c1 => ?_)
  · have h := h.1 c1
    refine it_V.sN it_cd299 it_m299 3 (pc1 := 108) (ls1 := [some (.ref 66), some (.int v1), some (.int v2), some (.int v3), some (.int v4), none, some (.int u0), none]) (st1 := [(.int (1 : Int32)), (.int (1 : Int32)), (.int v2), (.ref 66), (.int v4)]) (mem1 := m) rfl ?_
    refine it_V.call it_cd299 it_m299 rfl it_m270 [(.int v2), (.int (1 : Int32)), (.int (1 : Int32))] [(.ref 66), (.int v4)] rfl rfl ⟨Nat.le_of_ble_eq_true rfl, Nat.le_of_ble_eq_true rfl, Nat.le_of_ble_eq_true rfl, Nat.le_of_ble_eq_true rfl, rfl⟩ (s_270 kc v2 (1 : Int32) (1 : Int32) m _ h) ?_
    rintro _ m3 ⟨r2, rfl, h⟩
    refine it_V.at (pc1 := 111) (ls1 := [some (.ref 66), some (.int v1), some (.int v2), some (.int v3), some (.int v4), none, some (.int u0), none]) (st1 := [(.int r2), (.ref 66), (.int v4)]) (mem1 := m3) rfl rfl rfl rfl ?_
    refine it_V.sN it_cd299 it_m299 1 (pc1 := 120) (ls1 := [some (.ref 66), some (.int v1), some (.int v2), some (.int v3), some (.int v4), none, some (.int u0), none]) (st1 := [(.int r2), (.ref 66), (.int v4)]) (mem1 := m3) rfl ?_
    refine it_V.weak (l := [some (.ref 66), some (.int v1), none, some (.int v3), none, none, some (.int u0), none]) ⟨rfl, ⟨rfl, ⟨rfl, ⟨rfl, trivial⟩⟩⟩⟩ ?_
    exact s_299_120 kc Φ v1 v3 u0 v4 r2 m3 h
  · have h := h.2 c1
    refine it_V.sN it_cd299 it_m299 3 (pc1 := 117) (ls1 := [some (.ref 66), some (.int v1), some (.int v2), some (.int v3), some (.int v4), none, some (.int u0), none]) (st1 := [(.int (1 : Int32)), (.int (1 : Int32)), (.int v2), (.ref 66), (.int v4)]) (mem1 := m) rfl ?_
    refine it_V.call it_cd299 it_m299 rfl it_m271 [(.int v2), (.int (1 : Int32)), (.int (1 : Int32))] [(.ref 66), (.int v4)] rfl rfl ⟨Nat.le_of_ble_eq_true rfl, Nat.le_of_ble_eq_true rfl, Nat.le_of_ble_eq_true rfl, Nat.le_of_ble_eq_true rfl, rfl⟩ (s_271 kc v2 (1 : Int32) (1 : Int32) m _ h) ?_
    rintro _ m5 ⟨r4, rfl, h⟩
    refine it_V.at (pc1 := 120) (ls1 := [some (.ref 66), some (.int v1), some (.int v2), some (.int v3), some (.int v4), none, some (.int u0), none]) (st1 := [(.int r4), (.ref 66), (.int v4)]) (mem1 := m5) rfl rfl rfl rfl ?_
    refine it_V.weak (l := [some (.ref 66), some (.int v1), none, some (.int v3), none, none, some (.int u0), none]) ⟨rfl, ⟨rfl, ⟨rfl, ⟨rfl, trivial⟩⟩⟩⟩ ?_
    exact s_299_120 kc Φ v1 v3 u0 v4 r4 m5 h
set_option maxRecDepth 100000 in
set_option maxHeartbeats 4000000 in
theorem s_299 (kc : it_Kc) (x0 : Int32) (x1 : Int32) (x2 : Int32) (x3 : Int32) (m : it_Me) (Φ : it_Me → Prop) (h : w_299 kc x0 x1 x2 x3 m Φ) : it_V kc it_sh0 299 0 (it_loc0 [(.ref 66), (.int x0), (.int x1), (.int x2), (.int x3)] 8) [] m (it_Pv Φ) := by
  rw [w_299] at h
  refine it_V.at (pc1 := 0) (ls1 := [some (.ref 66), some (.int x0), some (.int x1), some (.int x2), some (.int x3), none, none, none]) (st1 := []) (mem1 := m) rfl rfl rfl rfl ?_
  refine it_V.sN it_cd299 it_m299 2 (pc1 := 2) (ls1 := [some (.ref 66), some (.int x0), some (.int x1), some (.int x2), some (.int x3), none, none, none]) (st1 := [(.int (1 : Int32)), (.int x1)]) (mem1 := m) rfl ?_
  refine it_V.call it_cd299 it_m299 rfl it_m269 [(.int x1), (.int (1 : Int32))] [] rfl rfl ⟨Nat.le_of_ble_eq_true rfl, Nat.le_of_ble_eq_true rfl, Nat.le_of_ble_eq_true rfl, Nat.le_of_ble_eq_true rfl, rfl⟩ (s_269 kc x1 (1 : Int32) m _ h) ?_
  rintro _ m2 ⟨r1, rfl, h⟩
  refine it_V.at (pc1 := 5) (ls1 := [some (.ref 66), some (.int x0), some (.int x1), some (.int x2), some (.int x3), none, none, none]) (st1 := [(.int r1)]) (mem1 := m2) rfl rfl rfl rfl ?_
  refine it_V.sN it_cd299 it_m299 4 (pc1 := (if x2 = (3 : Int32) then 12 else 80)) (ls1 := [some (.ref 66), some (.int x0), some (.int x1), some (.int x2), some (.int x3), some (.int r1), none, none]) (st1 := []) (mem1 := m2) rfl ?_
  refine it_V.ite (fun c3 => ?_) (fun c3 => ?_)
  · have h := h.1 c3
    refine it_V.sN it_cd299 it_m299 4 (pc1 := 18) (ls1 := [some (.ref 66), some (.int x0), some (.int x1), some (.int x2), some (.int x3), some (.int r1), none, none]) (st1 := [(.int (r1 + (8 : Int32))), (.ref 66)]) (mem1 := m2) rfl ?_
    refine it_V.call it_cd299 it_m299 rfl it_m220 [(.ref 66), (.int (r1 + (8 : Int32)))] [] rfl rfl ⟨Nat.le_of_ble_eq_true rfl, Nat.le_of_ble_eq_true rfl, Nat.le_of_ble_eq_true rfl, Nat.le_of_ble_eq_true rfl, rfl⟩ (s_220 kc (r1 + (8 : Int32)) m2 _ h) ?_
    rintro _ m5 ⟨r4, rfl, h⟩
    refine it_V.at (pc1 := 21) (ls1 := [some (.ref 66), some (.int x0), some (.int x1), some (.int x2), some (.int x3), some (.int r1), none, none]) (st1 := [(.int r4)]) (mem1 := m5) rfl rfl rfl rfl ?_
    refine it_V.sN it_cd299 it_m299 1 (pc1 := (if r4 = 0 then 24 else 31)) (ls1 := [some (.ref 66), some (.int x0), some (.int x1), some (.int x2), some (.int x3), some (.int r1), none, none]) (st1 := []) (mem1 := m5) rfl ?_
    refine it_V.ite (fun c6 => ?_) (fun c6 => ?_)
    · have h := h.1 c6
      refine it_V.sN it_cd299 it_m299 3 (pc1 := 27) (ls1 := [some (.ref 66), some (.int x0), some (.int x1), some (.int x2), some (.int x3), some (.int r1), none, none]) (st1 := [(.int (3 : Int32)), (.int x0), (.ref 66)]) (mem1 := m5) rfl ?_
      refine it_V.call it_cd299 it_m299 rfl it_m282 [(.ref 66), (.int x0), (.int (3 : Int32))] [] rfl rfl ⟨Nat.le_of_ble_eq_true rfl, Nat.le_of_ble_eq_true rfl, Nat.le_of_ble_eq_true rfl, Nat.le_of_ble_eq_true rfl, rfl⟩ (s_282 kc x0 (3 : Int32) m5 _ h) ?_
      rintro _ m7 ⟨rfl, h⟩
      refine it_V.at (pc1 := 30) (ls1 := [some (.ref 66), some (.int x0), some (.int x1), some (.int x2), some (.int x3), some (.int r1), none, none]) (st1 := []) (mem1 := m7) rfl rfl rfl rfl ?_
      exact it_V.ret it_cd299 it_m299 rfl rfl ⟨rfl, h⟩
    · have h := h.2 c6
      refine it_V.sN it_cd299 it_m299 4 (pc1 := 37) (ls1 := [some (.ref 66), some (.int x0), some (.int x1), some (.int x2), some (.int x3), some (.int r1), none, none]) (st1 := [(.int (r1 + (12 : Int32))), (.ref 66)]) (mem1 := m5) rfl ?_
      refine it_V.call it_cd299 it_m299 rfl it_m220 [(.ref 66), (.int (r1 + (12 : Int32)))] [] rfl rfl ⟨Nat.le_of_ble_eq_true rfl, Nat.le_of_ble_eq_true rfl, Nat.le_of_ble_eq_true rfl, Nat.le_of_ble_eq_true rfl, rfl⟩ (s_220 kc (r1 + (12 : Int32)) m5 _ h) ?_
      rintro _ m9 ⟨r8, rfl, h⟩
      refine it_V.at (pc1 := 40) (ls1 := [some (.ref 66), some (.int x0), some (.int x1), some (.int x2), some (.int x3), some (.int r1), none, none]) (st1 := [(.int r8)]) (mem1 := m9) rfl rfl rfl rfl ?_
      refine it_V.sN it_cd299 it_m299 6 (pc1 := 49) (ls1 := [some (.ref 66), some (.int x0), some (.int x1), some (.int x2), some (.int x3), some (.int r1), some (.int r8), none]) (st1 := [(.int (0 : Int32)), (.int (r1 + (8 : Int32))), (.ref 66)]) (mem1 := m9) rfl ?_
      refine it_V.call it_cd299 it_m299 rfl it_m221 [(.ref 66), (.int (r1 + (8 : Int32))), (.int (0 : Int32))] [] rfl rfl ⟨Nat.le_of_ble_eq_true rfl, Nat.le_of_ble_eq_true rfl, Nat.le_of_ble_eq_true rfl, Nat.le_of_ble_eq_true rfl, rfl⟩ (s_221 kc (r1 + (8 : Int32)) (0 : Int32) m9 _ h) ?_
      rintro _ m10 ⟨rfl, h⟩
      refine it_V.at (pc1 := 52) (ls1 := [some (.ref 66), some (.int x0), some (.int x1), some (.int x2), some (.int x3), some (.int r1), some (.int r8), none]) (st1 := []) (mem1 := m10) rfl rfl rfl rfl ?_
      refine it_V.sN it_cd299 it_m299 5 (pc1 := 59) (ls1 := [some (.ref 66), some (.int x0), some (.int x1), some (.int x2), some (.int x3), some (.int r1), some (.int r8), none]) (st1 := [(.int (0 : Int32)), (.int (r1 + (12 : Int32))), (.ref 66)]) (mem1 := m10) rfl ?_
      refine it_V.call it_cd299 it_m299 rfl it_m221 [(.ref 66), (.int (r1 + (12 : Int32))), (.int (0 : Int32))] [] rfl rfl ⟨Nat.le_of_ble_eq_true rfl, Nat.le_of_ble_eq_true rfl, Nat.le_of_ble_eq_true rfl, Nat.le_of_ble_eq_true rfl, rfl⟩ (s_221 kc (r1 + (12 : Int32)) (0 : Int32) m10 _ h) ?_
      rintro _ m11 ⟨rfl, h⟩
      refine it_V.at (pc1 := 62) (ls1 := [some (.ref 66), some (.int x0), some (.int x1), some (.int x2), some (.int x3), some (.int r1), some (.int r8), none]) (st1 := []) (mem1 := m11) rfl rfl rfl rfl ?_
      refine it_V.sN it_cd299 it_m299 7 (pc1 := 71) (ls1 := [some (.ref 66), some (.int x0), some (.int x1), some (.int x2), some (.int x3), some (.int r1), some (.int r8), none]) (st1 := [(.int (0 : Int32)), (.int r8), (.int (8 : Int32)), (.int (2 : Int32)), (.int (1 : Int32)), (.int x0), (.ref 66)]) (mem1 := m11) rfl ?_
      refine it_V.call it_cd299 it_m299 rfl it_m274 [(.ref 66), (.int x0), (.int (1 : Int32)), (.int (2 : Int32)), (.int (8 : Int32)), (.int r8), (.int (0 : Int32))] [] rfl rfl ⟨Nat.le_of_ble_eq_true rfl, Nat.le_of_ble_eq_true rfl, Nat.le_of_ble_eq_true rfl, Nat.le_of_ble_eq_true rfl, rfl⟩ (s_274 kc x0 (1 : Int32) (2 : Int32) (8 : Int32) r8 (0 : Int32) m11 _ h) ?_
      rintro _ m12 ⟨rfl, h⟩
      refine it_V.at (pc1 := 74) (ls1 := [some (.ref 66), some (.int x0), some (.int x1), some (.int x2), some (.int x3), some (.int r1), some (.int r8), none]) (st1 := []) (mem1 := m12) rfl rfl rfl rfl ?_
      refine it_V.sN it_cd299 it_m299 2 (pc1 := 76) (ls1 := [some (.ref 66), some (.int x0), some (.int x1), some (.int x2), some (.int x3), some (.int r1), some (.int r8), none]) (st1 := [(.int x0), (.ref 66)]) (mem1 := m12) rfl ?_
      refine it_V.call it_cd299 it_m299 rfl it_m280 [(.ref 66), (.int x0)] [] rfl rfl ⟨Nat.le_of_ble_eq_true rfl, Nat.le_of_ble_eq_true rfl, Nat.le_of_ble_eq_true rfl, Nat.le_of_ble_eq_true rfl, rfl⟩ (s_280 kc x0 m12 _ h) ?_
      rintro _ m13 ⟨rfl, h⟩
      refine it_V.at (pc1 := 79) (ls1 := [some (.ref 66), some (.int x0), some (.int x1), some (.int x2), some (.int x3), some (.int r1), some (.int r8), none]) (st1 := []) (mem1 := m13) rfl rfl rfl rfl ?_
      exact it_V.ret it_cd299 it_m299 rfl rfl ⟨rfl, h⟩
  · have h := h.2 c3
    refine it_V.sN it_cd299 it_m299 3 (pc1 := (if x2 = (1 : Int32) then 85 else 90)) (ls1 := [some (.ref 66), some (.int x0), some (.int x1), some (.int x2), some (.int x3), some (.int r1), none, none]) (st1 := []) (mem1 := m2) rfl ?_
    refine it_V.ite (fun c14 => ?_) (fun c14 => ?_)
    · have h := h.1 c14
      refine it_V.sN it_cd299 it_m299 2 (pc1 := 95) (ls1 := [some (.ref 66), some (.int x0), some (.int x1), some (.int x2), some (.int x3), some (.int r1), none, none]) (st1 := [(.int r1)]) (mem1 := m2) rfl ?_
      refine it_V.weak (l := [some (.ref 66), some (.int x0), some (.int x1), some (.int x2), some (.int x3), none, none, none]) ⟨rfl, ⟨rfl, ⟨rfl, ⟨rfl, ⟨rfl, trivial⟩⟩⟩⟩⟩ ?_
      exact s_299_95 kc Φ x0 x1 x2 x3 r1 m2 h
    · have h := h.2 c14
      refine it_V.sN it_cd299 it_m299 3 (pc1 := 95) (ls1 := [some (.ref 66), some (.int x0), some (.int x1), some (.int x2), some (.int x3), some (.int r1), none, none]) (st1 := [(.int (r1 + (8 : Int32)))]) (mem1 := m2) rfl ?_
      refine it_V.weak (l := [some (.ref 66), some (.int x0), some (.int x1), some (.int x2), some (.int x3), none, none, none]) ⟨rfl, ⟨rfl, ⟨rfl, ⟨rfl, ⟨rfl, trivial⟩⟩⟩⟩⟩ ?_
      exact s_299_95 kc Φ x0 x1 x2 x3 (r1 + (8 : Int32)) m2 h
set_option maxRecDepth 100000 in
set_option maxHeartbeats 4000000 in
theorem s_300_54 (kc : it_Kc) (Φ : it_Me → Prop) (m : it_Me) (h : w_300_54 kc Φ m) : it_V kc it_sh0 300 54 [none, none, none, none] [] m (it_Pv Φ) := by
  rw [w_300_54] at h
  exact it_V.ret it_cd300 it_m300 rfl rfl ⟨rfl, h⟩
set_option maxRecDepth 100000 in
set_option maxHeartbeats 4000000 in
theorem s_300_9 (kc : it_Kc) (Φ : it_Me → Prop) (v1 : Int32) (m : it_Me) (h : w_300_9 kc Φ v1 m) : it_V kc it_sh0 300 9 [some (.ref 66), some (.int v1), none, none] [] m (it_Pv Φ) := by
  rw [w_300_9] at h
  refine it_V.sN it_cd300 it_m300 3 (pc1 := 13) (ls1 := [some (.ref 66), some (.int v1), none, none]) (st1 := [(.int (6 : Int32)), (.int v1), (.ref 66)]) (mem1 := m) rfl ?_
  refine it_V.call it_cd300 it_m300 rfl it_m282 [(.ref 66), (.int v1), (.int (6 : Int32))] [] rfl rfl ⟨Nat.le_of_ble_eq_true rfl, Nat.le_of_ble_eq_true rfl, Nat.le_of_ble_eq_true rfl, Nat.le_of_ble_eq_true rfl, rfl⟩ (s_282 kc v1 (6 : Int32) m _ h) ?_
  rintro _ m1 ⟨rfl, h⟩
  refine it_V.at (pc1 := 16) (ls1 := [some (.ref 66), some (.int v1), none, none]) (st1 := []) (mem1 := m1) rfl rfl rfl rfl ?_
  refine it_V.sN it_cd300 it_m300 1 (pc1 := 54) (ls1 := [some (.ref 66), some (.int v1), none, none]) (st1 := []) (mem1 := m1) rfl ?_
  refine it_V.weak (l := [none, none, none, none]) trivial ?_
  exact s_300_54 kc Φ m1 h
set_option maxRecDepth 100000 in
set_option maxHeartbeats 4000000 in
theorem s_300_48 (kc : it_Kc) (Φ : it_Me → Prop) (v1 : Int32) (u1 : Int32) (u2 : Int32) (m : it_Me) (h : w_300_48 kc Φ v1 u1 u2 m) : it_V kc it_sh0 300 48 [some (.ref 66), some (.int v1), none, none] [(.int u2), (.int u1), (.ref 71)] m (it_Pv Φ) := by
  rw [w_300_48] at h
  obtain ⟨g1, h⟩ := h
  refine it_V.zast (n := 4) it_cd300 it_m300 rfl rfl g1 ?_
  refine it_V.at (pc1 := 49) (ls1 := [some (.ref 66), some (.int v1), none, none]) (st1 := []) (mem1 := (it_sv m 71 (Int32.toNatClampNeg u1) (u2 &&& 1))) rfl rfl rfl rfl ?_
  refine it_V.sN it_cd300 it_m300 2 (pc1 := 51) (ls1 := [some (.ref 66), some (.int v1), none, none]) (st1 := [(.int v1), (.ref 66)]) (mem1 := (it_sv m 71 (Int32.toNatClampNeg u1) (u2 &&& 1))) rfl ?_
  refine it_V.call it_cd300 it_m300 rfl it_m280 [(.ref 66), (.int v1)] [] rfl rfl ⟨Nat.le_of_ble_eq_true rfl, Nat.le_of_ble_eq_true rfl, Nat.le_of_ble_eq_true rfl, Nat.le_of_ble_eq_true rfl, rfl⟩ (s_280 kc v1 (it_sv m 71 (Int32.toNatClampNeg u1) (u2 &&& 1)) _ h) ?_
  rintro _ m2 ⟨rfl, h⟩
  refine it_V.at (pc1 := 54) (ls1 := [some (.ref 66), some (.int v1), none, none]) (st1 := []) (mem1 := m2) rfl rfl rfl rfl ?_
  refine it_V.weak (l := [none, none, none, none]) trivial ?_
  exact s_300_54 kc Φ m2 h
set_option maxRecDepth 100000 in
set_option maxHeartbeats 4000000 in
theorem s_300_43 (kc : it_Kc) (Φ : it_Me → Prop) (v1 : Int32) (u1 : Int32) (m : it_Me) (h : w_300_43 kc Φ v1 u1 m) : it_V kc it_sh0 300 43 [some (.ref 66), some (.int v1), none, none] [(.int u1), (.ref 71)] m (it_Pv Φ) := by
  rw [w_300_43] at h
  refine it_V.sN it_cd300 it_m300 2 (pc1 := 48) (ls1 := [some (.ref 66), some (.int v1), none, none]) (st1 := [(.int (1 : Int32)), (.int u1), (.ref 71)]) (mem1 := m) rfl ?_
  refine it_V.weak (l := [some (.ref 66), some (.int v1), none, none]) ⟨rfl, ⟨rfl, trivial⟩⟩ ?_
  exact s_300_48 kc Φ v1 u1 (1 : Int32) m h
set_option maxRecDepth 100000 in
set_option maxHeartbeats 4000000 in
theorem s_300_47 (kc : it_Kc) (Φ : it_Me → Prop) (v1 : Int32) (u1 : Int32) (m : it_Me) (h : w_300_47 kc Φ v1 u1 m) : it_V kc it_sh0 300 47 [some (.ref 66), some (.int v1), none, none] [(.int u1), (.ref 71)] m (it_Pv Φ) := by
  rw [w_300_47] at h
  refine it_V.sN it_cd300 it_m300 1 (pc1 := 48) (ls1 := [some (.ref 66), some (.int v1), none, none]) (st1 := [(.int (0 : Int32)), (.int u1), (.ref 71)]) (mem1 := m) rfl ?_
  refine it_V.weak (l := [some (.ref 66), some (.int v1), none, none]) ⟨rfl, ⟨rfl, trivial⟩⟩ ?_
  exact s_300_48 kc Φ v1 u1 (0 : Int32) m h
set_option maxRecDepth 100000 in
set_option maxHeartbeats 4000000 in
theorem s_300 (kc : it_Kc) (x0 : Int32) (x1 : Int32) (x2 : Int32) (m : it_Me) (Φ : it_Me → Prop) (h : w_300 kc x0 x1 x2 m Φ) : it_V kc it_sh0 300 0 (it_loc0 [(.ref 66), (.int x0), (.int x1), (.int x2)] 4) [] m (it_Pv Φ) := by
  rw [w_300] at h
  refine it_V.at (pc1 := 0) (ls1 := [some (.ref 66), some (.int x0), some (.int x1), some (.int x2)]) (st1 := []) (mem1 := m) rfl rfl rfl rfl ?_
  refine it_V.sN it_cd300 it_m300 2 (pc1 := (if x2 < 0 then 9 else 4)) (ls1 := [some (.ref 66), some (.int x0), some (.int x1), some (.int x2)]) (st1 := []) (mem1 := m) rfl ?_
  refine it_V.ite (fun c1 => ?_) (fun c1 => ?_)
  · have h := h.1 c1
    refine it_V.weak (l := [some (.ref 66), some (.int x0), none, none]) ⟨rfl, ⟨rfl, trivial⟩⟩ ?_
    exact s_300_9 kc Φ x0 m h
  · have h := h.2 c1
    refine it_V.sN it_cd300 it_m300 3 (pc1 := (if x2 ≤ (3 : Int32) then 19 else 9)) (ls1 := [some (.ref 66), some (.int x0), some (.int x1), some (.int x2)]) (st1 := []) (mem1 := m) rfl ?_
    refine it_V.ite (fun c2 => ?_) (fun c2 => ?_)
    · have h := h.1 c2
      refine it_V.sN it_cd300 it_m300 6 (pc1 := (if x1 = (1 : Int32) then 43 else 29)) (ls1 := [some (.ref 66), some (.int x0), some (.int x1), some (.int x2)]) (st1 := [(.int x2), (.ref 71)]) (mem1 := m) rfl ?_
      refine it_V.ite (fun c3 => ?_) (fun c3 => ?_)
      · have h := h.1 c3
        refine it_V.weak (l := [some (.ref 66), some (.int x0), none, none]) ⟨rfl, ⟨rfl, trivial⟩⟩ ?_
        exact s_300_43 kc Φ x0 x2 m h
      · have h := h.2 c3
        refine it_V.sN it_cd300 it_m300 3 (pc1 := (if x1 = (3 : Int32) then 34 else 47)) (ls1 := [some (.ref 66), some (.int x0), some (.int x1), some (.int x2)]) (st1 := [(.int x2), (.ref 71)]) (mem1 := m) rfl ?_
        refine it_V.ite (fun c4 => ?_) (fun c4 => ?_)
        · have h := h.1 c4
          refine it_V.sN it_cd300 it_m300 3 (pc1 := 39) (ls1 := [some (.ref 66), some (.int x0), some (.int x1), some (.int x2)]) (st1 := [(.int x2), (.ref 71), (.int x2), (.ref 71)]) (mem1 := m) rfl ?_
          obtain ⟨g5, h⟩ := h
          refine it_V.bald (t := 2) (n := 4) it_cd300 it_m300 rfl rfl (by decide) g5 ?_
          refine it_V.at (pc1 := 40) (ls1 := [some (.ref 66), some (.int x0), some (.int x1), some (.int x2)]) (st1 := [(.int (m 71 (Int32.toNatClampNeg x2))), (.int x2), (.ref 71)]) (mem1 := m) rfl rfl rfl rfl ?_
          refine it_V.sN it_cd300 it_m300 1 (pc1 := (if (m 71 (Int32.toNatClampNeg x2)) = 0 then 43 else 47)) (ls1 := [some (.ref 66), some (.int x0), some (.int x1), some (.int x2)]) (st1 := [(.int x2), (.ref 71)]) (mem1 := m) rfl ?_
          refine it_V.ite (fun c6 => ?_) (fun c6 => ?_)
          · have h := h.1 c6
            refine it_V.weak (l := [some (.ref 66), some (.int x0), none, none]) ⟨rfl, ⟨rfl, trivial⟩⟩ ?_
            exact s_300_43 kc Φ x0 x2 m h
          · have h := h.2 c6
            refine it_V.weak (l := [some (.ref 66), some (.int x0), none, none]) ⟨rfl, ⟨rfl, trivial⟩⟩ ?_
            exact s_300_47 kc Φ x0 x2 m h
        · have h := h.2 c4
          refine it_V.weak (l := [some (.ref 66), some (.int x0), none, none]) ⟨rfl, ⟨rfl, trivial⟩⟩ ?_
          exact s_300_47 kc Φ x0 x2 m h
    · have h := h.2 c2
      refine it_V.weak (l := [some (.ref 66), some (.int x0), none, none]) ⟨rfl, ⟨rfl, trivial⟩⟩ ?_
      exact s_300_9 kc Φ x0 m h
set_option maxRecDepth 100000 in
set_option maxHeartbeats 4000000 in
theorem s_301_89 (kc : it_Kc) (Φ : it_Me → Prop) (m : it_Me) (h : w_301_89 kc Φ m) : it_V kc it_sh0 301 89 [none, none, none, none, none] [] m (it_Pv Φ) := by
  rw [w_301_89] at h
  exact it_V.ret it_cd301 it_m301 rfl rfl ⟨rfl, h⟩
set_option maxRecDepth 100000 in
set_option maxHeartbeats 4000000 in
theorem s_301_11 (kc : it_Kc) (Φ : it_Me → Prop) (v1 : Int32) (m : it_Me) (h : w_301_11 kc Φ v1 m) : it_V kc it_sh0 301 11 [some (.ref 66), some (.int v1), none, none, none] [] m (it_Pv Φ) := by
  rw [w_301_11] at h
  refine it_V.sN it_cd301 it_m301 3 (pc1 := 15) (ls1 := [some (.ref 66), some (.int v1), none, none, none]) (st1 := [(.int (6 : Int32)), (.int v1), (.ref 66)]) (mem1 := m) rfl ?_
  refine it_V.call it_cd301 it_m301 rfl it_m282 [(.ref 66), (.int v1), (.int (6 : Int32))] [] rfl rfl ⟨Nat.le_of_ble_eq_true rfl, Nat.le_of_ble_eq_true rfl, Nat.le_of_ble_eq_true rfl, Nat.le_of_ble_eq_true rfl, rfl⟩ (s_282 kc v1 (6 : Int32) m _ h) ?_
  rintro _ m1 ⟨rfl, h⟩
  refine it_V.at (pc1 := 18) (ls1 := [some (.ref 66), some (.int v1), none, none, none]) (st1 := []) (mem1 := m1) rfl rfl rfl rfl ?_
  refine it_V.sN it_cd301 it_m301 1 (pc1 := 89) (ls1 := [some (.ref 66), some (.int v1), none, none, none]) (st1 := []) (mem1 := m1) rfl ?_
  refine it_V.weak (l := [none, none, none, none, none]) trivial ?_
  exact s_301_89 kc Φ m1 h
set_option maxRecDepth 100000 in
set_option maxHeartbeats 4000000 in
theorem s_301_43 (kc : it_Kc) (Φ : it_Me → Prop) (u1 : Int32) (u2 : Int32) (m : it_Me) (h : w_301_43 kc Φ u1 u2 m) : it_V kc it_sh0 301 43 [none, none, none, none, none] [(.int u2), (.int u1), (.ref 66)] m (it_Pv Φ) := by
  rw [w_301_43] at h
  refine it_V.call it_cd301 it_m301 rfl it_m281 [(.ref 66), (.int u1), (.int u2)] [] rfl rfl ⟨Nat.le_of_ble_eq_true rfl, Nat.le_of_ble_eq_true rfl, Nat.le_of_ble_eq_true rfl, Nat.le_of_ble_eq_true rfl, rfl⟩ (s_281 kc u1 u2 m _ h) ?_
  rintro _ m1 ⟨rfl, h⟩
  refine it_V.at (pc1 := 46) (ls1 := [none, none, none, none, none]) (st1 := []) (mem1 := m1) rfl rfl rfl rfl ?_
  refine it_V.sN it_cd301 it_m301 1 (pc1 := 89) (ls1 := [none, none, none, none, none]) (st1 := []) (mem1 := m1) rfl ?_
  refine it_V.weak (l := [none, none, none, none, none]) trivial ?_
  exact s_301_89 kc Φ m1 h
set_option maxRecDepth 100000 in
set_option maxHeartbeats 4000000 in
theorem s_301_81 (kc : it_Kc) (Φ : it_Me → Prop) (v1 : Int32) (u1 : Int32) (u2 : Int32) (m : it_Me) (h : w_301_81 kc Φ v1 u1 u2 m) : it_V kc it_sh0 301 81 [some (.ref 66), some (.int v1), none, none, none] [(.int u2), (.int u1), (.ref 66)] m (it_Pv Φ) := by
  rw [w_301_81] at h
  refine it_V.call it_cd301 it_m301 rfl it_m221 [(.ref 66), (.int u1), (.int u2)] [] rfl rfl ⟨Nat.le_of_ble_eq_true rfl, Nat.le_of_ble_eq_true rfl, Nat.le_of_ble_eq_true rfl, Nat.le_of_ble_eq_true rfl, rfl⟩ (s_221 kc u1 u2 m _ h) ?_
  rintro _ m1 ⟨rfl, h⟩
  refine it_V.at (pc1 := 84) (ls1 := [some (.ref 66), some (.int v1), none, none, none]) (st1 := []) (mem1 := m1) rfl rfl rfl rfl ?_
  refine it_V.sN it_cd301 it_m301 2 (pc1 := 86) (ls1 := [some (.ref 66), some (.int v1), none, none, none]) (st1 := [(.int v1), (.ref 66)]) (mem1 := m1) rfl ?_
  refine it_V.call it_cd301 it_m301 rfl it_m280 [(.ref 66), (.int v1)] [] rfl rfl ⟨Nat.le_of_ble_eq_true rfl, Nat.le_of_ble_eq_true rfl, Nat.le_of_ble_eq_true rfl, Nat.le_of_ble_eq_true rfl, rfl⟩ (s_280 kc v1 m1 _ h) ?_
  rintro _ m2 ⟨rfl, h⟩
  refine it_V.at (pc1 := 89) (ls1 := [some (.ref 66), some (.int v1), none, none, none]) (st1 := []) (mem1 := m2) rfl rfl rfl rfl ?_
  refine it_V.weak (l := [none, none, none, none, none]) trivial ?_
  exact s_301_89 kc Φ m2 h
set_option maxRecDepth 100000 in
set_option maxHeartbeats 4000000 in
theorem s_301 (kc : it_Kc) (x0 : Int32) (x1 : Int32) (x2 : Int32) (x3 : Int32) (m : it_Me) (Φ : it_Me → Prop) (h : w_301 kc x0 x1 x2 x3 m Φ) : it_V kc it_sh0 301 0 (it_loc0 [(.ref 66), (.int x0), (.int x1), (.int x2), (.int x3)] 5) [] m (it_Pv Φ) := by
  rw [w_301] at h
  refine it_V.at (pc1 := 0) (ls1 := [some (.ref 66), some (.int x0), some (.int x1), some (.int x2), some (.int x3)]) (st1 := []) (mem1 := m) rfl rfl rfl rfl ?_
  refine it_V.sN it_cd301 it_m301 2 (pc1 := (if x3 < 0 then 11 else 5)) (ls1 := [some (.ref 66), some (.int x0), some (.int x1), some (.int x2), some (.int x3)]) (st1 := []) (mem1 := m) rfl ?_
  refine it_V.ite (fun c1 => ?_) (fun c1 => ?_)
  · have h := h.1 c1
    refine it_V.weak (l := [some (.ref 66), some (.int x0), none, none, none]) ⟨rfl, ⟨rfl, trivial⟩⟩ ?_
    exact s_301_11 kc Φ x0 m h
  · have h := h.2 c1
    refine it_V.sN it_cd301 it_m301 3 (pc1 := (if x3 ≤ (3 : Int32) then 21 else 11)) (ls1 := [some (.ref 66), some (.int x0), some (.int x1), some (.int x2), some (.int x3)]) (st1 := []) (mem1 := m) rfl ?_
    refine it_V.ite (fun c2 => ?_) (fun c2 => ?_)
    · have h := h.1 c2
      refine it_V.sN it_cd301 it_m301 3 (pc1 := (if x2 = (3 : Int32) then 26 else 49)) (ls1 := [some (.ref 66), some (.int x0), some (.int x1), some (.int x2), some (.int x3)]) (st1 := []) (mem1 := m) rfl ?_
      refine it_V.ite (fun c3 => ?_) (fun c3 => ?_)
      · have h := h.1 c3
        refine it_V.sN it_cd301 it_m301 5 (pc1 := 34) (ls1 := [some (.ref 66), some (.int x0), some (.int x1), some (.int x2), some (.int x3)]) (st1 := [(.int x3), (.ref 72), (.int x0), (.ref 66)]) (mem1 := m) rfl ?_
        obtain ⟨g4, h⟩ := h
        refine it_V.bald (t := 2) (n := 4) it_cd301 it_m301 rfl rfl (by decide) g4 ?_
        refine it_V.at (pc1 := 35) (ls1 := [some (.ref 66), some (.int x0), some (.int x1), some (.int x2), some (.int x3)]) (st1 := [(.int (m 72 (Int32.toNatClampNeg x3))), (.int x0), (.ref 66)]) (mem1 := m) rfl rfl rfl rfl ?_
        refine it_V.sN it_cd301 it_m301 1 (pc1 := (if (m 72 (Int32.toNatClampNeg x3)) = 0 then 42 else 38)) (ls1 := [some (.ref 66), some (.int x0), some (.int x1), some (.int x2), some (.int x3)]) (st1 := [(.int x0), (.ref 66)]) (mem1 := m) rfl ?_
        refine it_V.ite (fun c5 => ?_) (fun c5 => ?_)
        · have h := h.1 c5
          refine it_V.sN it_cd301 it_m301 1 (pc1 := 43) (ls1 := [some (.ref 66), some (.int x0), some (.int x1), some (.int x2), some (.int x3)]) (st1 := [(.int (0 : Int32)), (.int x0), (.ref 66)]) (mem1 := m) rfl ?_
          refine it_V.weak (l := [none, none, none, none, none]) trivial ?_
          exact s_301_43 kc Φ x0 (0 : Int32) m h
        · have h := h.2 c5
          refine it_V.sN it_cd301 it_m301 2 (pc1 := 43) (ls1 := [some (.ref 66), some (.int x0), some (.int x1), some (.int x2), some (.int x3)]) (st1 := [(.int (1 : Int32)), (.int x0), (.ref 66)]) (mem1 := m) rfl ?_
          refine it_V.weak (l := [none, none, none, none, none]) trivial ?_
          exact s_301_43 kc Φ x0 (1 : Int32) m h
      · have h := h.2 c3
        refine it_V.sN it_cd301 it_m301 5 (pc1 := (if x2 = (1 : Int32) then 56 else 69)) (ls1 := [some (.ref 66), some (.int x0), some (.int x1), some (.int x2), some (.int x3)]) (st1 := [(.int x1), (.ref 66)]) (mem1 := m) rfl ?_
        refine it_V.ite (fun c6 => ?_) (fun c6 => ?_)
        · have h := h.1 c6
          refine it_V.sN it_cd301 it_m301 2 (pc1 := 58) (ls1 := [some (.ref 66), some (.int x0), some (.int x1), some (.int x2), some (.int x3)]) (st1 := [(.int x1), (.ref 66), (.int x1), (.ref 66)]) (mem1 := m) rfl ?_
          refine it_V.call it_cd301 it_m301 rfl it_m220 [(.ref 66), (.int x1)] [(.int x1), (.ref 66)] rfl rfl ⟨Nat.le_of_ble_eq_true rfl, Nat.le_of_ble_eq_true rfl, Nat.le_of_ble_eq_true rfl, Nat.le_of_ble_eq_true rfl, rfl⟩ (s_220 kc x1 m _ h) ?_
          rintro _ m8 ⟨r7, rfl, h⟩
          refine it_V.at (pc1 := 61) (ls1 := [some (.ref 66), some (.int x0), some (.int x1), some (.int x2), some (.int x3)]) (st1 := [(.int r7), (.int x1), (.ref 66)]) (mem1 := m8) rfl rfl rfl rfl ?_
          refine it_V.sN it_cd301 it_m301 5 (pc1 := 81) (ls1 := [some (.ref 66), some (.int x0), some (.int x1), some (.int x2), some (.int x3)]) (st1 := [(.int (r7 ||| (it_shl (1 : Int32) x3))), (.int x1), (.ref 66)]) (mem1 := m8) rfl ?_
          refine it_V.weak (l := [some (.ref 66), some (.int x0), none, none, none]) ⟨rfl, ⟨rfl, trivial⟩⟩ ?_
          exact s_301_81 kc Φ x0 x1 (r7 ||| (it_shl (1 : Int32) x3)) m8 h
        · have h := h.2 c6
          refine it_V.sN it_cd301 it_m301 2 (pc1 := 71) (ls1 := [some (.ref 66), some (.int x0), some (.int x1), some (.int x2), some (.int x3)]) (st1 := [(.int x1), (.ref 66), (.int x1), (.ref 66)]) (mem1 := m) rfl ?_
          refine it_V.call it_cd301 it_m301 rfl it_m220 [(.ref 66), (.int x1)] [(.int x1), (.ref 66)] rfl rfl ⟨Nat.le_of_ble_eq_true rfl, Nat.le_of_ble_eq_true rfl, Nat.le_of_ble_eq_true rfl, Nat.le_of_ble_eq_true rfl, rfl⟩ (s_220 kc x1 m _ h) ?_
          rintro _ m10 ⟨r9, rfl, h⟩
          refine it_V.at (pc1 := 74) (ls1 := [some (.ref 66), some (.int x0), some (.int x1), some (.int x2), some (.int x3)]) (st1 := [(.int r9), (.int x1), (.ref 66)]) (mem1 := m10) rfl rfl rfl rfl ?_
          refine it_V.sN it_cd301 it_m301 6 (pc1 := 81) (ls1 := [some (.ref 66), some (.int x0), some (.int x1), some (.int x2), some (.int x3)]) (st1 := [(.int (r9 &&& ((it_shl (1 : Int32) x3) ^^^ (-1 : Int32)))), (.int x1), (.ref 66)]) (mem1 := m10) rfl ?_
          refine it_V.weak (l := [some (.ref 66), some (.int x0), none, none, none]) ⟨rfl, ⟨rfl, trivial⟩⟩ ?_
          exact s_301_81 kc Φ x0 x1 (r9 &&& ((it_shl (1 : Int32) x3) ^^^ (-1 : Int32))) m10 h
    · have h := h.2 c2
      refine it_V.weak (l := [some (.ref 66), some (.int x0), none, none, none]) ⟨rfl, ⟨rfl, trivial⟩⟩ ?_
      exact s_301_11 kc Φ x0 m h
set_option maxRecDepth 100000 in
set_option maxHeartbeats 4000000 in
theorem s_302_33 (kc : it_Kc) (Φ : it_Me → Prop) (K80 : Int32 → Int32 → it_Me → Prop) (hK80 : ∀ (v1 : Int32) (v5 : Int32) (m : it_Me), K80 v1 v5 m → it_V kc it_sh0 302 80 [some (.ref 66), some (.int v1), none, none, none, some (.int v5), none] [] m (it_Pv Φ)) : ∀ (n : Nat) (v1 : Int32) (v4 : Int32) (v5 : Int32) (v6 : Int32) (m : it_Me) (h : w_302_33 kc Φ K80 n v1 v4 v5 v6 m), it_V kc it_sh0 302 33 [some (.ref 66), some (.int v1), none, none, some (.int v4), some (.int v5), some (.int v6)] [] m (it_Pv Φ) := by
  intro n
  induction n with
  | zero => intro v1 v4 v5 v6 m h; exact absurd h id
  | succ n ih =>
    intro v1 v4 v5 v6 m h
    rw [w_302_33] at h
    refine it_V.sN it_cd302 it_m302 3 (pc1 := (if v5 ≤ v6 then 80 else 40)) (ls1 := [some (.ref 66), some (.int v1), none, none, some (.int v4), some (.int v5), some (.int v6)]) (st1 := []) (mem1 := m) rfl ?_
    refine it_V.ite (fun c1 => ?_) (fun c1 => ?_)
    · have h := h.1 c1
      refine it_V.weak (l := [some (.ref 66), some (.int v1), none, none, none, some (.int v5), none]) ⟨rfl, ⟨rfl, ⟨rfl, trivial⟩⟩⟩ ?_
      exact hK80 v1 v5 m h
    · have h := h.2 c1
      refine it_V.sN it_cd302 it_m302 18 (pc1 := 73) (ls1 := [some (.ref 66), some (.int v1), none, none, some (.int v4), some (.int v5), some (.int v6)]) (st1 := [(.int (it_i2b (it_us ((it_sv m 66 10 (((m 66 10) * (1664525 : Int32)) + (1013904223 : Int32))) 66 10) (24 : Int32)))), (.int (v4 + v6)), (.ref 67)]) (mem1 := (it_sv m 66 10 (((m 66 10) * (1664525 : Int32)) + (1013904223 : Int32)))) rfl ?_
      obtain ⟨g2, h⟩ := h
      refine it_V.bast (n := 196608) it_cd302 it_m302 rfl rfl g2 ?_
      refine it_V.at (pc1 := 74) (ls1 := [some (.ref 66), some (.int v1), none, none, some (.int v4), some (.int v5), some (.int v6)]) (st1 := []) (mem1 := (it_sv (it_sv m 66 10 (((m 66 10) * (1664525 : Int32)) + (1013904223 : Int32))) 67 (Int32.toNatClampNeg (v4 + v6)) (it_i2b (it_i2b (it_us ((it_sv m 66 10 (((m 66 10) * (1664525 : Int32)) + (1013904223 : Int32))) 66 10) (24 : Int32)))))) rfl rfl rfl rfl ?_
      refine it_V.sN it_cd302 it_m302 2 (pc1 := 33) (ls1 := [some (.ref 66), some (.int v1), none, none, some (.int v4), some (.int v5), some (.int (v6 + (1 : Int32)))]) (st1 := []) (mem1 := (it_sv (it_sv m 66 10 (((m 66 10) * (1664525 : Int32)) + (1013904223 : Int32))) 67 (Int32.toNatClampNeg (v4 + v6)) (it_i2b (it_i2b (it_us ((it_sv m 66 10 (((m 66 10) * (1664525 : Int32)) + (1013904223 : Int32))) 66 10) (24 : Int32)))))) rfl ?_
      refine it_V.weak (l := [some (.ref 66), some (.int v1), none, none, some (.int v4), some (.int v5), some (.int (v6 + (1 : Int32)))]) ⟨rfl, ⟨rfl, ⟨rfl, ⟨rfl, ⟨rfl, trivial⟩⟩⟩⟩⟩ ?_
      exact ih v1 v4 v5 (v6 + (1 : Int32)) (it_sv (it_sv m 66 10 (((m 66 10) * (1664525 : Int32)) + (1013904223 : Int32))) 67 (Int32.toNatClampNeg (v4 + v6)) (it_i2b (it_i2b (it_us ((it_sv m 66 10 (((m 66 10) * (1664525 : Int32)) + (1013904223 : Int32))) 66 10) (24 : Int32))))) h
set_option maxRecDepth 100000 in
set_option maxHeartbeats 4000000 in
theorem s_302_80 (kc : it_Kc) (Φ : it_Me → Prop) (v1 : Int32) (v5 : Int32) (m : it_Me) (h : w_302_80 kc Φ v1 v5 m) : it_V kc it_sh0 302 80 [some (.ref 66), some (.int v1), none, none, none, some (.int v5), none] [] m (it_Pv Φ) := by
  rw [w_302_80] at h
  refine it_V.sN it_cd302 it_m302 2 (pc1 := 82) (ls1 := [some (.ref 66), some (.int v1), none, none, none, some (.int v5), none]) (st1 := [(.int v1), (.ref 66)]) (mem1 := m) rfl ?_
  refine it_V.call it_cd302 it_m302 rfl it_m280 [(.ref 66), (.int v1)] [] rfl rfl ⟨Nat.le_of_ble_eq_true rfl, Nat.le_of_ble_eq_true rfl, Nat.le_of_ble_eq_true rfl, Nat.le_of_ble_eq_true rfl, rfl⟩ (s_280 kc v1 m _ h) ?_
  rintro _ m1 ⟨rfl, h⟩
  refine it_V.at (pc1 := 85) (ls1 := [some (.ref 66), some (.int v1), none, none, none, some (.int v5), none]) (st1 := []) (mem1 := m1) rfl rfl rfl rfl ?_
  refine it_V.sN it_cd302 it_m302 7 (pc1 := 93) (ls1 := [some (.ref 66), some (.int v1), none, none, none, some (.int v5), none]) (st1 := [(.int (0 : Int32)), (.int v5), (.int (0 : Int32)), (.int (0 : Int32)), (.int (4 : Int32)), (.int v1), (.ref 66)]) (mem1 := m1) rfl ?_
  refine it_V.call it_cd302 it_m302 rfl it_m274 [(.ref 66), (.int v1), (.int (4 : Int32)), (.int (0 : Int32)), (.int (0 : Int32)), (.int v5), (.int (0 : Int32))] [] rfl rfl ⟨Nat.le_of_ble_eq_true rfl, Nat.le_of_ble_eq_true rfl, Nat.le_of_ble_eq_true rfl, Nat.le_of_ble_eq_true rfl, rfl⟩ (s_274 kc v1 (4 : Int32) (0 : Int32) (0 : Int32) v5 (0 : Int32) m1 _ h) ?_
  rintro _ m2 ⟨rfl, h⟩
  refine it_V.at (pc1 := 96) (ls1 := [some (.ref 66), some (.int v1), none, none, none, some (.int v5), none]) (st1 := []) (mem1 := m2) rfl rfl rfl rfl ?_
  exact it_V.ret it_cd302 it_m302 rfl rfl ⟨rfl, h⟩
set_option maxRecDepth 100000 in
set_option maxHeartbeats 4000000 in
theorem s_302 (kc : it_Kc) (x0 : Int32) (x1 : Int32) (x2 : Int32) (m : it_Me) (Φ : it_Me → Prop) (h : w_302 kc x0 x1 x2 m Φ) : it_V kc it_sh0 302 0 (it_loc0 [(.ref 66), (.int x0), (.int x1), (.int x2)] 7) [] m (it_Pv Φ) := by
  rw [w_302] at h
  refine it_V.at (pc1 := 0) (ls1 := [some (.ref 66), some (.int x0), some (.int x1), some (.int x2), none, none, none]) (st1 := []) (mem1 := m) rfl rfl rfl rfl ?_
  refine it_V.sN it_cd302 it_m302 4 (pc1 := 4) (ls1 := [some (.ref 66), some (.int x0), some (.int x1), some (.int x2), none, none, none]) (st1 := [(.int (0 : Int32)), (.int (4 : Int32)), (.int x1), (.ref 66)]) (mem1 := m) rfl ?_
  refine it_V.call it_cd302 it_m302 rfl it_m271 [(.int x1), (.int (4 : Int32)), (.int (0 : Int32))] [(.ref 66)] rfl rfl ⟨Nat.le_of_ble_eq_true rfl, Nat.le_of_ble_eq_true rfl, Nat.le_of_ble_eq_true rfl, Nat.le_of_ble_eq_true rfl, rfl⟩ (s_271 kc x1 (4 : Int32) (0 : Int32) m _ h) ?_
  rintro _ m2 ⟨r1, rfl, h⟩
  refine it_V.at (pc1 := 7) (ls1 := [some (.ref 66), some (.int x0), some (.int x1), some (.int x2), none, none, none]) (st1 := [(.int r1), (.ref 66)]) (mem1 := m2) rfl rfl rfl rfl ?_
  refine it_V.call it_cd302 it_m302 rfl it_m220 [(.ref 66), (.int r1)] [] rfl rfl ⟨Nat.le_of_ble_eq_true rfl, Nat.le_of_ble_eq_true rfl, Nat.le_of_ble_eq_true rfl, Nat.le_of_ble_eq_true rfl, rfl⟩ (s_220 kc r1 m2 _ h) ?_
  rintro _ m4 ⟨r3, rfl, h⟩
  refine it_V.at (pc1 := 10) (ls1 := [some (.ref 66), some (.int x0), some (.int x1), some (.int x2), none, none, none]) (st1 := [(.int r3)]) (mem1 := m4) rfl rfl rfl rfl ?_
  refine it_V.sN it_cd302 it_m302 6 (pc1 := 17) (ls1 := [some (.ref 66), some (.int x0), some (.int x1), some (.int x2), some (.int r3), none, none]) (st1 := [(.int (0 : Int32)), (.int (4 : Int32)), (.int x1), (.ref 66), (.int x2)]) (mem1 := m4) rfl ?_
  refine it_V.call it_cd302 it_m302 rfl it_m271 [(.int x1), (.int (4 : Int32)), (.int (0 : Int32))] [(.ref 66), (.int x2)] rfl rfl ⟨Nat.le_of_ble_eq_true rfl, Nat.le_of_ble_eq_true rfl, Nat.le_of_ble_eq_true rfl, Nat.le_of_ble_eq_true rfl, rfl⟩ (s_271 kc x1 (4 : Int32) (0 : Int32) m4 _ h) ?_
  rintro _ m6 ⟨r5, rfl, h⟩
  refine it_V.at (pc1 := 20) (ls1 := [some (.ref 66), some (.int x0), some (.int x1), some (.int x2), some (.int r3), none, none]) (st1 := [(.int r5), (.ref 66), (.int x2)]) (mem1 := m6) rfl rfl rfl rfl ?_
  refine it_V.sN it_cd302 it_m302 2 (pc1 := 22) (ls1 := [some (.ref 66), some (.int x0), some (.int x1), some (.int x2), some (.int r3), none, none]) (st1 := [(.int (r5 + (4 : Int32))), (.ref 66), (.int x2)]) (mem1 := m6) rfl ?_
  refine it_V.call it_cd302 it_m302 rfl it_m220 [(.ref 66), (.int (r5 + (4 : Int32)))] [(.int x2)] rfl rfl ⟨Nat.le_of_ble_eq_true rfl, Nat.le_of_ble_eq_true rfl, Nat.le_of_ble_eq_true rfl, Nat.le_of_ble_eq_true rfl, rfl⟩ (s_220 kc (r5 + (4 : Int32)) m6 _ h) ?_
  rintro _ m8 ⟨r7, rfl, h⟩
  refine it_V.at (pc1 := 25) (ls1 := [some (.ref 66), some (.int x0), some (.int x1), some (.int x2), some (.int r3), none, none]) (st1 := [(.int r7), (.int x2)]) (mem1 := m8) rfl rfl rfl rfl ?_
  refine it_V.call it_cd302 it_m302 rfl it_m297 [(.int x2), (.int r7)] [] rfl rfl ⟨Nat.le_of_ble_eq_true rfl, Nat.le_of_ble_eq_true rfl, Nat.le_of_ble_eq_true rfl, Nat.le_of_ble_eq_true rfl, rfl⟩ (s_297 kc x2 r7 m8 _ h) ?_
  rintro _ m10 ⟨r9, rfl, h⟩
  refine it_V.at (pc1 := 28) (ls1 := [some (.ref 66), some (.int x0), some (.int x1), some (.int x2), some (.int r3), none, none]) (st1 := [(.int r9)]) (mem1 := m10) rfl rfl rfl rfl ?_
  refine it_V.sN it_cd302 it_m302 3 (pc1 := 33) (ls1 := [some (.ref 66), some (.int x0), some (.int x1), some (.int x2), some (.int r3), some (.int r9), some (.int (0 : Int32))]) (st1 := []) (mem1 := m10) rfl ?_
  refine it_V.weak (l := [some (.ref 66), some (.int x0), none, none, some (.int r3), some (.int r9), some (.int (0 : Int32))]) ⟨rfl, ⟨rfl, ⟨rfl, ⟨rfl, ⟨rfl, trivial⟩⟩⟩⟩⟩ ?_
  obtain ⟨n, h⟩ := h
  exact s_302_33 kc Φ _ (fun v1 v5 m h => s_302_80 kc Φ v1 v5 m h) n x0 r3 r9 (0 : Int32) m10 h
set_option maxRecDepth 100000 in
set_option maxHeartbeats 4000000 in
theorem s_303_82 (kc : it_Kc) (Φ : it_Me → Prop) (K118 : Int32 → Int32 → Int32 → Int32 → it_Me → Prop) (hK118 : ∀ (v1 : Int32) (v4 : Int32) (v7 : Int32) (v8 : Int32) (m : it_Me), K118 v1 v4 v7 v8 m → it_V kc it_sh0 303 118 [some (.ref 66), some (.int v1), none, none, some (.int v4), none, none, some (.int v7), some (.int v8), none, none, none] [] m (it_Pv Φ)) : ∀ (n : Nat) (v1 : Int32) (v4 : Int32) (v7 : Int32) (v8 : Int32) (v9 : Int32) (v10 : Int32) (v11 : Int32) (m : it_Me) (h : w_303_82 kc Φ K118 n v1 v4 v7 v8 v9 v10 v11 m), it_V kc it_sh0 303 82 [some (.ref 66), some (.int v1), none, none, some (.int v4), none, none, some (.int v7), some (.int v8), some (.int v9), some (.int v10), some (.int v11)] [] m (it_Pv Φ) := by
  intro n
  induction n with
  | zero => intro v1 v4 v7 v8 v9 v10 v11 m h; exact absurd h id
  | succ n ih =>
    intro v1 v4 v7 v8 v9 v10 v11 m h
    rw [w_303_82] at h
    refine it_V.sN it_cd303 it_m303 3 (pc1 := (if v9 ≤ v11 then 118 else 89)) (ls1 := [some (.ref 66), some (.int v1), none, none, some (.int v4), none, none, some (.int v7), some (.int v8), some (.int v9), some (.int v10), some (.int v11)]) (st1 := []) (mem1 := m) rfl ?_
    refine it_V.ite (fun c1 => ?_) (fun c1 => ?_)
    · have h := h.1 c1
      refine it_V.weak (l := [some (.ref 66), some (.int v1), none, none, some (.int v4), none, none, some (.int v7), some (.int v8), none, none, none]) ⟨rfl, ⟨rfl, ⟨rfl, ⟨rfl, ⟨rfl, trivial⟩⟩⟩⟩⟩ ?_
      exact hK118 v1 v4 v7 v8 m h
    · have h := h.2 c1
      refine it_V.sN it_cd303 it_m303 12 (pc1 := 110) (ls1 := [some (.ref 66), some (.int v1), none, none, some (.int v4), none, none, some (.int v7), some (.int v8), some (.int v9), some (.int v10), some (.int v11)]) (st1 := [(.int ((v7 + (12 : Int32)) + v11)), (.ref 67), (.int (v10 + v11)), (.ref 67)]) (mem1 := m) rfl ?_
      obtain ⟨g2, h⟩ := h
      refine it_V.bald (t := 1) (n := 196608) it_cd303 it_m303 rfl rfl (by decide) g2 ?_
      refine it_V.at (pc1 := 111) (ls1 := [some (.ref 66), some (.int v1), none, none, some (.int v4), none, none, some (.int v7), some (.int v8), some (.int v9), some (.int v10), some (.int v11)]) (st1 := [(.int (m 67 (Int32.toNatClampNeg ((v7 + (12 : Int32)) + v11)))), (.int (v10 + v11)), (.ref 67)]) (mem1 := m) rfl rfl rfl rfl ?_
      obtain ⟨g3, h⟩ := h
      refine it_V.bast (n := 196608) it_cd303 it_m303 rfl rfl g3 ?_
      refine it_V.at (pc1 := 112) (ls1 := [some (.ref 66), some (.int v1), none, none, some (.int v4), none, none, some (.int v7), some (.int v8), some (.int v9), some (.int v10), some (.int v11)]) (st1 := []) (mem1 := (it_sv m 67 (Int32.toNatClampNeg (v10 + v11)) (it_i2b (m 67 (Int32.toNatClampNeg ((v7 + (12 : Int32)) + v11)))))) rfl rfl rfl rfl ?_
      refine it_V.sN it_cd303 it_m303 2 (pc1 := 82) (ls1 := [some (.ref 66), some (.int v1), none, none, some (.int v4), none, none, some (.int v7), some (.int v8), some (.int v9), some (.int v10), some (.int (v11 + (1 : Int32)))]) (st1 := []) (mem1 := (it_sv m 67 (Int32.toNatClampNeg (v10 + v11)) (it_i2b (m 67 (Int32.toNatClampNeg ((v7 + (12 : Int32)) + v11)))))) rfl ?_
      refine it_V.weak (l := [some (.ref 66), some (.int v1), none, none, some (.int v4), none, none, some (.int v7), some (.int v8), some (.int v9), some (.int v10), some (.int (v11 + (1 : Int32)))]) ⟨rfl, ⟨rfl, ⟨rfl, ⟨rfl, ⟨rfl, ⟨rfl, ⟨rfl, ⟨rfl, trivial⟩⟩⟩⟩⟩⟩⟩⟩ ?_
      exact ih v1 v4 v7 v8 v9 v10 (v11 + (1 : Int32)) (it_sv m 67 (Int32.toNatClampNeg (v10 + v11)) (it_i2b (m 67 (Int32.toNatClampNeg ((v7 + (12 : Int32)) + v11))))) h
set_option maxRecDepth 100000 in
set_option maxHeartbeats 4000000 in
theorem s_303_331 (kc : it_Kc) (Φ : it_Me → Prop) (m : it_Me) (h : w_303_331 kc Φ m) : it_V kc it_sh0 303 331 [none, none, none, none, none, none, none, none, none, none, none, none] [] m (it_Pv Φ) := by
  rw [w_303_331] at h
  exact it_V.ret it_cd303 it_m303 rfl rfl ⟨rfl, h⟩
set_option maxRecDepth 100000 in
set_option maxHeartbeats 4000000 in
theorem s_303_139 (kc : it_Kc) (Φ : it_Me → Prop) (v4 : Int32) (v8 : Int32) (u1 : Int32) (u2 : Int32) (u3 : Int32) (u4 : Int32) (m : it_Me) (h : w_303_139 kc Φ v4 v8 u1 u2 u3 u4 m) : it_V kc it_sh0 303 139 [none, none, none, none, some (.int v4), none, none, none, some (.int v8), none, none, none] [(.int u4), (.int u3), (.int u2), (.int u1), (.ref 66)] m (it_Pv Φ) := by
  rw [w_303_139] at h
  refine it_V.sN it_cd303 it_m303 2 (pc1 := 143) (ls1 := [none, none, none, none, some (.int v4), none, none, none, some (.int v8), none, none, none]) (st1 := [(.int v4), (.int v8), (.int u4), (.int u3), (.int u2), (.int u1), (.ref 66)]) (mem1 := m) rfl ?_
  refine it_V.call it_cd303 it_m303 rfl it_m274 [(.ref 66), (.int u1), (.int u2), (.int u3), (.int u4), (.int v8), (.int v4)] [] rfl rfl ⟨Nat.le_of_ble_eq_true rfl, Nat.le_of_ble_eq_true rfl, Nat.le_of_ble_eq_true rfl, Nat.le_of_ble_eq_true rfl, rfl⟩ (s_274 kc u1 u2 u3 u4 v8 v4 m _ h) ?_
  rintro _ m1 ⟨rfl, h⟩
  refine it_V.at (pc1 := 146) (ls1 := [none, none, none, none, some (.int v4), none, none, none, some (.int v8), none, none, none]) (st1 := []) (mem1 := m1) rfl rfl rfl rfl ?_
  refine it_V.sN it_cd303 it_m303 1 (pc1 := 331) (ls1 := [none, none, none, none, some (.int v4), none, none, none, some (.int v8), none, none, none]) (st1 := []) (mem1 := m1) rfl ?_
  refine it_V.weak (l := [none, none, none, none, none, none, none, none, none, none, none, none]) trivial ?_
  exact s_303_331 kc Φ m1 h
set_option maxRecDepth 100000 in
set_option maxHeartbeats 4000000 in
theorem s_303_118 (kc : it_Kc) (Φ : it_Me → Prop) (v1 : Int32) (v4 : Int32) (v7 : Int32) (v8 : Int32) (m : it_Me) (h : w_303_118 kc Φ v1 v4 v7 v8 m) : it_V kc it_sh0 303 118 [some (.ref 66), some (.int v1), none, none, some (.int v4), none, none, some (.int v7), some (.int v8), none, none, none] [] m (it_Pv Φ) := by
  rw [w_303_118] at h
  refine it_V.sN it_cd303 it_m303 2 (pc1 := 120) (ls1 := [some (.ref 66), some (.int v1), none, none, some (.int v4), none, none, some (.int v7), some (.int v8), none, none, none]) (st1 := [(.int v1), (.ref 66)]) (mem1 := m) rfl ?_
  refine it_V.call it_cd303 it_m303 rfl it_m280 [(.ref 66), (.int v1)] [] rfl rfl ⟨Nat.le_of_ble_eq_true rfl, Nat.le_of_ble_eq_true rfl, Nat.le_of_ble_eq_true rfl, Nat.le_of_ble_eq_true rfl, rfl⟩ (s_280 kc v1 m _ h) ?_
  rintro _ m1 ⟨rfl, h⟩
  refine it_V.at (pc1 := 123) (ls1 := [some (.ref 66), some (.int v1), none, none, some (.int v4), none, none, some (.int v7), some (.int v8), none, none, none]) (st1 := []) (mem1 := m1) rfl rfl rfl rfl ?_
  refine it_V.sN it_cd303 it_m303 7 (pc1 := (if v7 = (-1 : Int32) then 133 else 138)) (ls1 := [some (.ref 66), some (.int v1), none, none, some (.int v4), none, none, some (.int v7), some (.int v8), none, none, none]) (st1 := [(.int (0 : Int32)), (.int (5 : Int32)), (.int v1), (.ref 66)]) (mem1 := m1) rfl ?_
  refine it_V.ite (fun c2 => ?_) (fun c2 => ?_)
  · have h := h.1 c2
    refine it_V.sN it_cd303 it_m303 2 (pc1 := 139) (ls1 := [some (.ref 66), some (.int v1), none, none, some (.int v4), none, none, some (.int v7), some (.int v8), none, none, none]) (st1 := [(.int (10 : Int32)), (.int (0 : Int32)), (.int (5 : Int32)), (.int v1), (.ref 66)]) (mem1 := m1) rfl ?_
    refine it_V.weak (l := [none, none, none, none, some (.int v4), none, none, none, some (.int v8), none, none, none]) ⟨rfl, ⟨rfl, trivial⟩⟩ ?_
    exact s_303_139 kc Φ v4 v8 v1 (5 : Int32) (0 : Int32) (10 : Int32) m1 h
  · have h := h.2 c2
    refine it_V.sN it_cd303 it_m303 1 (pc1 := 139) (ls1 := [some (.ref 66), some (.int v1), none, none, some (.int v4), none, none, some (.int v7), some (.int v8), none, none, none]) (st1 := [(.int (0 : Int32)), (.int (0 : Int32)), (.int (5 : Int32)), (.int v1), (.ref 66)]) (mem1 := m1) rfl ?_
    refine it_V.weak (l := [none, none, none, none, some (.int v4), none, none, none, some (.int v8), none, none, none]) ⟨rfl, ⟨rfl, trivial⟩⟩ ?_
    exact s_303_139 kc Φ v4 v8 v1 (5 : Int32) (0 : Int32) (0 : Int32) m1 h
set_option maxRecDepth 100000 in
set_option maxHeartbeats 4000000 in
theorem s_303_46 (kc : it_Kc) (Φ : it_Me → Prop) (v1 : Int32) (v2 : Int32) (v4 : Int32) (v7 : Int32) (u0 : Int32) (m : it_Me) (h : w_303_46 kc Φ v1 v2 v4 v7 u0 m) : it_V kc it_sh0 303 46 [some (.ref 66), some (.int v1), some (.int v2), none, some (.int v4), none, none, some (.int v7), none, none, none, none] [(.int u0)] m (it_Pv Φ) := by
  rw [w_303_46] at h
  refine it_V.sN it_cd303 it_m303 6 (pc1 := 54) (ls1 := [some (.ref 66), some (.int v1), some (.int v2), none, some (.int v4), none, none, some (.int v7), some (.int u0), none, none, none]) (st1 := [(.int (0 : Int32)), (.int (5 : Int32)), (.int v2), (.ref 66), (.int u0)]) (mem1 := m) rfl ?_
  refine it_V.call it_cd303 it_m303 rfl it_m271 [(.int v2), (.int (5 : Int32)), (.int (0 : Int32))] [(.ref 66), (.int u0)] rfl rfl ⟨Nat.le_of_ble_eq_true rfl, Nat.le_of_ble_eq_true rfl, Nat.le_of_ble_eq_true rfl, Nat.le_of_ble_eq_true rfl, rfl⟩ (s_271 kc v2 (5 : Int32) (0 : Int32) m _ h) ?_
  rintro _ m2 ⟨r1, rfl, h⟩
  refine it_V.at (pc1 := 57) (ls1 := [some (.ref 66), some (.int v1), some (.int v2), none, some (.int v4), none, none, some (.int v7), some (.int u0), none, none, none]) (st1 := [(.int r1), (.ref 66), (.int u0)]) (mem1 := m2) rfl rfl rfl rfl ?_
  refine it_V.sN it_cd303 it_m303 2 (pc1 := 59) (ls1 := [some (.ref 66), some (.int v1), some (.int v2), none, some (.int v4), none, none, some (.int v7), some (.int u0), none, none, none]) (st1 := [(.int (r1 + (4 : Int32))), (.ref 66), (.int u0)]) (mem1 := m2) rfl ?_
  refine it_V.call it_cd303 it_m303 rfl it_m220 [(.ref 66), (.int (r1 + (4 : Int32)))] [(.int u0)] rfl rfl ⟨Nat.le_of_ble_eq_true rfl, Nat.le_of_ble_eq_true rfl, Nat.le_of_ble_eq_true rfl, Nat.le_of_ble_eq_true rfl, rfl⟩ (s_220 kc (r1 + (4 : Int32)) m2 _ h) ?_
  rintro _ m4 ⟨r3, rfl, h⟩
  refine it_V.at (pc1 := 62) (ls1 := [some (.ref 66), some (.int v1), some (.int v2), none, some (.int v4), none, none, some (.int v7), some (.int u0), none, none, none]) (st1 := [(.int r3), (.int u0)]) (mem1 := m4) rfl rfl rfl rfl ?_
  refine it_V.call it_cd303 it_m303 rfl it_m297 [(.int u0), (.int r3)] [] rfl rfl ⟨Nat.le_of_ble_eq_true rfl, Nat.le_of_ble_eq_true rfl, Nat.le_of_ble_eq_true rfl, Nat.le_of_ble_eq_true rfl, rfl⟩ (s_297 kc u0 r3 m4 _ h) ?_
  rintro _ m6 ⟨r5, rfl, h⟩
  refine it_V.at (pc1 := 65) (ls1 := [some (.ref 66), some (.int v1), some (.int v2), none, some (.int v4), none, none, some (.int v7), some (.int u0), none, none, none]) (st1 := [(.int r5)]) (mem1 := m6) rfl rfl rfl rfl ?_
  refine it_V.sN it_cd303 it_m303 5 (pc1 := 71) (ls1 := [some (.ref 66), some (.int v1), some (.int v2), none, some (.int v4), none, none, some (.int v7), some (.int u0), some (.int r5), none, none]) (st1 := [(.int (0 : Int32)), (.int (5 : Int32)), (.int v2), (.ref 66)]) (mem1 := m6) rfl ?_
  refine it_V.call it_cd303 it_m303 rfl it_m271 [(.int v2), (.int (5 : Int32)), (.int (0 : Int32))] [(.ref 66)] rfl rfl ⟨Nat.le_of_ble_eq_true rfl, Nat.le_of_ble_eq_true rfl, Nat.le_of_ble_eq_true rfl, Nat.le_of_ble_eq_true rfl, rfl⟩ (s_271 kc v2 (5 : Int32) (0 : Int32) m6 _ h) ?_
  rintro _ m8 ⟨r7, rfl, h⟩
  refine it_V.at (pc1 := 74) (ls1 := [some (.ref 66), some (.int v1), some (.int v2), none, some (.int v4), none, none, some (.int v7), some (.int u0), some (.int r5), none, none]) (st1 := [(.int r7), (.ref 66)]) (mem1 := m8) rfl rfl rfl rfl ?_
  refine it_V.call it_cd303 it_m303 rfl it_m220 [(.ref 66), (.int r7)] [] rfl rfl ⟨Nat.le_of_ble_eq_true rfl, Nat.le_of_ble_eq_true rfl, Nat.le_of_ble_eq_true rfl, Nat.le_of_ble_eq_true rfl, rfl⟩ (s_220 kc r7 m8 _ h) ?_
  rintro _ m10 ⟨r9, rfl, h⟩
  refine it_V.at (pc1 := 77) (ls1 := [some (.ref 66), some (.int v1), some (.int v2), none, some (.int v4), none, none, some (.int v7), some (.int u0), some (.int r5), none, none]) (st1 := [(.int r9)]) (mem1 := m10) rfl rfl rfl rfl ?_
  refine it_V.sN it_cd303 it_m303 3 (pc1 := 82) (ls1 := [some (.ref 66), some (.int v1), some (.int v2), none, some (.int v4), none, none, some (.int v7), some (.int u0), some (.int r5), some (.int r9), some (.int (0 : Int32))]) (st1 := []) (mem1 := m10) rfl ?_
  refine it_V.weak (l := [some (.ref 66), some (.int v1), none, none, some (.int v4), none, none, some (.int v7), some (.int u0), some (.int r5), some (.int r9), some (.int (0 : Int32))]) ⟨rfl, ⟨rfl, ⟨rfl, ⟨rfl, ⟨rfl, ⟨rfl, ⟨rfl, ⟨rfl, trivial⟩⟩⟩⟩⟩⟩⟩⟩ ?_
  obtain ⟨n, h⟩ := h
  exact s_303_82 kc Φ _ (fun v1 v4 v7 v8 m h => s_303_118 kc Φ v1 v4 v7 v8 m h) n v1 v4 v7 u0 r5 r9 (0 : Int32) m10 h
set_option maxRecDepth 100000 in
set_option maxHeartbeats 4000000 in
theorem s_303_185 (kc : it_Kc) (Φ : it_Me → Prop) (v1 : Int32) (m : it_Me) (h : w_303_185 kc Φ v1 m) : it_V kc it_sh0 303 185 [some (.ref 66), some (.int v1), none, none, none, none, none, none, none, none, none, none] [] m (it_Pv Φ) := by
  rw [w_303_185] at h
  refine it_V.sN it_cd303 it_m303 3 (pc1 := 189) (ls1 := [some (.ref 66), some (.int v1), none, none, none, none, none, none, none, none, none, none]) (st1 := [(.int (7 : Int32)), (.int v1), (.ref 66)]) (mem1 := m) rfl ?_
  refine it_V.call it_cd303 it_m303 rfl it_m282 [(.ref 66), (.int v1), (.int (7 : Int32))] [] rfl rfl ⟨Nat.le_of_ble_eq_true rfl, Nat.le_of_ble_eq_true rfl, Nat.le_of_ble_eq_true rfl, Nat.le_of_ble_eq_true rfl, rfl⟩ (s_282 kc v1 (7 : Int32) m _ h) ?_
  rintro _ m1 ⟨rfl, h⟩
  refine it_V.at (pc1 := 192) (ls1 := [some (.ref 66), some (.int v1), none, none, none, none, none, none, none, none, none, none]) (st1 := []) (mem1 := m1) rfl rfl rfl rfl ?_
  exact it_V.ret it_cd303 it_m303 rfl rfl ⟨rfl, h⟩
set_option maxRecDepth 100000 in
set_option maxHeartbeats 4000000 in
theorem s_303_249 (kc : it_Kc) (Φ : it_Me → Prop) (m : it_Me) (h : w_303_249 kc Φ m) : it_V kc it_sh0 303 249 [none, none, none, none, none, none, none, none, none, none, none, none] [] m (it_Pv Φ) := by
  rw [w_303_249] at h
  refine it_V.sN it_cd303 it_m303 1 (pc1 := 331) (ls1 := [none, none, none, none, none, none, none, none, none, none, none, none]) (st1 := []) (mem1 := m) rfl ?_
  refine it_V.weak (l := [none, none, none, none, none, none, none, none, none, none, none, none]) trivial ?_
  exact s_303_331 kc Φ m h
set_option maxRecDepth 100000 in
set_option maxHeartbeats 4000000 in
theorem s_303_242 (kc : it_Kc) (Φ : it_Me → Prop) (v4 : Int32) (v5 : Int32) (u1 : Int32) (u2 : Int32) (u3 : Int32) (u4 : Int32) (m : it_Me) (h : w_303_242 kc Φ v4 v5 u1 u2 u3 u4 m) : it_V kc it_sh0 303 242 [none, none, none, none, some (.int v4), some (.int v5), none, none, none, none, none, none] [(.int u4), (.int u3), (.int u2), (.int u1), (.ref 66)] m (it_Pv Φ) := by
  rw [w_303_242] at h
  refine it_V.sN it_cd303 it_m303 2 (pc1 := 246) (ls1 := [none, none, none, none, some (.int v4), some (.int v5), none, none, none, none, none, none]) (st1 := [(.int v4), (.int v5), (.int u4), (.int u3), (.int u2), (.int u1), (.ref 66)]) (mem1 := m) rfl ?_
  refine it_V.call it_cd303 it_m303 rfl it_m274 [(.ref 66), (.int u1), (.int u2), (.int u3), (.int u4), (.int v5), (.int v4)] [] rfl rfl ⟨Nat.le_of_ble_eq_true rfl, Nat.le_of_ble_eq_true rfl, Nat.le_of_ble_eq_true rfl, Nat.le_of_ble_eq_true rfl, rfl⟩ (s_274 kc u1 u2 u3 u4 v5 v4 m _ h) ?_
  rintro _ m1 ⟨rfl, h⟩
  refine it_V.at (pc1 := 249) (ls1 := [none, none, none, none, some (.int v4), some (.int v5), none, none, none, none, none, none]) (st1 := []) (mem1 := m1) rfl rfl rfl rfl ?_
  refine it_V.weak (l := [none, none, none, none, none, none, none, none, none, none, none, none]) trivial ?_
  exact s_303_249 kc Φ m1 h
set_option maxRecDepth 100000 in
set_option maxHeartbeats 4000000 in
theorem s_303_325 (kc : it_Kc) (Φ : it_Me → Prop) (v4 : Int32) (u1 : Int32) (u2 : Int32) (u3 : Int32) (u4 : Int32) (m : it_Me) (h : w_303_325 kc Φ v4 u1 u2 u3 u4 m) : it_V kc it_sh0 303 325 [none, none, none, none, some (.int v4), none, none, none, none, none, none, none] [(.int u4), (.int u3), (.int u2), (.int u1), (.ref 66)] m (it_Pv Φ) := by
  rw [w_303_325] at h
  refine it_V.sN it_cd303 it_m303 2 (pc1 := 328) (ls1 := [none, none, none, none, some (.int v4), none, none, none, none, none, none, none]) (st1 := [(.int v4), (.int (0 : Int32)), (.int u4), (.int u3), (.int u2), (.int u1), (.ref 66)]) (mem1 := m) rfl ?_
  refine it_V.call it_cd303 it_m303 rfl it_m274 [(.ref 66), (.int u1), (.int u2), (.int u3), (.int u4), (.int (0 : Int32)), (.int v4)] [] rfl rfl ⟨Nat.le_of_ble_eq_true rfl, Nat.le_of_ble_eq_true rfl, Nat.le_of_ble_eq_true rfl, Nat.le_of_ble_eq_true rfl, rfl⟩ (s_274 kc u1 u2 u3 u4 (0 : Int32) v4 m _ h) ?_
  rintro _ m1 ⟨rfl, h⟩
  refine it_V.at (pc1 := 331) (ls1 := [none, none, none, none, some (.int v4), none, none, none, none, none, none, none]) (st1 := []) (mem1 := m1) rfl rfl rfl rfl ?_
  refine it_V.weak (l := [none, none, none, none, none, none, none, none, none, none, none, none]) trivial ?_
  exact s_303_331 kc Φ m1 h
set_option maxRecDepth 100000 in
set_option maxHeartbeats 4000000 in
theorem s_303 (kc : it_Kc) (x0 : Int32) (x1 : Int32) (x2 : Int32) (x3 : Int32) (x4 : Int32) (m : it_Me) (Φ : it_Me → Prop) (h : w_303 kc x0 x1 x2 x3 x4 m Φ) : it_V kc it_sh0 303 0 (it_loc0 [(.ref 66), (.int x0), (.int x1), (.int x2), (.int x3), (.int x4)] 12) [] m (it_Pv Φ) := by
  rw [w_303] at h
  refine it_V.at (pc1 := 0) (ls1 := [some (.ref 66), some (.int x0), some (.int x1), some (.int x2), some (.int x3), some (.int x4), none, none, none, none, none, none]) (st1 := []) (mem1 := m) rfl rfl rfl rfl ?_
  refine it_V.sN it_cd303 it_m303 4 (pc1 := 6) (ls1 := [some (.ref 66), some (.int x0), some (.int x1), some (.int x2), some (.int x3), some (.int x4), none, none, none, none, none, none]) (st1 := [(.int x0), (.ref 86), (.ref 66)]) (mem1 := m) rfl ?_
  obtain ⟨g1, h⟩ := h
  refine it_V.iald it_cd303 it_m303 rfl ((⟨rfl, by decide⟩ : it_isR 86 8)).2 ((⟨rfl, by decide⟩ : it_isR 86 8)).1 g1 ?_
  refine it_V.at (pc1 := 7) (ls1 := [some (.ref 66), some (.int x0), some (.int x1), some (.int x2), some (.int x3), some (.int x4), none, none, none, none, none, none]) (st1 := [(.int (m 86 (Int32.toNatClampNeg x0))), (.ref 66)]) (mem1 := m) rfl rfl rfl rfl ?_
  refine it_V.call it_cd303 it_m303 rfl it_m220 [(.ref 66), (.int (m 86 (Int32.toNatClampNeg x0)))] [] rfl rfl ⟨Nat.le_of_ble_eq_true rfl, Nat.le_of_ble_eq_true rfl, Nat.le_of_ble_eq_true rfl, Nat.le_of_ble_eq_true rfl, rfl⟩ (s_220 kc (m 86 (Int32.toNatClampNeg x0)) m _ h) ?_
  rintro _ m3 ⟨r2, rfl, h⟩
  refine it_V.at (pc1 := 10) (ls1 := [some (.ref 66), some (.int x0), some (.int x1), some (.int x2), some (.int x3), some (.int x4), none, none, none, none, none, none]) (st1 := [(.int r2)]) (mem1 := m3) rfl rfl rfl rfl ?_
  refine it_V.sN it_cd303 it_m303 4 (pc1 := (if x2 = (1 : Int32) then 17 else 149)) (ls1 := [some (.ref 66), some (.int x0), some (.int x1), some (.int x2), some (.int x3), some (.int x4), some (.int r2), none, none, none, none, none]) (st1 := []) (mem1 := m3) rfl ?_
  refine it_V.ite (fun c4 => ?_) (fun c4 => ?_)
  · have h := h.1 c4
    refine it_V.sN it_cd303 it_m303 3 (pc1 := 22) (ls1 := [some (.ref 66), some (.int x0), some (.int x1), some (.int x2), some (.int x3), some (.int x4), some (.int r2), none, none, none, none, none]) (st1 := [(.int x3), (.int r2), (.ref 66)]) (mem1 := m3) rfl ?_
    refine it_V.call it_cd303 it_m303 rfl it_m239 [(.ref 66), (.int r2), (.int x3)] [] rfl rfl ⟨Nat.le_of_ble_eq_true rfl, Nat.le_of_ble_eq_true rfl, Nat.le_of_ble_eq_true rfl, Nat.le_of_ble_eq_true rfl, rfl⟩ (s_239 kc r2 x3 m3 _ h) ?_
    rintro _ m6 ⟨r5, rfl, h⟩
    refine it_V.at (pc1 := 25) (ls1 := [some (.ref 66), some (.int x0), some (.int x1), some (.int x2), some (.int x3), some (.int x4), some (.int r2), none, none, none, none, none]) (st1 := [(.int r5)]) (mem1 := m6) rfl rfl rfl rfl ?_
    refine it_V.sN it_cd303 it_m303 4 (pc1 := (if r5 = (-1 : Int32) then 33 else 37)) (ls1 := [some (.ref 66), some (.int x0), some (.int x1), some (.int x2), some (.int x3), some (.int x4), some (.int r2), some (.int r5), none, none, none, none]) (st1 := []) (mem1 := m6) rfl ?_
    refine it_V.ite (fun c7 => ?_) (fun c7 => ?_)
    · have h := h.1 c7
      refine it_V.sN it_cd303 it_m303 2 (pc1 := 46) (ls1 := [some (.ref 66), some (.int x0), some (.int x1), some (.int x2), some (.int x3), some (.int x4), some (.int r2), some (.int r5), none, none, none, none]) (st1 := [(.int (0 : Int32))]) (mem1 := m6) rfl ?_
      refine it_V.weak (l := [some (.ref 66), some (.int x0), some (.int x1), none, some (.int x3), none, none, some (.int r5), none, none, none, none]) ⟨rfl, ⟨rfl, ⟨rfl, ⟨rfl, ⟨rfl, trivial⟩⟩⟩⟩⟩ ?_
      exact s_303_46 kc Φ x0 x1 x3 r5 (0 : Int32) m6 h
    · have h := h.2 c7
      refine it_V.sN it_cd303 it_m303 4 (pc1 := 43) (ls1 := [some (.ref 66), some (.int x0), some (.int x1), some (.int x2), some (.int x3), some (.int x4), some (.int r2), some (.int r5), none, none, none, none]) (st1 := [(.int (r5 + (8 : Int32))), (.ref 66)]) (mem1 := m6) rfl ?_
      refine it_V.call it_cd303 it_m303 rfl it_m220 [(.ref 66), (.int (r5 + (8 : Int32)))] [] rfl rfl ⟨Nat.le_of_ble_eq_true rfl, Nat.le_of_ble_eq_true rfl, Nat.le_of_ble_eq_true rfl, Nat.le_of_ble_eq_true rfl, rfl⟩ (s_220 kc (r5 + (8 : Int32)) m6 _ h) ?_
      rintro _ m9 ⟨r8, rfl, h⟩
      refine it_V.at (pc1 := 46) (ls1 := [some (.ref 66), some (.int x0), some (.int x1), some (.int x2), some (.int x3), some (.int x4), some (.int r2), some (.int r5), none, none, none, none]) (st1 := [(.int r8)]) (mem1 := m9) rfl rfl rfl rfl ?_
      refine it_V.weak (l := [some (.ref 66), some (.int x0), some (.int x1), none, some (.int x3), none, none, some (.int r5), none, none, none, none]) ⟨rfl, ⟨rfl, ⟨rfl, ⟨rfl, ⟨rfl, trivial⟩⟩⟩⟩⟩ ?_
      exact s_303_46 kc Φ x0 x1 x3 r5 r8 m9 h
  · have h := h.2 c4
    refine it_V.sN it_cd303 it_m303 3 (pc1 := (if x2 = (2 : Int32) then 154 else 252)) (ls1 := [some (.ref 66), some (.int x0), some (.int x1), some (.int x2), some (.int x3), some (.int x4), some (.int r2), none, none, none, none, none]) (st1 := []) (mem1 := m3) rfl ?_
    refine it_V.ite (fun c10 => ?_) (fun c10 => ?_)
    · have h := h.1 c10
      refine it_V.sN it_cd303 it_m303 7 (pc1 := (if 0 < (lg_cmp ((Int32.toInt64 x4) &&& (4294967295 : Int64)) (32 : Int64)) then 185 else 168)) (ls1 := [some (.ref 66), some (.int x0), some (.int x1), some (.int x2), some (.int x3), some (.int x4), some (.int r2), none, none, none, none, none]) (st1 := []) (mem1 := m3) rfl ?_
      refine it_V.ite (fun c11 => ?_) (fun c11 => ?_)
      · have h := h.1 c11
        refine it_V.weak (l := [some (.ref 66), some (.int x0), none, none, none, none, none, none, none, none, none, none]) ⟨rfl, ⟨rfl, trivial⟩⟩ ?_
        exact s_303_185 kc Φ x0 m3 h
      · have h := h.2 c11
        refine it_V.sN it_cd303 it_m303 5 (pc1 := 174) (ls1 := [some (.ref 66), some (.int x0), some (.int x1), some (.int x2), some (.int x3), some (.int x4), some (.int r2), none, none, none, none, none]) (st1 := [(.int (0 : Int32)), (.int (5 : Int32)), (.int x1), (.ref 66), (.int x4)]) (mem1 := m3) rfl ?_
        refine it_V.call it_cd303 it_m303 rfl it_m270 [(.int x1), (.int (5 : Int32)), (.int (0 : Int32))] [(.ref 66), (.int x4)] rfl rfl ⟨Nat.le_of_ble_eq_true rfl, Nat.le_of_ble_eq_true rfl, Nat.le_of_ble_eq_true rfl, Nat.le_of_ble_eq_true rfl, rfl⟩ (s_270 kc x1 (5 : Int32) (0 : Int32) m3 _ h) ?_
        rintro _ m13 ⟨r12, rfl, h⟩
        refine it_V.at (pc1 := 177) (ls1 := [some (.ref 66), some (.int x0), some (.int x1), some (.int x2), some (.int x3), some (.int x4), some (.int r2), none, none, none, none, none]) (st1 := [(.int r12), (.ref 66), (.int x4)]) (mem1 := m13) rfl rfl rfl rfl ?_
        refine it_V.sN it_cd303 it_m303 2 (pc1 := 179) (ls1 := [some (.ref 66), some (.int x0), some (.int x1), some (.int x2), some (.int x3), some (.int x4), some (.int r2), none, none, none, none, none]) (st1 := [(.int (r12 + (4 : Int32))), (.ref 66), (.int x4)]) (mem1 := m13) rfl ?_
        refine it_V.call it_cd303 it_m303 rfl it_m220 [(.ref 66), (.int (r12 + (4 : Int32)))] [(.int x4)] rfl rfl ⟨Nat.le_of_ble_eq_true rfl, Nat.le_of_ble_eq_true rfl, Nat.le_of_ble_eq_true rfl, Nat.le_of_ble_eq_true rfl, rfl⟩ (s_220 kc (r12 + (4 : Int32)) m13 _ h) ?_
        rintro _ m15 ⟨r14, rfl, h⟩
        refine it_V.at (pc1 := 182) (ls1 := [some (.ref 66), some (.int x0), some (.int x1), some (.int x2), some (.int x3), some (.int x4), some (.int r2), none, none, none, none, none]) (st1 := [(.int r14), (.int x4)]) (mem1 := m15) rfl rfl rfl rfl ?_
        refine it_V.sN it_cd303 it_m303 1 (pc1 := (if x4 ≤ r14 then 193 else 185)) (ls1 := [some (.ref 66), some (.int x0), some (.int x1), some (.int x2), some (.int x3), some (.int x4), some (.int r2), none, none, none, none, none]) (st1 := []) (mem1 := m15) rfl ?_
        refine it_V.ite (fun c16 => ?_) (fun c16 => ?_)
        · have h := h.1 c16
          refine it_V.sN it_cd303 it_m303 8 (pc1 := 204) (ls1 := [some (.ref 66), some (.int x0), some (.int x1), some (.int x2), some (.int x3), some (.int x4), some (.int r2), none, none, none, none, none]) (st1 := [(.int (0 : Int32)), (.int (5 : Int32)), (.int x1), (.ref 66), (.int x4), (.int x3), (.int r2), (.ref 66)]) (mem1 := m15) rfl ?_
          refine it_V.call it_cd303 it_m303 rfl it_m270 [(.int x1), (.int (5 : Int32)), (.int (0 : Int32))] [(.ref 66), (.int x4), (.int x3), (.int r2), (.ref 66)] rfl rfl ⟨Nat.le_of_ble_eq_true rfl, Nat.le_of_ble_eq_true rfl, Nat.le_of_ble_eq_true rfl, Nat.le_of_ble_eq_true rfl, rfl⟩ (s_270 kc x1 (5 : Int32) (0 : Int32) m15 _ h) ?_
          rintro _ m18 ⟨r17, rfl, h⟩
          refine it_V.at (pc1 := 207) (ls1 := [some (.ref 66), some (.int x0), some (.int x1), some (.int x2), some (.int x3), some (.int x4), some (.int r2), none, none, none, none, none]) (st1 := [(.int r17), (.ref 66), (.int x4), (.int x3), (.int r2), (.ref 66)]) (mem1 := m18) rfl rfl rfl rfl ?_
          refine it_V.call it_cd303 it_m303 rfl it_m220 [(.ref 66), (.int r17)] [(.int x4), (.int x3), (.int r2), (.ref 66)] rfl rfl ⟨Nat.le_of_ble_eq_true rfl, Nat.le_of_ble_eq_true rfl, Nat.le_of_ble_eq_true rfl, Nat.le_of_ble_eq_true rfl, rfl⟩ (s_220 kc r17 m18 _ h) ?_
          rintro _ m20 ⟨r19, rfl, h⟩
          refine it_V.at (pc1 := 210) (ls1 := [some (.ref 66), some (.int x0), some (.int x1), some (.int x2), some (.int x3), some (.int x4), some (.int r2), none, none, none, none, none]) (st1 := [(.int r19), (.int x4), (.int x3), (.int r2), (.ref 66)]) (mem1 := m20) rfl rfl rfl rfl ?_
          refine it_V.call it_cd303 it_m303 rfl it_m242 [(.ref 66), (.int r2), (.int x3), (.int x4), (.int r19)] [] rfl rfl ⟨Nat.le_of_ble_eq_true rfl, Nat.le_of_ble_eq_true rfl, Nat.le_of_ble_eq_true rfl, Nat.le_of_ble_eq_true rfl, rfl⟩ (s_242 kc r2 x3 x4 r19 m20 _ h) ?_
          rintro _ m22 ⟨r21, rfl, h⟩
          refine it_V.at (pc1 := 213) (ls1 := [some (.ref 66), some (.int x0), some (.int x1), some (.int x2), some (.int x3), some (.int x4), some (.int r2), none, none, none, none, none]) (st1 := [(.int r21)]) (mem1 := m22) rfl rfl rfl rfl ?_
          refine it_V.sN it_cd303 it_m303 4 (pc1 := (if (m22 66 4) = 0 then 222 else 249)) (ls1 := [some (.ref 66), some (.int x0), some (.int x1), some (.int x2), some (.int x3), some (.int x4), some (.int r2), some (.int r21), none, none, none, none]) (st1 := []) (mem1 := m22) rfl ?_
          refine it_V.ite (fun c23 => ?_) (fun c23 => ?_)
          · have h := h.1 c23
            refine it_V.sN it_cd303 it_m303 2 (pc1 := 224) (ls1 := [some (.ref 66), some (.int x0), some (.int x1), some (.int x2), some (.int x3), some (.int x4), some (.int r2), some (.int r21), none, none, none, none]) (st1 := [(.int x0), (.ref 66)]) (mem1 := m22) rfl ?_
            refine it_V.call it_cd303 it_m303 rfl it_m280 [(.ref 66), (.int x0)] [] rfl rfl ⟨Nat.le_of_ble_eq_true rfl, Nat.le_of_ble_eq_true rfl, Nat.le_of_ble_eq_true rfl, Nat.le_of_ble_eq_true rfl, rfl⟩ (s_280 kc x0 m22 _ h) ?_
            rintro _ m24 ⟨rfl, h⟩
            refine it_V.at (pc1 := 227) (ls1 := [some (.ref 66), some (.int x0), some (.int x1), some (.int x2), some (.int x3), some (.int x4), some (.int r2), some (.int r21), none, none, none, none]) (st1 := []) (mem1 := m24) rfl rfl rfl rfl ?_
            refine it_V.sN it_cd303 it_m303 6 (pc1 := (if r21 = 0 then 240 else 236)) (ls1 := [some (.ref 66), some (.int x0), some (.int x1), some (.int x2), some (.int x3), some (.int x4), some (.int r2), some (.int r21), none, none, none, none]) (st1 := [(.int (0 : Int32)), (.int (5 : Int32)), (.int x0), (.ref 66)]) (mem1 := m24) rfl ?_
            refine it_V.ite (fun c25 => ?_) (fun c25 => ?_)
            · have h := h.1 c25
              refine it_V.sN it_cd303 it_m303 1 (pc1 := 242) (ls1 := [some (.ref 66), some (.int x0), some (.int x1), some (.int x2), some (.int x3), some (.int x4), some (.int r2), some (.int r21), none, none, none, none]) (st1 := [(.int (9 : Int32)), (.int (0 : Int32)), (.int (5 : Int32)), (.int x0), (.ref 66)]) (mem1 := m24) rfl ?_
              refine it_V.weak (l := [none, none, none, none, some (.int x3), some (.int x4), none, none, none, none, none, none]) ⟨rfl, ⟨rfl, trivial⟩⟩ ?_
              exact s_303_242 kc Φ x3 x4 x0 (5 : Int32) (0 : Int32) (9 : Int32) m24 h
            · have h := h.2 c25
              refine it_V.sN it_cd303 it_m303 2 (pc1 := 242) (ls1 := [some (.ref 66), some (.int x0), some (.int x1), some (.int x2), some (.int x3), some (.int x4), some (.int r2), some (.int r21), none, none, none, none]) (st1 := [(.int (0 : Int32)), (.int (0 : Int32)), (.int (5 : Int32)), (.int x0), (.ref 66)]) (mem1 := m24) rfl ?_
              refine it_V.weak (l := [none, none, none, none, some (.int x3), some (.int x4), none, none, none, none, none, none]) ⟨rfl, ⟨rfl, trivial⟩⟩ ?_
              exact s_303_242 kc Φ x3 x4 x0 (5 : Int32) (0 : Int32) (0 : Int32) m24 h
          · have h := h.2 c23
            refine it_V.weak (l := [none, none, none, none, none, none, none, none, none, none, none, none]) trivial ?_
            exact s_303_249 kc Φ m22 h
        · have h := h.2 c16
          refine it_V.weak (l := [some (.ref 66), some (.int x0), none, none, none, none, none, none, none, none, none, none]) ⟨rfl, ⟨rfl, trivial⟩⟩ ?_
          exact s_303_185 kc Φ x0 m15 h
    · have h := h.2 c10
      refine it_V.sN it_cd303 it_m303 3 (pc1 := 257) (ls1 := [some (.ref 66), some (.int x0), some (.int x1), some (.int x2), some (.int x3), some (.int x4), some (.int r2), none, none, none, none, none]) (st1 := [(.int x3), (.int r2), (.ref 66)]) (mem1 := m3) rfl ?_
      refine it_V.call it_cd303 it_m303 rfl it_m239 [(.ref 66), (.int r2), (.int x3)] [] rfl rfl ⟨Nat.le_of_ble_eq_true rfl, Nat.le_of_ble_eq_true rfl, Nat.le_of_ble_eq_true rfl, Nat.le_of_ble_eq_true rfl, rfl⟩ (s_239 kc r2 x3 m3 _ h) ?_
      rintro _ m27 ⟨r26, rfl, h⟩
      refine it_V.at (pc1 := 260) (ls1 := [some (.ref 66), some (.int x0), some (.int x1), some (.int x2), some (.int x3), some (.int x4), some (.int r2), none, none, none, none, none]) (st1 := [(.int r26)]) (mem1 := m27) rfl rfl rfl rfl ?_
      refine it_V.sN it_cd303 it_m303 2 (pc1 := (if r26 = (-1 : Int32) then 264 else 284)) (ls1 := [some (.ref 66), some (.int x0), some (.int x1), some (.int x2), some (.int x3), some (.int x4), some (.int r2), none, none, none, none, none]) (st1 := []) (mem1 := m27) rfl ?_
      refine it_V.ite (fun c28 => ?_) (fun c28 => ?_)
      · have h := h.1 c28
        refine it_V.sN it_cd303 it_m303 2 (pc1 := 266) (ls1 := [some (.ref 66), some (.int x0), some (.int x1), some (.int x2), some (.int x3), some (.int x4), some (.int r2), none, none, none, none, none]) (st1 := [(.int x0), (.ref 66)]) (mem1 := m27) rfl ?_
        refine it_V.call it_cd303 it_m303 rfl it_m280 [(.ref 66), (.int x0)] [] rfl rfl ⟨Nat.le_of_ble_eq_true rfl, Nat.le_of_ble_eq_true rfl, Nat.le_of_ble_eq_true rfl, Nat.le_of_ble_eq_true rfl, rfl⟩ (s_280 kc x0 m27 _ h) ?_
        rintro _ m29 ⟨rfl, h⟩
        refine it_V.at (pc1 := 269) (ls1 := [some (.ref 66), some (.int x0), some (.int x1), some (.int x2), some (.int x3), some (.int x4), some (.int r2), none, none, none, none, none]) (st1 := []) (mem1 := m29) rfl rfl rfl rfl ?_
        refine it_V.sN it_cd303 it_m303 7 (pc1 := 278) (ls1 := [some (.ref 66), some (.int x0), some (.int x1), some (.int x2), some (.int x3), some (.int x4), some (.int r2), none, none, none, none, none]) (st1 := [(.int x3), (.int (0 : Int32)), (.int (10 : Int32)), (.int (0 : Int32)), (.int (5 : Int32)), (.int x0), (.ref 66)]) (mem1 := m29) rfl ?_
        refine it_V.call it_cd303 it_m303 rfl it_m274 [(.ref 66), (.int x0), (.int (5 : Int32)), (.int (0 : Int32)), (.int (10 : Int32)), (.int (0 : Int32)), (.int x3)] [] rfl rfl ⟨Nat.le_of_ble_eq_true rfl, Nat.le_of_ble_eq_true rfl, Nat.le_of_ble_eq_true rfl, Nat.le_of_ble_eq_true rfl, rfl⟩ (s_274 kc x0 (5 : Int32) (0 : Int32) (10 : Int32) (0 : Int32) x3 m29 _ h) ?_
        rintro _ m30 ⟨rfl, h⟩
        refine it_V.at (pc1 := 281) (ls1 := [some (.ref 66), some (.int x0), some (.int x1), some (.int x2), some (.int x3), some (.int x4), some (.int r2), none, none, none, none, none]) (st1 := []) (mem1 := m30) rfl rfl rfl rfl ?_
        refine it_V.sN it_cd303 it_m303 1 (pc1 := 331) (ls1 := [some (.ref 66), some (.int x0), some (.int x1), some (.int x2), some (.int x3), some (.int x4), some (.int r2), none, none, none, none, none]) (st1 := []) (mem1 := m30) rfl ?_
        refine it_V.weak (l := [none, none, none, none, none, none, none, none, none, none, none, none]) trivial ?_
        exact s_303_331 kc Φ m30 h
      · have h := h.2 c28
        refine it_V.sN it_cd303 it_m303 5 (pc1 := 293) (ls1 := [some (.ref 66), some (.int x0), some (.int x1), some (.int x2), some (.int x3), some (.int x4), some (.int r2), none, none, none, none, none]) (st1 := [(.int (0 : Int32)), (.int (255 : Int32)), (.int x3), (.int r2), (.ref 66)]) (mem1 := m27) rfl ?_
        refine it_V.call it_cd303 it_m303 rfl it_m242 [(.ref 66), (.int r2), (.int x3), (.int (255 : Int32)), (.int (0 : Int32))] [] rfl rfl ⟨Nat.le_of_ble_eq_true rfl, Nat.le_of_ble_eq_true rfl, Nat.le_of_ble_eq_true rfl, Nat.le_of_ble_eq_true rfl, rfl⟩ (s_242 kc r2 x3 (255 : Int32) (0 : Int32) m27 _ h) ?_
        rintro _ m32 ⟨r31, rfl, h⟩
        refine it_V.at (pc1 := 296) (ls1 := [some (.ref 66), some (.int x0), some (.int x1), some (.int x2), some (.int x3), some (.int x4), some (.int r2), none, none, none, none, none]) (st1 := [(.int r31)]) (mem1 := m32) rfl rfl rfl rfl ?_
        refine it_V.sN it_cd303 it_m303 4 (pc1 := (if (m32 66 4) = 0 then 305 else 331)) (ls1 := [some (.ref 66), some (.int x0), some (.int x1), some (.int x2), some (.int x3), some (.int x4), some (.int r2), some (.int r31), none, none, none, none]) (st1 := []) (mem1 := m32) rfl ?_
        refine it_V.ite (fun c33 => ?_) (fun c33 => ?_)
        · have h := h.1 c33
          refine it_V.sN it_cd303 it_m303 2 (pc1 := 307) (ls1 := [some (.ref 66), some (.int x0), some (.int x1), some (.int x2), some (.int x3), some (.int x4), some (.int r2), some (.int r31), none, none, none, none]) (st1 := [(.int x0), (.ref 66)]) (mem1 := m32) rfl ?_
          refine it_V.call it_cd303 it_m303 rfl it_m280 [(.ref 66), (.int x0)] [] rfl rfl ⟨Nat.le_of_ble_eq_true rfl, Nat.le_of_ble_eq_true rfl, Nat.le_of_ble_eq_true rfl, Nat.le_of_ble_eq_true rfl, rfl⟩ (s_280 kc x0 m32 _ h) ?_
          rintro _ m34 ⟨rfl, h⟩
          refine it_V.at (pc1 := 310) (ls1 := [some (.ref 66), some (.int x0), some (.int x1), some (.int x2), some (.int x3), some (.int x4), some (.int r2), some (.int r31), none, none, none, none]) (st1 := []) (mem1 := m34) rfl rfl rfl rfl ?_
          refine it_V.sN it_cd303 it_m303 6 (pc1 := (if r31 = 0 then 323 else 319)) (ls1 := [some (.ref 66), some (.int x0), some (.int x1), some (.int x2), some (.int x3), some (.int x4), some (.int r2), some (.int r31), none, none, none, none]) (st1 := [(.int (0 : Int32)), (.int (5 : Int32)), (.int x0), (.ref 66)]) (mem1 := m34) rfl ?_
          refine it_V.ite (fun c35 => ?_) (fun c35 => ?_)
          · have h := h.1 c35
            refine it_V.sN it_cd303 it_m303 1 (pc1 := 325) (ls1 := [some (.ref 66), some (.int x0), some (.int x1), some (.int x2), some (.int x3), some (.int x4), some (.int r2), some (.int r31), none, none, none, none]) (st1 := [(.int (9 : Int32)), (.int (0 : Int32)), (.int (5 : Int32)), (.int x0), (.ref 66)]) (mem1 := m34) rfl ?_
            refine it_V.weak (l := [none, none, none, none, some (.int x3), none, none, none, none, none, none, none]) ⟨rfl, trivial⟩ ?_
            exact s_303_325 kc Φ x3 x0 (5 : Int32) (0 : Int32) (9 : Int32) m34 h
          · have h := h.2 c35
            refine it_V.sN it_cd303 it_m303 2 (pc1 := 325) (ls1 := [some (.ref 66), some (.int x0), some (.int x1), some (.int x2), some (.int x3), some (.int x4), some (.int r2), some (.int r31), none, none, none, none]) (st1 := [(.int (0 : Int32)), (.int (0 : Int32)), (.int (5 : Int32)), (.int x0), (.ref 66)]) (mem1 := m34) rfl ?_
            refine it_V.weak (l := [none, none, none, none, some (.int x3), none, none, none, none, none, none, none]) ⟨rfl, trivial⟩ ?_
            exact s_303_325 kc Φ x3 x0 (5 : Int32) (0 : Int32) (0 : Int32) m34 h
        · have h := h.2 c33
          refine it_V.weak (l := [none, none, none, none, none, none, none, none, none, none, none, none]) trivial ?_
          exact s_303_331 kc Φ m32 h
set_option maxRecDepth 100000 in
set_option maxHeartbeats 4000000 in
theorem s_304_174 (kc : it_Kc) (Φ : it_Me → Prop) (m : it_Me) (h : w_304_174 kc Φ m) : it_V kc it_sh0 304 174 [none, none, none, none, none, none, none] [] m (it_Pv Φ) := by
  rw [w_304_174] at h
  exact it_V.ret it_cd304 it_m304 rfl rfl ⟨rfl, h⟩
set_option maxRecDepth 100000 in
set_option maxHeartbeats 4000000 in
theorem s_304_78 (kc : it_Kc) (Φ : it_Me → Prop) (v1 : Int32) (m : it_Me) (h : w_304_78 kc Φ v1 m) : it_V kc it_sh0 304 78 [some (.ref 66), some (.int v1), none, none, none, none, none] [] m (it_Pv Φ) := by
  rw [w_304_78] at h
  refine it_V.sN it_cd304 it_m304 3 (pc1 := 82) (ls1 := [some (.ref 66), some (.int v1), none, none, none, none, none]) (st1 := [(.int (6 : Int32)), (.int v1), (.ref 66)]) (mem1 := m) rfl ?_
  refine it_V.call it_cd304 it_m304 rfl it_m282 [(.ref 66), (.int v1), (.int (6 : Int32))] [] rfl rfl ⟨Nat.le_of_ble_eq_true rfl, Nat.le_of_ble_eq_true rfl, Nat.le_of_ble_eq_true rfl, Nat.le_of_ble_eq_true rfl, rfl⟩ (s_282 kc v1 (6 : Int32) m _ h) ?_
  rintro _ m1 ⟨rfl, h⟩
  refine it_V.at (pc1 := 85) (ls1 := [some (.ref 66), some (.int v1), none, none, none, none, none]) (st1 := []) (mem1 := m1) rfl rfl rfl rfl ?_
  refine it_V.sN it_cd304 it_m304 1 (pc1 := 174) (ls1 := [some (.ref 66), some (.int v1), none, none, none, none, none]) (st1 := []) (mem1 := m1) rfl ?_
  refine it_V.weak (l := [none, none, none, none, none, none, none]) trivial ?_
  exact s_304_174 kc Φ m1 h
set_option maxRecDepth 100000 in
set_option maxHeartbeats 4000000 in
theorem s_304_88 (kc : it_Kc) (Φ : it_Me → Prop) (v1 : Int32) (v2 : Int32) (v3 : Int32) (v4 : Int32) (v5 : Int32) (m : it_Me) (h : w_304_88 kc Φ v1 v2 v3 v4 v5 m) : it_V kc it_sh0 304 88 [some (.ref 66), some (.int v1), some (.int v2), some (.int v3), some (.int v4), some (.int v5), none] [] m (it_Pv Φ) := by
  rw [w_304_88] at h
  refine it_V.sN it_cd304 it_m304 3 (pc1 := (if v3 = (1 : Int32) then 93 else 119)) (ls1 := [some (.ref 66), some (.int v1), some (.int v2), some (.int v3), some (.int v4), some (.int v5), none]) (st1 := []) (mem1 := m) rfl ?_
  refine it_V.ite (fun c1 => ?_) (fun c1 => ?_)
  · have h := h.1 c1
    refine it_V.sN it_cd304 it_m304 2 (pc1 := 95) (ls1 := [some (.ref 66), some (.int v1), some (.int v2), some (.int v3), some (.int v4), some (.int v5), none]) (st1 := [(.int v1), (.ref 66)]) (mem1 := m) rfl ?_
    refine it_V.call it_cd304 it_m304 rfl it_m280 [(.ref 66), (.int v1)] [] rfl rfl ⟨Nat.le_of_ble_eq_true rfl, Nat.le_of_ble_eq_true rfl, Nat.le_of_ble_eq_true rfl, Nat.le_of_ble_eq_true rfl, rfl⟩ (s_280 kc v1 m _ h) ?_
    rintro _ m2 ⟨rfl, h⟩
    refine it_V.at (pc1 := 98) (ls1 := [some (.ref 66), some (.int v1), some (.int v2), some (.int v3), some (.int v4), some (.int v5), none]) (st1 := []) (mem1 := m2) rfl rfl rfl rfl ?_
    refine it_V.sN it_cd304 it_m304 8 (pc1 := 111) (ls1 := [some (.ref 66), some (.int v1), some (.int v2), some (.int v3), some (.int v4), some (.int v5), none]) (st1 := [(.int v4), (.ref 73), (.int v4), (.int (0 : Int32)), (.int (6 : Int32)), (.int v1), (.ref 66)]) (mem1 := m2) rfl ?_
    obtain ⟨g3, h⟩ := h
    refine it_V.iald it_cd304 it_m304 rfl ((⟨rfl, by decide⟩ : it_isR 73 2)).2 ((⟨rfl, by decide⟩ : it_isR 73 2)).1 g3 ?_
    refine it_V.at (pc1 := 112) (ls1 := [some (.ref 66), some (.int v1), some (.int v2), some (.int v3), some (.int v4), some (.int v5), none]) (st1 := [(.int (m2 73 (Int32.toNatClampNeg v4))), (.int v4), (.int (0 : Int32)), (.int (6 : Int32)), (.int v1), (.ref 66)]) (mem1 := m2) rfl rfl rfl rfl ?_
    refine it_V.sN it_cd304 it_m304 1 (pc1 := 113) (ls1 := [some (.ref 66), some (.int v1), some (.int v2), some (.int v3), some (.int v4), some (.int v5), none]) (st1 := [(.int (1 : Int32)), (.int (m2 73 (Int32.toNatClampNeg v4))), (.int v4), (.int (0 : Int32)), (.int (6 : Int32)), (.int v1), (.ref 66)]) (mem1 := m2) rfl ?_
    refine it_V.call it_cd304 it_m304 rfl it_m274 [(.ref 66), (.int v1), (.int (6 : Int32)), (.int (0 : Int32)), (.int v4), (.int (m2 73 (Int32.toNatClampNeg v4))), (.int (1 : Int32))] [] rfl rfl ⟨Nat.le_of_ble_eq_true rfl, Nat.le_of_ble_eq_true rfl, Nat.le_of_ble_eq_true rfl, Nat.le_of_ble_eq_true rfl, rfl⟩ (s_274 kc v1 (6 : Int32) (0 : Int32) v4 (m2 73 (Int32.toNatClampNeg v4)) (1 : Int32) m2 _ h) ?_
    rintro _ m4 ⟨rfl, h⟩
    refine it_V.at (pc1 := 116) (ls1 := [some (.ref 66), some (.int v1), some (.int v2), some (.int v3), some (.int v4), some (.int v5), none]) (st1 := []) (mem1 := m4) rfl rfl rfl rfl ?_
    refine it_V.sN it_cd304 it_m304 1 (pc1 := 174) (ls1 := [some (.ref 66), some (.int v1), some (.int v2), some (.int v3), some (.int v4), some (.int v5), none]) (st1 := []) (mem1 := m4) rfl ?_
    refine it_V.weak (l := [none, none, none, none, none, none, none]) trivial ?_
    exact s_304_174 kc Φ m4 h
  · have h := h.2 c1
    refine it_V.sN it_cd304 it_m304 2 (pc1 := 121) (ls1 := [some (.ref 66), some (.int v1), some (.int v2), some (.int v3), some (.int v4), some (.int v5), none]) (st1 := [(.int v2), (.ref 66)]) (mem1 := m) rfl ?_
    refine it_V.call it_cd304 it_m304 rfl it_m220 [(.ref 66), (.int v2)] [] rfl rfl ⟨Nat.le_of_ble_eq_true rfl, Nat.le_of_ble_eq_true rfl, Nat.le_of_ble_eq_true rfl, Nat.le_of_ble_eq_true rfl, rfl⟩ (s_220 kc v2 m _ h) ?_
    rintro _ m6 ⟨r5, rfl, h⟩
    refine it_V.at (pc1 := 124) (ls1 := [some (.ref 66), some (.int v1), some (.int v2), some (.int v3), some (.int v4), some (.int v5), none]) (st1 := [(.int r5)]) (mem1 := m6) rfl rfl rfl rfl ?_
    refine it_V.sN it_cd304 it_m304 1 (pc1 := (if r5 = 0 then 136 else 127)) (ls1 := [some (.ref 66), some (.int v1), some (.int v2), some (.int v3), some (.int v4), some (.int v5), none]) (st1 := []) (mem1 := m6) rfl ?_
    refine it_V.ite (fun c7 => ?_) (fun c7 => ?_)
    · have h := h.1 c7
      refine it_V.sN it_cd304 it_m304 5 (pc1 := 142) (ls1 := [some (.ref 66), some (.int v1), some (.int v2), some (.int v3), some (.int v4), some (.int v5), none]) (st1 := [(.int ((1 : Int32) + v4)), (.int v2), (.ref 66)]) (mem1 := m6) rfl ?_
      refine it_V.call it_cd304 it_m304 rfl it_m221 [(.ref 66), (.int v2), (.int ((1 : Int32) + v4))] [] rfl rfl ⟨Nat.le_of_ble_eq_true rfl, Nat.le_of_ble_eq_true rfl, Nat.le_of_ble_eq_true rfl, Nat.le_of_ble_eq_true rfl, rfl⟩ (s_221 kc v2 ((1 : Int32) + v4) m6 _ h) ?_
      rintro _ m8 ⟨rfl, h⟩
      refine it_V.at (pc1 := 145) (ls1 := [some (.ref 66), some (.int v1), some (.int v2), some (.int v3), some (.int v4), some (.int v5), none]) (st1 := []) (mem1 := m8) rfl rfl rfl rfl ?_
      refine it_V.sN it_cd304 it_m304 5 (pc1 := 151) (ls1 := [some (.ref 66), some (.int v1), some (.int v2), some (.int v3), some (.int v4), some (.int v5), none]) (st1 := [(.int v5), (.int (v2 + (4 : Int32))), (.ref 66)]) (mem1 := m8) rfl ?_
      refine it_V.call it_cd304 it_m304 rfl it_m221 [(.ref 66), (.int (v2 + (4 : Int32))), (.int v5)] [] rfl rfl ⟨Nat.le_of_ble_eq_true rfl, Nat.le_of_ble_eq_true rfl, Nat.le_of_ble_eq_true rfl, Nat.le_of_ble_eq_true rfl, rfl⟩ (s_221 kc (v2 + (4 : Int32)) v5 m8 _ h) ?_
      rintro _ m9 ⟨rfl, h⟩
      refine it_V.at (pc1 := 154) (ls1 := [some (.ref 66), some (.int v1), some (.int v2), some (.int v3), some (.int v4), some (.int v5), none]) (st1 := []) (mem1 := m9) rfl rfl rfl rfl ?_
      refine it_V.sN it_cd304 it_m304 8 (pc1 := 166) (ls1 := [some (.ref 66), some (.int v1), some (.int v2), some (.int v3), some (.int v4), some (.int v5), none]) (st1 := [(.int ((m9 66 6) + v5)), (.int (v2 + (8 : Int32))), (.ref 66)]) (mem1 := m9) rfl ?_
      refine it_V.call it_cd304 it_m304 rfl it_m221 [(.ref 66), (.int (v2 + (8 : Int32))), (.int ((m9 66 6) + v5))] [] rfl rfl ⟨Nat.le_of_ble_eq_true rfl, Nat.le_of_ble_eq_true rfl, Nat.le_of_ble_eq_true rfl, Nat.le_of_ble_eq_true rfl, rfl⟩ (s_221 kc (v2 + (8 : Int32)) ((m9 66 6) + v5) m9 _ h) ?_
      rintro _ m10 ⟨rfl, h⟩
      refine it_V.at (pc1 := 169) (ls1 := [some (.ref 66), some (.int v1), some (.int v2), some (.int v3), some (.int v4), some (.int v5), none]) (st1 := []) (mem1 := m10) rfl rfl rfl rfl ?_
      refine it_V.sN it_cd304 it_m304 2 (pc1 := 171) (ls1 := [some (.ref 66), some (.int v1), some (.int v2), some (.int v3), some (.int v4), some (.int v5), none]) (st1 := [(.int v1), (.ref 66)]) (mem1 := m10) rfl ?_
      refine it_V.call it_cd304 it_m304 rfl it_m280 [(.ref 66), (.int v1)] [] rfl rfl ⟨Nat.le_of_ble_eq_true rfl, Nat.le_of_ble_eq_true rfl, Nat.le_of_ble_eq_true rfl, Nat.le_of_ble_eq_true rfl, rfl⟩ (s_280 kc v1 m10 _ h) ?_
      rintro _ m11 ⟨rfl, h⟩
      refine it_V.at (pc1 := 174) (ls1 := [some (.ref 66), some (.int v1), some (.int v2), some (.int v3), some (.int v4), some (.int v5), none]) (st1 := []) (mem1 := m11) rfl rfl rfl rfl ?_
      refine it_V.weak (l := [none, none, none, none, none, none, none]) trivial ?_
      exact s_304_174 kc Φ m11 h
    · have h := h.2 c7
      refine it_V.sN it_cd304 it_m304 3 (pc1 := 130) (ls1 := [some (.ref 66), some (.int v1), some (.int v2), some (.int v3), some (.int v4), some (.int v5), none]) (st1 := [(.int (2 : Int32)), (.int v1), (.ref 66)]) (mem1 := m6) rfl ?_
      refine it_V.call it_cd304 it_m304 rfl it_m282 [(.ref 66), (.int v1), (.int (2 : Int32))] [] rfl rfl ⟨Nat.le_of_ble_eq_true rfl, Nat.le_of_ble_eq_true rfl, Nat.le_of_ble_eq_true rfl, Nat.le_of_ble_eq_true rfl, rfl⟩ (s_282 kc v1 (2 : Int32) m6 _ h) ?_
      rintro _ m12 ⟨rfl, h⟩
      refine it_V.at (pc1 := 133) (ls1 := [some (.ref 66), some (.int v1), some (.int v2), some (.int v3), some (.int v4), some (.int v5), none]) (st1 := []) (mem1 := m12) rfl rfl rfl rfl ?_
      refine it_V.sN it_cd304 it_m304 1 (pc1 := 174) (ls1 := [some (.ref 66), some (.int v1), some (.int v2), some (.int v3), some (.int v4), some (.int v5), none]) (st1 := []) (mem1 := m12) rfl ?_
      refine it_V.weak (l := [none, none, none, none, none, none, none]) trivial ?_
      exact s_304_174 kc Φ m12 h
set_option maxRecDepth 100000 in
set_option maxHeartbeats 4000000 in
theorem s_304_16 (kc : it_Kc) (Φ : it_Me → Prop) (v1 : Int32) (v2 : Int32) (v3 : Int32) (v4 : Int32) (v5 : Int32) (u0 : Int32) (m : it_Me) (h : w_304_16 kc Φ v1 v2 v3 v4 v5 u0 m) : it_V kc it_sh0 304 16 [some (.ref 66), some (.int v1), some (.int v2), some (.int v3), some (.int v4), some (.int v5), none] [(.int u0)] m (it_Pv Φ) := by
  rw [w_304_16] at h
  refine it_V.sN it_cd304 it_m304 4 (pc1 := (if v3 = (3 : Int32) then 23 else 54)) (ls1 := [some (.ref 66), some (.int v1), some (.int v2), some (.int v3), some (.int v4), some (.int v5), some (.int u0)]) (st1 := []) (mem1 := m) rfl ?_
  refine it_V.ite (fun c1 => ?_) (fun c1 => ?_)
  · have h := h.1 c1
    refine it_V.sN it_cd304 it_m304 2 (pc1 := 25) (ls1 := [some (.ref 66), some (.int v1), some (.int v2), some (.int v3), some (.int v4), some (.int v5), some (.int u0)]) (st1 := [(.int v2), (.ref 66)]) (mem1 := m) rfl ?_
    refine it_V.call it_cd304 it_m304 rfl it_m220 [(.ref 66), (.int v2)] [] rfl rfl ⟨Nat.le_of_ble_eq_true rfl, Nat.le_of_ble_eq_true rfl, Nat.le_of_ble_eq_true rfl, Nat.le_of_ble_eq_true rfl, rfl⟩ (s_220 kc v2 m _ h) ?_
    rintro _ m3 ⟨r2, rfl, h⟩
    refine it_V.at (pc1 := 28) (ls1 := [some (.ref 66), some (.int v1), some (.int v2), some (.int v3), some (.int v4), some (.int v5), some (.int u0)]) (st1 := [(.int r2)]) (mem1 := m3) rfl rfl rfl rfl ?_
    refine it_V.sN it_cd304 it_m304 1 (pc1 := (if r2 = 0 then 31 else 40)) (ls1 := [some (.ref 66), some (.int v1), some (.int v2), some (.int v3), some (.int v4), some (.int v5), some (.int u0)]) (st1 := []) (mem1 := m3) rfl ?_
    refine it_V.ite (fun c4 => ?_) (fun c4 => ?_)
    · have h := h.1 c4
      refine it_V.sN it_cd304 it_m304 3 (pc1 := 34) (ls1 := [some (.ref 66), some (.int v1), some (.int v2), some (.int v3), some (.int v4), some (.int v5), some (.int u0)]) (st1 := [(.int (3 : Int32)), (.int v1), (.ref 66)]) (mem1 := m3) rfl ?_
      refine it_V.call it_cd304 it_m304 rfl it_m282 [(.ref 66), (.int v1), (.int (3 : Int32))] [] rfl rfl ⟨Nat.le_of_ble_eq_true rfl, Nat.le_of_ble_eq_true rfl, Nat.le_of_ble_eq_true rfl, Nat.le_of_ble_eq_true rfl, rfl⟩ (s_282 kc v1 (3 : Int32) m3 _ h) ?_
      rintro _ m5 ⟨rfl, h⟩
      refine it_V.at (pc1 := 37) (ls1 := [some (.ref 66), some (.int v1), some (.int v2), some (.int v3), some (.int v4), some (.int v5), some (.int u0)]) (st1 := []) (mem1 := m5) rfl rfl rfl rfl ?_
      refine it_V.sN it_cd304 it_m304 1 (pc1 := 174) (ls1 := [some (.ref 66), some (.int v1), some (.int v2), some (.int v3), some (.int v4), some (.int v5), some (.int u0)]) (st1 := []) (mem1 := m5) rfl ?_
      refine it_V.weak (l := [none, none, none, none, none, none, none]) trivial ?_
      exact s_304_174 kc Φ m5 h
    · have h := h.2 c4
      refine it_V.sN it_cd304 it_m304 3 (pc1 := 43) (ls1 := [some (.ref 66), some (.int v1), some (.int v2), some (.int v3), some (.int v4), some (.int v5), some (.int u0)]) (st1 := [(.int (0 : Int32)), (.int v2), (.ref 66)]) (mem1 := m3) rfl ?_
      refine it_V.call it_cd304 it_m304 rfl it_m221 [(.ref 66), (.int v2), (.int (0 : Int32))] [] rfl rfl ⟨Nat.le_of_ble_eq_true rfl, Nat.le_of_ble_eq_true rfl, Nat.le_of_ble_eq_true rfl, Nat.le_of_ble_eq_true rfl, rfl⟩ (s_221 kc v2 (0 : Int32) m3 _ h) ?_
      rintro _ m6 ⟨rfl, h⟩
      refine it_V.at (pc1 := 46) (ls1 := [some (.ref 66), some (.int v1), some (.int v2), some (.int v3), some (.int v4), some (.int v5), some (.int u0)]) (st1 := []) (mem1 := m6) rfl rfl rfl rfl ?_
      refine it_V.sN it_cd304 it_m304 2 (pc1 := 48) (ls1 := [some (.ref 66), some (.int v1), some (.int v2), some (.int v3), some (.int v4), some (.int v5), some (.int u0)]) (st1 := [(.int v1), (.ref 66)]) (mem1 := m6) rfl ?_
      refine it_V.call it_cd304 it_m304 rfl it_m280 [(.ref 66), (.int v1)] [] rfl rfl ⟨Nat.le_of_ble_eq_true rfl, Nat.le_of_ble_eq_true rfl, Nat.le_of_ble_eq_true rfl, Nat.le_of_ble_eq_true rfl, rfl⟩ (s_280 kc v1 m6 _ h) ?_
      rintro _ m7 ⟨rfl, h⟩
      refine it_V.at (pc1 := 51) (ls1 := [some (.ref 66), some (.int v1), some (.int v2), some (.int v3), some (.int v4), some (.int v5), some (.int u0)]) (st1 := []) (mem1 := m7) rfl rfl rfl rfl ?_
      refine it_V.sN it_cd304 it_m304 1 (pc1 := 174) (ls1 := [some (.ref 66), some (.int v1), some (.int v2), some (.int v3), some (.int v4), some (.int v5), some (.int u0)]) (st1 := []) (mem1 := m7) rfl ?_
      refine it_V.weak (l := [none, none, none, none, none, none, none]) trivial ?_
      exact s_304_174 kc Φ m7 h
  · have h := h.2 c1
    refine it_V.sN it_cd304 it_m304 2 (pc1 := (if u0 = 0 then 78 else 59)) (ls1 := [some (.ref 66), some (.int v1), some (.int v2), some (.int v3), some (.int v4), some (.int v5), some (.int u0)]) (st1 := []) (mem1 := m) rfl ?_
    refine it_V.ite (fun c8 => ?_) (fun c8 => ?_)
    · have h := h.1 c8
      refine it_V.weak (l := [some (.ref 66), some (.int v1), none, none, none, none, none]) ⟨rfl, ⟨rfl, trivial⟩⟩ ?_
      exact s_304_78 kc Φ v1 m h
    · have h := h.2 c8
      refine it_V.sN it_cd304 it_m304 3 (pc1 := (if v3 = (2 : Int32) then 64 else 88)) (ls1 := [some (.ref 66), some (.int v1), some (.int v2), some (.int v3), some (.int v4), some (.int v5), some (.int u0)]) (st1 := []) (mem1 := m) rfl ?_
      refine it_V.ite (fun c9 => ?_) (fun c9 => ?_)
      · have h := h.1 c9
        refine it_V.sN it_cd304 it_m304 3 (pc1 := (if v5 < (1 : Int32) then 78 else 70)) (ls1 := [some (.ref 66), some (.int v1), some (.int v2), some (.int v3), some (.int v4), some (.int v5), some (.int u0)]) (st1 := []) (mem1 := m) rfl ?_
        refine it_V.ite (fun c10 => ?_) (fun c10 => ?_)
        · have h := h.1 c10
          refine it_V.weak (l := [some (.ref 66), some (.int v1), none, none, none, none, none]) ⟨rfl, ⟨rfl, trivial⟩⟩ ?_
          exact s_304_78 kc Φ v1 m h
        · have h := h.2 c10
          refine it_V.sN it_cd304 it_m304 3 (pc1 := (if v5 ≤ (100000 : Int32) then 88 else 78)) (ls1 := [some (.ref 66), some (.int v1), some (.int v2), some (.int v3), some (.int v4), some (.int v5), some (.int u0)]) (st1 := []) (mem1 := m) rfl ?_
          refine it_V.ite (fun c11 => ?_) (fun c11 => ?_)
          · have h := h.1 c11
            refine it_V.weak (l := [some (.ref 66), some (.int v1), some (.int v2), some (.int v3), some (.int v4), some (.int v5), none]) ⟨rfl, ⟨rfl, ⟨rfl, ⟨rfl, ⟨rfl, ⟨rfl, trivial⟩⟩⟩⟩⟩⟩ ?_
            exact s_304_88 kc Φ v1 v2 v3 v4 v5 m h
          · have h := h.2 c11
            refine it_V.weak (l := [some (.ref 66), some (.int v1), none, none, none, none, none]) ⟨rfl, ⟨rfl, trivial⟩⟩ ?_
            exact s_304_78 kc Φ v1 m h
      · have h := h.2 c9
        refine it_V.weak (l := [some (.ref 66), some (.int v1), some (.int v2), some (.int v3), some (.int v4), some (.int v5), none]) ⟨rfl, ⟨rfl, ⟨rfl, ⟨rfl, ⟨rfl, ⟨rfl, trivial⟩⟩⟩⟩⟩⟩ ?_
        exact s_304_88 kc Φ v1 v2 v3 v4 v5 m h
set_option maxRecDepth 100000 in
set_option maxHeartbeats 4000000 in
theorem s_304_11 (kc : it_Kc) (Φ : it_Me → Prop) (v1 : Int32) (v2 : Int32) (v3 : Int32) (v4 : Int32) (v5 : Int32) (m : it_Me) (h : w_304_11 kc Φ v1 v2 v3 v4 v5 m) : it_V kc it_sh0 304 11 [some (.ref 66), some (.int v1), some (.int v2), some (.int v3), some (.int v4), some (.int v5), none] [] m (it_Pv Φ) := by
  rw [w_304_11] at h
  refine it_V.sN it_cd304 it_m304 2 (pc1 := 16) (ls1 := [some (.ref 66), some (.int v1), some (.int v2), some (.int v3), some (.int v4), some (.int v5), none]) (st1 := [(.int (1 : Int32))]) (mem1 := m) rfl ?_
  refine it_V.weak (l := [some (.ref 66), some (.int v1), some (.int v2), some (.int v3), some (.int v4), some (.int v5), none]) ⟨rfl, ⟨rfl, ⟨rfl, ⟨rfl, ⟨rfl, ⟨rfl, trivial⟩⟩⟩⟩⟩⟩ ?_
  exact s_304_16 kc Φ v1 v2 v3 v4 v5 (1 : Int32) m h
set_option maxRecDepth 100000 in
set_option maxHeartbeats 4000000 in
theorem s_304 (kc : it_Kc) (x0 : Int32) (x1 : Int32) (x2 : Int32) (x3 : Int32) (x4 : Int32) (m : it_Me) (Φ : it_Me → Prop) (h : w_304 kc x0 x1 x2 x3 x4 m Φ) : it_V kc it_sh0 304 0 (it_loc0 [(.ref 66), (.int x0), (.int x1), (.int x2), (.int x3), (.int x4)] 7) [] m (it_Pv Φ) := by
  rw [w_304] at h
  refine it_V.at (pc1 := 0) (ls1 := [some (.ref 66), some (.int x0), some (.int x1), some (.int x2), some (.int x3), some (.int x4), none]) (st1 := []) (mem1 := m) rfl rfl rfl rfl ?_
  refine it_V.sN it_cd304 it_m304 2 (pc1 := (if x3 = 0 then 11 else 5)) (ls1 := [some (.ref 66), some (.int x0), some (.int x1), some (.int x2), some (.int x3), some (.int x4), none]) (st1 := []) (mem1 := m) rfl ?_
  refine it_V.ite (fun c1 => ?_) (fun c1 => ?_)
  · have h := h.1 c1
    exact s_304_11 kc Φ x0 x1 x2 x3 x4 m h
  · have h := h.2 c1
    refine it_V.sN it_cd304 it_m304 3 (pc1 := (if x3 = (1 : Int32) then 11 else 15)) (ls1 := [some (.ref 66), some (.int x0), some (.int x1), some (.int x2), some (.int x3), some (.int x4), none]) (st1 := []) (mem1 := m) rfl ?_
    refine it_V.ite (fun c2 => ?_) (fun c2 => ?_)
    · have h := h.1 c2
      exact s_304_11 kc Φ x0 x1 x2 x3 x4 m h
    · have h := h.2 c2
      refine it_V.sN it_cd304 it_m304 1 (pc1 := 16) (ls1 := [some (.ref 66), some (.int x0), some (.int x1), some (.int x2), some (.int x3), some (.int x4), none]) (st1 := [(.int (0 : Int32))]) (mem1 := m) rfl ?_
      exact s_304_16 kc Φ x0 x1 x2 x3 x4 (0 : Int32) m h
