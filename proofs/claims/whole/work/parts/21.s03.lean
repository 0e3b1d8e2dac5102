/-! The formulas are sound for the small machine. Written by wip/whole/gen_wp.py, split_wp.py -/
set_option maxRecDepth 100000 in
set_option maxHeartbeats 4000000 in
theorem s_47_85 (kc : it_Kc) (Φ : Option Nat → it_Me → Prop) (K5 : Int32 → Nat → Option Nat → Int32 → it_Me → Prop) (K91 : Option Nat → it_Me → Prop) (hK5 : ∀ (v1 : Int32) (v2 : Nat) (v3 : Option Nat) (v4 : Int32) (_ : it_isR v2 8) (_ : ∀ q, v3 = some q → it_isP q) (m : it_Me), K5 v1 v2 v3 v4 m → it_V kc it_sh0 47 5 [some (.ref 59), some (.int v1), some (.ref v2), some (va_rf v3), some (.int v4), none, none] [] m (it_Pr Φ)) (hK91 : ∀ (v3 : Option Nat) (_ : ∀ q, v3 = some q → it_isP q) (m : it_Me), K91 v3 m → it_V kc it_sh0 47 91 [none, none, none, some (va_rf v3), none, none, none] [] m (it_Pr Φ)) (v1 : Int32) (v2 : Nat) (v3 : Option Nat) (v4 : Int32) (hv2 : it_isR v2 8) (hv3 : ∀ q, v3 = some q → it_isP q) (m : it_Me) (h : w_47_85 kc Φ K5 K91 v1 v2 v3 v4 m) : it_V kc it_sh0 47 85 [some (.ref 59), some (.int v1), some (.ref v2), some (va_rf v3), some (.int v4), none, none] [] m (it_Pr Φ) := by
  rw [w_47_85] at h
  rcases v3 with _ | q1
  · skip
    refine it_V.sN it_cd47 it_m47 2 (pc1 := 5) (ls1 := [some (.ref 59), some (.int v1), some (.ref v2), some .null, some (.int (v4 + (1 : Int32))), none, none]) (st1 := []) (mem1 := m) rfl ?_
    refine it_V.weak (l := [some (.ref 59), some (.int v1), some (.ref v2), some .null, some (.int (v4 + (1 : Int32))), none, none]) ⟨rfl, ⟨rfl, ⟨rfl, ⟨rfl, ⟨rfl, trivial⟩⟩⟩⟩⟩ ?_
    exact hK5 v1 v2 none (v4 + (1 : Int32)) (hv2) (fun q hq => by cases hq) m h
  · skip
    refine it_V.sN it_cd47 it_m47 2 (pc1 := 5) (ls1 := [some (.ref 59), some (.int v1), some (.ref v2), some (.ref q1), some (.int (v4 + (1 : Int32))), none, none]) (st1 := []) (mem1 := m) rfl ?_
    refine it_V.weak (l := [some (.ref 59), some (.int v1), some (.ref v2), some (.ref q1), some (.int (v4 + (1 : Int32))), none, none]) ⟨rfl, ⟨rfl, ⟨rfl, ⟨rfl, ⟨rfl, trivial⟩⟩⟩⟩⟩ ?_
    exact hK5 v1 v2 (some q1) (v4 + (1 : Int32)) (hv2) (fun q hq => by cases hq; exact hv3 q1 rfl) m h
set_option maxRecDepth 100000 in
set_option maxHeartbeats 4000000 in
theorem s_47_82 (kc : it_Kc) (Φ : Option Nat → it_Me → Prop) (K5 : Int32 → Nat → Option Nat → Int32 → it_Me → Prop) (K91 : Option Nat → it_Me → Prop) (hK5 : ∀ (v1 : Int32) (v2 : Nat) (v3 : Option Nat) (v4 : Int32) (_ : it_isR v2 8) (_ : ∀ q, v3 = some q → it_isP q) (m : it_Me), K5 v1 v2 v3 v4 m → it_V kc it_sh0 47 5 [some (.ref 59), some (.int v1), some (.ref v2), some (va_rf v3), some (.int v4), none, none] [] m (it_Pr Φ)) (hK91 : ∀ (v3 : Option Nat) (_ : ∀ q, v3 = some q → it_isP q) (m : it_Me), K91 v3 m → it_V kc it_sh0 47 91 [none, none, none, some (va_rf v3), none, none, none] [] m (it_Pr Φ)) (v1 : Int32) (v2 : Nat) (v4 : Int32) (v5 : Nat) (hv2 : it_isR v2 8) (hv5 : it_isP v5) (m : it_Me) (h : w_47_82 kc Φ K5 K91 v1 v2 v4 v5 m) : it_V kc it_sh0 47 82 [some (.ref 59), some (.int v1), some (.ref v2), none, some (.int v4), some (.ref v5), none] [] m (it_Pr Φ) := by
  rw [w_47_82] at h
  refine it_V.sN it_cd47 it_m47 2 (pc1 := 85) (ls1 := [some (.ref 59), some (.int v1), some (.ref v2), some (.ref v5), some (.int v4), some (.ref v5), none]) (st1 := []) (mem1 := m) rfl ?_
  refine it_V.weak (l := [some (.ref 59), some (.int v1), some (.ref v2), some (.ref v5), some (.int v4), none, none]) ⟨rfl, ⟨rfl, ⟨rfl, ⟨rfl, ⟨rfl, trivial⟩⟩⟩⟩⟩ ?_
  exact s_47_85 kc Φ _ _ hK5 hK91 v1 v2 (some v5) v4 (hv2) (fun q hq => by cases hq; exact hv5) m h
set_option maxRecDepth 100000 in
set_option maxHeartbeats 4000000 in
theorem s_47_58 (kc : it_Kc) (Φ : Option Nat → it_Me → Prop) (K5 : Int32 → Nat → Option Nat → Int32 → it_Me → Prop) (K91 : Option Nat → it_Me → Prop) (hK5 : ∀ (v1 : Int32) (v2 : Nat) (v3 : Option Nat) (v4 : Int32) (_ : it_isR v2 8) (_ : ∀ q, v3 = some q → it_isP q) (m : it_Me), K5 v1 v2 v3 v4 m → it_V kc it_sh0 47 5 [some (.ref 59), some (.int v1), some (.ref v2), some (va_rf v3), some (.int v4), none, none] [] m (it_Pr Φ)) (hK91 : ∀ (v3 : Option Nat) (_ : ∀ q, v3 = some q → it_isP q) (m : it_Me), K91 v3 m → it_V kc it_sh0 47 91 [none, none, none, some (va_rf v3), none, none, none] [] m (it_Pr Φ)) (v1 : Int32) (v2 : Nat) (v3 : Option Nat) (v4 : Int32) (v5 : Nat) (u0 : Int32) (hv2 : it_isR v2 8) (hv3 : ∀ q, v3 = some q → it_isP q) (hv5 : it_isP v5) (m : it_Me) (h : w_47_58 kc Φ K5 K91 v1 v2 v3 v4 v5 u0 m) : it_V kc it_sh0 47 58 [some (.ref 59), some (.int v1), some (.ref v2), some (va_rf v3), some (.int v4), some (.ref v5), none] [(.int u0)] m (it_Pr Φ) := by
  rw [w_47_58] at h
  rcases v3 with _ | q1
  · skip
    refine it_V.sN it_cd47 it_m47 3 (pc1 := (if u0 = 0 then 85 else 65)) (ls1 := [some (.ref 59), some (.int v1), some (.ref v2), some .null, some (.int v4), some (.ref v5), some (.int u0)]) (st1 := []) (mem1 := m) rfl ?_
    refine it_V.ite (fun c2 => ?_) (fun c2 => ?_)
    · have h := h.1 c2
      refine it_V.weak (l := [some (.ref 59), some (.int v1), some (.ref v2), some .null, some (.int v4), none, none]) ⟨rfl, ⟨rfl, ⟨rfl, ⟨rfl, ⟨rfl, trivial⟩⟩⟩⟩⟩ ?_
      exact s_47_85 kc Φ _ _ hK5 hK91 v1 v2 none v4 (hv2) (fun q hq => by cases hq) m h
    · have h := h.2 c2
      have h := h.1 rfl
      refine it_V.sN it_cd47 it_m47 2 (pc1 := 82) (ls1 := [some (.ref 59), some (.int v1), some (.ref v2), some .null, some (.int v4), some (.ref v5), some (.int u0)]) (st1 := []) (mem1 := m) rfl ?_
      refine it_V.weak (l := [some (.ref 59), some (.int v1), some (.ref v2), none, some (.int v4), some (.ref v5), none]) ⟨rfl, ⟨rfl, ⟨rfl, ⟨rfl, ⟨rfl, trivial⟩⟩⟩⟩⟩ ?_
      exact s_47_82 kc Φ _ _ hK5 hK91 v1 v2 v4 v5 (hv2) (hv5) m h
  · skip
    refine it_V.sN it_cd47 it_m47 3 (pc1 := (if u0 = 0 then 85 else 65)) (ls1 := [some (.ref 59), some (.int v1), some (.ref v2), some (.ref q1), some (.int v4), some (.ref v5), some (.int u0)]) (st1 := []) (mem1 := m) rfl ?_
    refine it_V.ite (fun c3 => ?_) (fun c3 => ?_)
    · have h := h.1 c3
      refine it_V.weak (l := [some (.ref 59), some (.int v1), some (.ref v2), some (.ref q1), some (.int v4), none, none]) ⟨rfl, ⟨rfl, ⟨rfl, ⟨rfl, ⟨rfl, trivial⟩⟩⟩⟩⟩ ?_
      exact s_47_85 kc Φ _ _ hK5 hK91 v1 v2 (some q1) v4 (hv2) (fun q hq => by cases hq; exact hv3 q1 rfl) m h
    · have h := h.2 c3
      have h := h.2 q1 rfl
      refine it_V.sN it_cd47 it_m47 4 (pc1 := 72) (ls1 := [some (.ref 59), some (.int v1), some (.ref v2), some (.ref q1), some (.int v4), some (.ref v5), some (.int u0)]) (st1 := [(.int v4), (.ref v2)]) (mem1 := m) rfl ?_
      obtain ⟨g4, h⟩ := h
      refine it_V.iald it_cd47 it_m47 rfl (hv2).2 (hv2).1 g4 ?_
      refine it_V.at (pc1 := 73) (ls1 := [some (.ref 59), some (.int v1), some (.ref v2), some (.ref q1), some (.int v4), some (.ref v5), some (.int u0)]) (st1 := [(.int (m v2 (Int32.toNatClampNeg v4)))]) (mem1 := m) rfl rfl rfl rfl ?_
      refine it_V.sN it_cd47 it_m47 2 (pc1 := 75) (ls1 := [some (.ref 59), some (.int v1), some (.ref v2), some (.ref q1), some (.int v4), some (.ref v5), some (.int u0)]) (st1 := [(.ref q1), (.ref v2), (.int (m v2 (Int32.toNatClampNeg v4)))]) (mem1 := m) rfl ?_
      refine it_V.getP it_cd47 it_m47 rfl (hv3 q1 rfl).1 rfl ?_
      refine it_V.at (pc1 := 78) (ls1 := [some (.ref 59), some (.int v1), some (.ref v2), some (.ref q1), some (.int v4), some (.ref v5), some (.int u0)]) (st1 := [(.int (m q1 0)), (.ref v2), (.int (m v2 (Int32.toNatClampNeg v4)))]) (mem1 := m) rfl rfl rfl rfl ?_
      obtain ⟨g5, h⟩ := h
      refine it_V.iald it_cd47 it_m47 rfl (hv2).2 (hv2).1 g5 ?_
      refine it_V.at (pc1 := 79) (ls1 := [some (.ref 59), some (.int v1), some (.ref v2), some (.ref q1), some (.int v4), some (.ref v5), some (.int u0)]) (st1 := [(.int (m v2 (Int32.toNatClampNeg (m q1 0)))), (.int (m v2 (Int32.toNatClampNeg v4)))]) (mem1 := m) rfl rfl rfl rfl ?_
      refine it_V.sN it_cd47 it_m47 1 (pc1 := (if (m v2 (Int32.toNatClampNeg (m q1 0))) ≤ (m v2 (Int32.toNatClampNeg v4)) then 85 else 82)) (ls1 := [some (.ref 59), some (.int v1), some (.ref v2), some (.ref q1), some (.int v4), some (.ref v5), some (.int u0)]) (st1 := []) (mem1 := m) rfl ?_
      refine it_V.ite (fun c6 => ?_) (fun c6 => ?_)
      · have h := h.1 c6
        refine it_V.weak (l := [some (.ref 59), some (.int v1), some (.ref v2), some (.ref q1), some (.int v4), none, none]) ⟨rfl, ⟨rfl, ⟨rfl, ⟨rfl, ⟨rfl, trivial⟩⟩⟩⟩⟩ ?_
        exact s_47_85 kc Φ _ _ hK5 hK91 v1 v2 (some q1) v4 (hv2) (fun q hq => by cases hq; exact hv3 q1 rfl) m h
      · have h := h.2 c6
        refine it_V.weak (l := [some (.ref 59), some (.int v1), some (.ref v2), none, some (.int v4), some (.ref v5), none]) ⟨rfl, ⟨rfl, ⟨rfl, ⟨rfl, ⟨rfl, trivial⟩⟩⟩⟩⟩ ?_
        exact s_47_82 kc Φ _ _ hK5 hK91 v1 v2 v4 v5 (hv2) (hv5) m h
set_option maxRecDepth 100000 in
set_option maxHeartbeats 4000000 in
theorem s_47_5 (kc : it_Kc) (Φ : Option Nat → it_Me → Prop) (K91 : Option Nat → it_Me → Prop) (hK91 : ∀ (v3 : Option Nat) (_ : ∀ q, v3 = some q → it_isP q) (m : it_Me), K91 v3 m → it_V kc it_sh0 47 91 [none, none, none, some (va_rf v3), none, none, none] [] m (it_Pr Φ)) : ∀ (n : Nat) (v1 : Int32) (v2 : Nat) (v3 : Option Nat) (v4 : Int32) (hv2 : it_isR v2 8) (hv3 : ∀ q, v3 = some q → it_isP q) (m : it_Me) (h : w_47_5 kc Φ K91 n v1 v2 v3 v4 m), it_V kc it_sh0 47 5 [some (.ref 59), some (.int v1), some (.ref v2), some (va_rf v3), some (.int v4), none, none] [] m (it_Pr Φ) := by
  intro n
  induction n with
  | zero => intro v1 v2 v3 v4 hv2 hv3 m h; exact absurd h id
  | succ n ih =>
    intro v1 v2 v3 v4 hv2 hv3 m h
    rw [w_47_5] at h
    rcases v3 with _ | q1
    · skip
      refine it_V.sN it_cd47 it_m47 5 (pc1 := (if (m 9 7) ≤ v4 then 91 else 17)) (ls1 := [some (.ref 59), some (.int v1), some (.ref v2), some .null, some (.int v4), none, none]) (st1 := []) (mem1 := m) rfl ?_
      refine it_V.ite (fun c2 => ?_) (fun c2 => ?_)
      · have h := h.1 c2
        refine it_V.weak (l := [none, none, none, some .null, none, none, none]) ⟨rfl, trivial⟩ ?_
        exact hK91 none (fun q hq => by cases hq) m h
      · have h := h.2 c2
        refine it_V.sN it_cd47 it_m47 4 (pc1 := 26) (ls1 := [some (.ref 59), some (.int v1), some (.ref v2), some .null, some (.int v4), none, none]) (st1 := [(.int v4), (.ref 10)]) (mem1 := m) rfl ?_
        obtain ⟨g3, h⟩ := h
        refine it_V.aald it_cd47 it_m47 rfl g3 ?_
        refine it_V.at (pc1 := 27) (ls1 := [some (.ref 59), some (.int v1), some (.ref v2), some .null, some (.int v4), none, none]) (st1 := [(.ref (14 + 5 * Int32.toNatClampNeg v4))]) (mem1 := m) rfl rfl rfl rfl ?_
        refine it_V.sN it_cd47 it_m47 7 (pc1 := 40) (ls1 := [some (.ref 59), some (.int v1), some (.ref v2), some .null, some (.int v4), some (.ref (14 + 5 * Int32.toNatClampNeg v4)), none]) (st1 := [(.int (1 : Int32)), (.ref (14 + 5 * Int32.toNatClampNeg v4)), (.ref 9), (.ref 1)]) (mem1 := m) rfl ?_
        refine it_V.call it_cd47 it_m47 rfl it_m90 [(.ref 9), (.ref (14 + 5 * Int32.toNatClampNeg v4)), (.int (1 : Int32))] [(.ref 1)] rfl rfl ⟨Nat.le_of_ble_eq_true rfl, Nat.le_of_ble_eq_true rfl, Nat.le_of_ble_eq_true rfl, Nat.le_of_ble_eq_true rfl, rfl⟩ (s_90 kc (14 + 5 * Int32.toNatClampNeg v4) (1 : Int32) (it_isP_of g3) m _ h) ?_
        rintro _ m5 ⟨r4, rfl, h⟩
        refine it_V.at (pc1 := 43) (ls1 := [some (.ref 59), some (.int v1), some (.ref v2), some .null, some (.int v4), some (.ref (14 + 5 * Int32.toNatClampNeg v4)), none]) (st1 := [(.int r4), (.ref 1)]) (mem1 := m5) rfl rfl rfl rfl ?_
        refine it_V.sN it_cd47 it_m47 4 (pc1 := 47) (ls1 := [some (.ref 59), some (.int v1), some (.ref v2), some .null, some (.int v4), some (.ref (14 + 5 * Int32.toNatClampNeg v4)), none]) (st1 := [(.int (r4 + ((4 : Int32) * v1))), (.ref 1)]) (mem1 := m5) rfl ?_
        refine it_V.call it_cd47 it_m47 rfl it_m12 [(.ref 1), (.int (r4 + ((4 : Int32) * v1)))] [] rfl rfl ⟨Nat.le_of_ble_eq_true rfl, Nat.le_of_ble_eq_true rfl, Nat.le_of_ble_eq_true rfl, Nat.le_of_ble_eq_true rfl, rfl⟩ (s_12 kc (r4 + ((4 : Int32) * v1)) m5 _ h) ?_
        rintro _ m7 ⟨r6, rfl, h⟩
        refine it_V.at (pc1 := 50) (ls1 := [some (.ref 59), some (.int v1), some (.ref v2), some .null, some (.int v4), some (.ref (14 + 5 * Int32.toNatClampNeg v4)), none]) (st1 := [(.int r6)]) (mem1 := m7) rfl rfl rfl rfl ?_
        refine it_V.sN it_cd47 it_m47 1 (pc1 := (if r6 = 0 then 57 else 53)) (ls1 := [some (.ref 59), some (.int v1), some (.ref v2), some .null, some (.int v4), some (.ref (14 + 5 * Int32.toNatClampNeg v4)), none]) (st1 := []) (mem1 := m7) rfl ?_
        refine it_V.ite (fun c8 => ?_) (fun c8 => ?_)
        · have h := h.1 c8
          refine it_V.sN it_cd47 it_m47 1 (pc1 := 58) (ls1 := [some (.ref 59), some (.int v1), some (.ref v2), some .null, some (.int v4), some (.ref (14 + 5 * Int32.toNatClampNeg v4)), none]) (st1 := [(.int (0 : Int32))]) (mem1 := m7) rfl ?_
          refine it_V.weak (l := [some (.ref 59), some (.int v1), some (.ref v2), some .null, some (.int v4), some (.ref (14 + 5 * Int32.toNatClampNeg v4)), none]) ⟨rfl, ⟨rfl, ⟨rfl, ⟨rfl, ⟨rfl, ⟨rfl, trivial⟩⟩⟩⟩⟩⟩ ?_
          exact s_47_58 kc Φ _ _ ih hK91 v1 v2 none v4 (14 + 5 * Int32.toNatClampNeg v4) (0 : Int32) (hv2) (fun q hq => by cases hq) (it_isP_of g3) m7 h
        · have h := h.2 c8
          refine it_V.sN it_cd47 it_m47 2 (pc1 := 58) (ls1 := [some (.ref 59), some (.int v1), some (.ref v2), some .null, some (.int v4), some (.ref (14 + 5 * Int32.toNatClampNeg v4)), none]) (st1 := [(.int (1 : Int32))]) (mem1 := m7) rfl ?_
          refine it_V.weak (l := [some (.ref 59), some (.int v1), some (.ref v2), some .null, some (.int v4), some (.ref (14 + 5 * Int32.toNatClampNeg v4)), none]) ⟨rfl, ⟨rfl, ⟨rfl, ⟨rfl, ⟨rfl, ⟨rfl, trivial⟩⟩⟩⟩⟩⟩ ?_
          exact s_47_58 kc Φ _ _ ih hK91 v1 v2 none v4 (14 + 5 * Int32.toNatClampNeg v4) (1 : Int32) (hv2) (fun q hq => by cases hq) (it_isP_of g3) m7 h
    · skip
      refine it_V.sN it_cd47 it_m47 5 (pc1 := (if (m 9 7) ≤ v4 then 91 else 17)) (ls1 := [some (.ref 59), some (.int v1), some (.ref v2), some (.ref q1), some (.int v4), none, none]) (st1 := []) (mem1 := m) rfl ?_
      refine it_V.ite (fun c9 => ?_) (fun c9 => ?_)
      · have h := h.1 c9
        refine it_V.weak (l := [none, none, none, some (.ref q1), none, none, none]) ⟨rfl, trivial⟩ ?_
        exact hK91 (some q1) (fun q hq => by cases hq; exact hv3 q1 rfl) m h
      · have h := h.2 c9
        refine it_V.sN it_cd47 it_m47 4 (pc1 := 26) (ls1 := [some (.ref 59), some (.int v1), some (.ref v2), some (.ref q1), some (.int v4), none, none]) (st1 := [(.int v4), (.ref 10)]) (mem1 := m) rfl ?_
        obtain ⟨g10, h⟩ := h
        refine it_V.aald it_cd47 it_m47 rfl g10 ?_
        refine it_V.at (pc1 := 27) (ls1 := [some (.ref 59), some (.int v1), some (.ref v2), some (.ref q1), some (.int v4), none, none]) (st1 := [(.ref (14 + 5 * Int32.toNatClampNeg v4))]) (mem1 := m) rfl rfl rfl rfl ?_
        refine it_V.sN it_cd47 it_m47 7 (pc1 := 40) (ls1 := [some (.ref 59), some (.int v1), some (.ref v2), some (.ref q1), some (.int v4), some (.ref (14 + 5 * Int32.toNatClampNeg v4)), none]) (st1 := [(.int (1 : Int32)), (.ref (14 + 5 * Int32.toNatClampNeg v4)), (.ref 9), (.ref 1)]) (mem1 := m) rfl ?_
        refine it_V.call it_cd47 it_m47 rfl it_m90 [(.ref 9), (.ref (14 + 5 * Int32.toNatClampNeg v4)), (.int (1 : Int32))] [(.ref 1)] rfl rfl ⟨Nat.le_of_ble_eq_true rfl, Nat.le_of_ble_eq_true rfl, Nat.le_of_ble_eq_true rfl, Nat.le_of_ble_eq_true rfl, rfl⟩ (s_90 kc (14 + 5 * Int32.toNatClampNeg v4) (1 : Int32) (it_isP_of g10) m _ h) ?_
        rintro _ m12 ⟨r11, rfl, h⟩
        refine it_V.at (pc1 := 43) (ls1 := [some (.ref 59), some (.int v1), some (.ref v2), some (.ref q1), some (.int v4), some (.ref (14 + 5 * Int32.toNatClampNeg v4)), none]) (st1 := [(.int r11), (.ref 1)]) (mem1 := m12) rfl rfl rfl rfl ?_
        refine it_V.sN it_cd47 it_m47 4 (pc1 := 47) (ls1 := [some (.ref 59), some (.int v1), some (.ref v2), some (.ref q1), some (.int v4), some (.ref (14 + 5 * Int32.toNatClampNeg v4)), none]) (st1 := [(.int (r11 + ((4 : Int32) * v1))), (.ref 1)]) (mem1 := m12) rfl ?_
        refine it_V.call it_cd47 it_m47 rfl it_m12 [(.ref 1), (.int (r11 + ((4 : Int32) * v1)))] [] rfl rfl ⟨Nat.le_of_ble_eq_true rfl, Nat.le_of_ble_eq_true rfl, Nat.le_of_ble_eq_true rfl, Nat.le_of_ble_eq_true rfl, rfl⟩ (s_12 kc (r11 + ((4 : Int32) * v1)) m12 _ h) ?_
        rintro _ m14 ⟨r13, rfl, h⟩
        refine it_V.at (pc1 := 50) (ls1 := [some (.ref 59), some (.int v1), some (.ref v2), some (.ref q1), some (.int v4), some (.ref (14 + 5 * Int32.toNatClampNeg v4)), none]) (st1 := [(.int r13)]) (mem1 := m14) rfl rfl rfl rfl ?_
        refine it_V.sN it_cd47 it_m47 1 (pc1 := (if r13 = 0 then 57 else 53)) (ls1 := [some (.ref 59), some (.int v1), some (.ref v2), some (.ref q1), some (.int v4), some (.ref (14 + 5 * Int32.toNatClampNeg v4)), none]) (st1 := []) (mem1 := m14) rfl ?_
        refine it_V.ite (fun c15 => ?_) (fun c15 => ?_)
        · have h := h.1 c15
          refine it_V.sN it_cd47 it_m47 1 (pc1 := 58) (ls1 := [some (.ref 59), some (.int v1), some (.ref v2), some (.ref q1), some (.int v4), some (.ref (14 + 5 * Int32.toNatClampNeg v4)), none]) (st1 := [(.int (0 : Int32))]) (mem1 := m14) rfl ?_
          refine it_V.weak (l := [some (.ref 59), some (.int v1), some (.ref v2), some (.ref q1), some (.int v4), some (.ref (14 + 5 * Int32.toNatClampNeg v4)), none]) ⟨rfl, ⟨rfl, ⟨rfl, ⟨rfl, ⟨rfl, ⟨rfl, trivial⟩⟩⟩⟩⟩⟩ ?_
          exact s_47_58 kc Φ _ _ ih hK91 v1 v2 (some q1) v4 (14 + 5 * Int32.toNatClampNeg v4) (0 : Int32) (hv2) (fun q hq => by cases hq; exact hv3 q1 rfl) (it_isP_of g10) m14 h
        · have h := h.2 c15
          refine it_V.sN it_cd47 it_m47 2 (pc1 := 58) (ls1 := [some (.ref 59), some (.int v1), some (.ref v2), some (.ref q1), some (.int v4), some (.ref (14 + 5 * Int32.toNatClampNeg v4)), none]) (st1 := [(.int (1 : Int32))]) (mem1 := m14) rfl ?_
          refine it_V.weak (l := [some (.ref 59), some (.int v1), some (.ref v2), some (.ref q1), some (.int v4), some (.ref (14 + 5 * Int32.toNatClampNeg v4)), none]) ⟨rfl, ⟨rfl, ⟨rfl, ⟨rfl, ⟨rfl, ⟨rfl, trivial⟩⟩⟩⟩⟩⟩ ?_
          exact s_47_58 kc Φ _ _ ih hK91 v1 v2 (some q1) v4 (14 + 5 * Int32.toNatClampNeg v4) (1 : Int32) (hv2) (fun q hq => by cases hq; exact hv3 q1 rfl) (it_isP_of g10) m14 h
set_option maxRecDepth 100000 in
set_option maxHeartbeats 4000000 in
theorem s_47_91 (kc : it_Kc) (Φ : Option Nat → it_Me → Prop) (v3 : Option Nat) (hv3 : ∀ q, v3 = some q → it_isP q) (m : it_Me) (h : w_47_91 kc Φ v3 m) : it_V kc it_sh0 47 91 [none, none, none, some (va_rf v3), none, none, none] [] m (it_Pr Φ) := by
  rw [w_47_91] at h
  rcases v3 with _ | q1
  · skip
    refine it_V.sN it_cd47 it_m47 1 (pc1 := 92) (ls1 := [none, none, none, some .null, none, none, none]) (st1 := [.null]) (mem1 := m) rfl ?_
    exact it_V.ret it_cd47 it_m47 rfl rfl ⟨none, rfl, (fun q hq => by cases hq), h⟩
  · skip
    refine it_V.sN it_cd47 it_m47 1 (pc1 := 92) (ls1 := [none, none, none, some (.ref q1), none, none, none]) (st1 := [(.ref q1)]) (mem1 := m) rfl ?_
    exact it_V.ret it_cd47 it_m47 rfl rfl ⟨some q1, rfl, (fun q hq => by cases hq; exact hv3 q1 rfl), h⟩
set_option maxRecDepth 100000 in
set_option maxHeartbeats 4000000 in
theorem s_47 (kc : it_Kc) (x0 : Int32) (x1 : Nat) (hx1 : it_isR x1 8) (m : it_Me) (Φ : Option Nat → it_Me → Prop) (h : w_47 kc x0 x1 m Φ) : it_V kc it_sh0 47 0 (it_loc0 [(.ref 59), (.int x0), (.ref x1)] 7) [] m (it_Pr Φ) := by
  rw [w_47] at h
  refine it_V.at (pc1 := 0) (ls1 := [some (.ref 59), some (.int x0), some (.ref x1), none, none, none, none]) (st1 := []) (mem1 := m) rfl rfl rfl rfl ?_
  refine it_V.sN it_cd47 it_m47 4 (pc1 := 5) (ls1 := [some (.ref 59), some (.int x0), some (.ref x1), some .null, some (.int (0 : Int32)), none, none]) (st1 := []) (mem1 := m) rfl ?_
  obtain ⟨n, h⟩ := h
  exact s_47_5 kc Φ _ (fun v3 hv3 m h => s_47_91 kc Φ v3 hv3 m h) n x0 x1 none (0 : Int32) (hx1) (fun q hq => by cases hq) m h
set_option maxRecDepth 100000 in
set_option maxHeartbeats 4000000 in
theorem s_49_44 (kc : it_Kc) (Φ : it_Me → Prop) (m : it_Me) (h : w_49_44 kc Φ m) : it_V kc it_sh0 49 44 [none, none] [] m (it_Pv Φ) := by
  rw [w_49_44] at h
  exact it_V.ret it_cd49 it_m49 rfl rfl ⟨rfl, h⟩
set_option maxRecDepth 100000 in
set_option maxHeartbeats 4000000 in
theorem s_49 (kc : it_Kc) (x0 : Int32) (m : it_Me) (Φ : it_Me → Prop) (h : w_49 kc x0 m Φ) : it_V kc it_sh0 49 0 (it_loc0 [(.ref 59), (.int x0)] 2) [] m (it_Pv Φ) := by
  rw [w_49] at h
  refine it_V.at (pc1 := 0) (ls1 := [some (.ref 59), some (.int x0)]) (st1 := []) (mem1 := m) rfl rfl rfl rfl ?_
  refine it_V.sN it_cd49 it_m49 5 (pc1 := 9) (ls1 := [some (.ref 59), some (.int x0)]) (st1 := [(.int (3 : Int32)), (.ref 5), (.int (3 : Int32)), (.ref 5)]) (mem1 := m) rfl ?_
  obtain ⟨g1, h⟩ := h
  refine it_V.iald it_cd49 it_m49 rfl ((⟨rfl, by decide⟩ : it_isR 5 12)).2 ((⟨rfl, by decide⟩ : it_isR 5 12)).1 g1 ?_
  refine it_V.at (pc1 := 10) (ls1 := [some (.ref 59), some (.int x0)]) (st1 := [(.int (m 5 (Int32.toNatClampNeg (3 : Int32)))), (.int (3 : Int32)), (.ref 5)]) (mem1 := m) rfl rfl rfl rfl ?_
  refine it_V.sN it_cd49 it_m49 2 (pc1 := 12) (ls1 := [some (.ref 59), some (.int x0)]) (st1 := [(.int ((m 5 (Int32.toNatClampNeg (3 : Int32))) + (1 : Int32))), (.int (3 : Int32)), (.ref 5)]) (mem1 := m) rfl ?_
  obtain ⟨g2, h⟩ := h
  refine it_V.iast it_cd49 it_m49 rfl ((⟨rfl, by decide⟩ : it_isR 5 12)).1 g2 ?_
  refine it_V.at (pc1 := 13) (ls1 := [some (.ref 59), some (.int x0)]) (st1 := []) (mem1 := (it_sv m 5 (Int32.toNatClampNeg (3 : Int32)) ((m 5 (Int32.toNatClampNeg (3 : Int32))) + (1 : Int32)))) rfl rfl rfl rfl ?_
  refine it_V.sN it_cd49 it_m49 4 (pc1 := (if (4000 : Int32) ≤ ((it_sv m 5 (Int32.toNatClampNeg (3 : Int32)) ((m 5 (Int32.toNatClampNeg (3 : Int32))) + (1 : Int32))) 59 9) then 44 else 23)) (ls1 := [some (.ref 59), some (.int x0)]) (st1 := []) (mem1 := (it_sv m 5 (Int32.toNatClampNeg (3 : Int32)) ((m 5 (Int32.toNatClampNeg (3 : Int32))) + (1 : Int32)))) rfl ?_
  refine it_V.ite (fun c3 => ?_) (fun c3 => ?_)
  · have h := h.1 c3
    refine it_V.weak (l := [none, none]) trivial ?_
    exact s_49_44 kc Φ (it_sv m 5 (Int32.toNatClampNeg (3 : Int32)) ((m 5 (Int32.toNatClampNeg (3 : Int32))) + (1 : Int32))) h
  · have h := h.2 c3
    refine it_V.sN it_cd49 it_m49 6 (pc1 := 33) (ls1 := [some (.ref 59), some (.int x0)]) (st1 := [(.int (it_i2b x0)), (.int ((it_sv m 5 (Int32.toNatClampNeg (3 : Int32)) ((m 5 (Int32.toNatClampNeg (3 : Int32))) + (1 : Int32))) 59 9)), (.ref 61)]) (mem1 := (it_sv m 5 (Int32.toNatClampNeg (3 : Int32)) ((m 5 (Int32.toNatClampNeg (3 : Int32))) + (1 : Int32)))) rfl ?_
    obtain ⟨g4, h⟩ := h
    refine it_V.bast (n := 4000) it_cd49 it_m49 rfl rfl g4 ?_
    refine it_V.at (pc1 := 34) (ls1 := [some (.ref 59), some (.int x0)]) (st1 := []) (mem1 := (it_sv (it_sv m 5 (Int32.toNatClampNeg (3 : Int32)) ((m 5 (Int32.toNatClampNeg (3 : Int32))) + (1 : Int32))) 61 (Int32.toNatClampNeg ((it_sv m 5 (Int32.toNatClampNeg (3 : Int32)) ((m 5 (Int32.toNatClampNeg (3 : Int32))) + (1 : Int32))) 59 9)) (it_i2b (it_i2b x0)))) rfl rfl rfl rfl ?_
    refine it_V.sN it_cd49 it_m49 6 (pc1 := 44) (ls1 := [some (.ref 59), some (.int x0)]) (st1 := []) (mem1 := (it_sv (it_sv (it_sv m 5 (Int32.toNatClampNeg (3 : Int32)) ((m 5 (Int32.toNatClampNeg (3 : Int32))) + (1 : Int32))) 61 (Int32.toNatClampNeg ((it_sv m 5 (Int32.toNatClampNeg (3 : Int32)) ((m 5 (Int32.toNatClampNeg (3 : Int32))) + (1 : Int32))) 59 9)) (it_i2b (it_i2b x0))) 59 9 (((it_sv (it_sv m 5 (Int32.toNatClampNeg (3 : Int32)) ((m 5 (Int32.toNatClampNeg (3 : Int32))) + (1 : Int32))) 61 (Int32.toNatClampNeg ((it_sv m 5 (Int32.toNatClampNeg (3 : Int32)) ((m 5 (Int32.toNatClampNeg (3 : Int32))) + (1 : Int32))) 59 9)) (it_i2b (it_i2b x0))) 59 9) + (1 : Int32)))) rfl ?_
    refine it_V.weak (l := [none, none]) trivial ?_
    exact s_49_44 kc Φ (it_sv (it_sv (it_sv m 5 (Int32.toNatClampNeg (3 : Int32)) ((m 5 (Int32.toNatClampNeg (3 : Int32))) + (1 : Int32))) 61 (Int32.toNatClampNeg ((it_sv m 5 (Int32.toNatClampNeg (3 : Int32)) ((m 5 (Int32.toNatClampNeg (3 : Int32))) + (1 : Int32))) 59 9)) (it_i2b (it_i2b x0))) 59 9 (((it_sv (it_sv m 5 (Int32.toNatClampNeg (3 : Int32)) ((m 5 (Int32.toNatClampNeg (3 : Int32))) + (1 : Int32))) 61 (Int32.toNatClampNeg ((it_sv m 5 (Int32.toNatClampNeg (3 : Int32)) ((m 5 (Int32.toNatClampNeg (3 : Int32))) + (1 : Int32))) 59 9)) (it_i2b (it_i2b x0))) 59 9) + (1 : Int32))) h
set_option maxRecDepth 100000 in
set_option maxHeartbeats 4000000 in
theorem s_48_164 (kc : it_Kc) (Φ : it_Me → Prop) (m : it_Me) (h : w_48_164 kc Φ m) : it_V kc it_sh0 48 164 [none, none, none, none, none, none] [] m (it_Pv Φ) := by
  rw [w_48_164] at h
  exact it_V.ret it_cd48 it_m48 rfl rfl ⟨rfl, h⟩
set_option maxRecDepth 100000 in
set_option maxHeartbeats 4000000 in
theorem s_48_130 (kc : it_Kc) (Φ : it_Me → Prop) (v1 : Nat) (v2 : Int32) (v4 : Int32) (hv1 : it_isP v1) (m : it_Me) (h : w_48_130 kc Φ v1 v2 v4 m) : it_V kc it_sh0 48 130 [some (.ref 59), some (.ref v1), some (.int v2), none, some (.int v4), none] [] m (it_Pv Φ) := by
  rw [w_48_130] at h
  refine it_V.sN it_cd48 it_m48 4 (pc1 := 136) (ls1 := [some (.ref 59), some (.ref v1), some (.int v2), none, some (.int v4), none]) (st1 := [(.int (0 : Int32)), (.int v2), (.ref 1)]) (mem1 := m) rfl ?_
  refine it_V.call it_cd48 it_m48 rfl it_m13 [(.ref 1), (.int v2), (.int (0 : Int32))] [] rfl rfl ⟨Nat.le_of_ble_eq_true rfl, Nat.le_of_ble_eq_true rfl, Nat.le_of_ble_eq_true rfl, Nat.le_of_ble_eq_true rfl, rfl⟩ (s_13 kc v2 (0 : Int32) m _ h) ?_
  rintro _ m1 ⟨rfl, h⟩
  refine it_V.at (pc1 := 139) (ls1 := [some (.ref 59), some (.ref v1), some (.int v2), none, some (.int v4), none]) (st1 := []) (mem1 := m1) rfl rfl rfl rfl ?_
  refine it_V.sN it_cd48 it_m48 6 (pc1 := 147) (ls1 := [some (.ref 59), some (.ref v1), some (.int v2), none, some (.int v4), none]) (st1 := [(.int (0 : Int32)), (.int (v2 + (4 : Int32))), (.ref 1)]) (mem1 := m1) rfl ?_
  refine it_V.call it_cd48 it_m48 rfl it_m13 [(.ref 1), (.int (v2 + (4 : Int32))), (.int (0 : Int32))] [] rfl rfl ⟨Nat.le_of_ble_eq_true rfl, Nat.le_of_ble_eq_true rfl, Nat.le_of_ble_eq_true rfl, Nat.le_of_ble_eq_true rfl, rfl⟩ (s_13 kc (v2 + (4 : Int32)) (0 : Int32) m1 _ h) ?_
  rintro _ m2 ⟨rfl, h⟩
  refine it_V.at (pc1 := 150) (ls1 := [some (.ref 59), some (.ref v1), some (.int v2), none, some (.int v4), none]) (st1 := []) (mem1 := m2) rfl rfl rfl rfl ?_
  refine it_V.sN it_cd48 it_m48 8 (pc1 := 161) (ls1 := [some (.ref 59), some (.ref v1), some (.int v2), none, some (.int v4), none]) (st1 := [(.int (0 : Int32)), (.int (0 : Int32)), (.int v4), (.int (1 : Int32)), (.int (1 : Int32)), (.ref v1), (.ref 9)]) (mem1 := m2) rfl ?_
  refine it_V.call it_cd48 it_m48 rfl it_m80 [(.ref 9), (.ref v1), (.int (1 : Int32)), (.int (1 : Int32)), (.int v4), (.int (0 : Int32)), (.int (0 : Int32))] [] rfl rfl ⟨Nat.le_of_ble_eq_true rfl, Nat.le_of_ble_eq_true rfl, Nat.le_of_ble_eq_true rfl, Nat.le_of_ble_eq_true rfl, rfl⟩ (s_80 kc v1 (1 : Int32) (1 : Int32) v4 (0 : Int32) (0 : Int32) (hv1) m2 _ h) ?_
  rintro _ m3 ⟨rfl, h⟩
  refine it_V.at (pc1 := 164) (ls1 := [some (.ref 59), some (.ref v1), some (.int v2), none, some (.int v4), none]) (st1 := []) (mem1 := m3) rfl rfl rfl rfl ?_
  refine it_V.weak (l := [none, none, none, none, none, none]) trivial ?_
  exact s_48_164 kc Φ m3 h
set_option maxRecDepth 100000 in
set_option maxHeartbeats 4000000 in
theorem s_48_112 (kc : it_Kc) (Φ : it_Me → Prop) (v1 : Nat) (v2 : Int32) (v4 : Int32) (v5 : Int32) (hv1 : it_isP v1) (m : it_Me) (h : w_48_112 kc Φ v1 v2 v4 v5 m) : it_V kc it_sh0 48 112 [some (.ref 59), some (.ref v1), some (.int v2), none, some (.int v4), some (.int v5)] [] m (it_Pv Φ) := by
  rw [w_48_112] at h
  refine it_V.sN it_cd48 it_m48 2 (pc1 := (if v5 = 0 then 117 else 130)) (ls1 := [some (.ref 59), some (.ref v1), some (.int v2), none, some (.int v4), some (.int v5)]) (st1 := []) (mem1 := m) rfl ?_
  refine it_V.ite (fun c1 => ?_) (fun c1 => ?_)
  · have h := h.1 c1
    refine it_V.sN it_cd48 it_m48 4 (pc1 := 124) (ls1 := [some (.ref 59), some (.ref v1), some (.int v2), none, some (.int v4), some (.int v5)]) (st1 := [(.int v2), (.ref 1), (.int v4)]) (mem1 := m) rfl ?_
    refine it_V.call it_cd48 it_m48 rfl it_m12 [(.ref 1), (.int v2)] [(.int v4)] rfl rfl ⟨Nat.le_of_ble_eq_true rfl, Nat.le_of_ble_eq_true rfl, Nat.le_of_ble_eq_true rfl, Nat.le_of_ble_eq_true rfl, rfl⟩ (s_12 kc v2 m _ h) ?_
    rintro _ m3 ⟨r2, rfl, h⟩
    refine it_V.at (pc1 := 127) (ls1 := [some (.ref 59), some (.ref v1), some (.int v2), none, some (.int v4), some (.int v5)]) (st1 := [(.int r2), (.int v4)]) (mem1 := m3) rfl rfl rfl rfl ?_
    refine it_V.sN it_cd48 it_m48 1 (pc1 := (if v4 = r2 then 130 else 164)) (ls1 := [some (.ref 59), some (.ref v1), some (.int v2), none, some (.int v4), some (.int v5)]) (st1 := []) (mem1 := m3) rfl ?_
    refine it_V.ite (fun c4 => ?_) (fun c4 => ?_)
    · have h := h.1 c4
      refine it_V.weak (l := [some (.ref 59), some (.ref v1), some (.int v2), none, some (.int v4), none]) ⟨rfl, ⟨rfl, ⟨rfl, ⟨rfl, trivial⟩⟩⟩⟩ ?_
      exact s_48_130 kc Φ v1 v2 v4 (hv1) m3 h
    · have h := h.2 c4
      refine it_V.weak (l := [none, none, none, none, none, none]) trivial ?_
      exact s_48_164 kc Φ m3 h
  · have h := h.2 c1
    refine it_V.weak (l := [some (.ref 59), some (.ref v1), some (.int v2), none, some (.int v4), none]) ⟨rfl, ⟨rfl, ⟨rfl, ⟨rfl, trivial⟩⟩⟩⟩ ?_
    exact s_48_130 kc Φ v1 v2 v4 (hv1) m h
set_option maxRecDepth 100000 in
set_option maxHeartbeats 4000000 in
theorem s_48_68 (kc : it_Kc) (Φ : it_Me → Prop) (v1 : Nat) (v2 : Int32) (v3 : Int32) (v4 : Int32) (u0 : Int32) (hv1 : it_isP v1) (m : it_Me) (h : w_48_68 kc Φ v1 v2 v3 v4 u0 m) : it_V kc it_sh0 48 68 [some (.ref 59), some (.ref v1), some (.int v2), some (.int v3), some (.int v4), none] [(.int u0)] m (it_Pv Φ) := by
  rw [w_48_68] at h
  refine it_V.sN it_cd48 it_m48 3 (pc1 := (if u0 = 0 then 75 else 112)) (ls1 := [some (.ref 59), some (.ref v1), some (.int v2), some (.int v3), some (.int v4), some (.int u0)]) (st1 := []) (mem1 := m) rfl ?_
  refine it_V.ite (fun c1 => ?_) (fun c1 => ?_)
  · have h := h.1 c1
    refine it_V.sN it_cd48 it_m48 6 (pc1 := 85) (ls1 := [some (.ref 59), some (.ref v1), some (.int v2), some (.int v3), some (.int v4), some (.int u0)]) (st1 := [(.int v3), (.ref 1), (.ref 1), (.ref 59)]) (mem1 := m) rfl ?_
    refine it_V.call it_cd48 it_m48 rfl it_m12 [(.ref 1), (.int v3)] [(.ref 1), (.ref 59)] rfl rfl ⟨Nat.le_of_ble_eq_true rfl, Nat.le_of_ble_eq_true rfl, Nat.le_of_ble_eq_true rfl, Nat.le_of_ble_eq_true rfl, rfl⟩ (s_12 kc v3 m _ h) ?_
    rintro _ m3 ⟨r2, rfl, h⟩
    refine it_V.at (pc1 := 88) (ls1 := [some (.ref 59), some (.ref v1), some (.int v2), some (.int v3), some (.int v4), some (.int u0)]) (st1 := [(.int r2), (.ref 1), (.ref 59)]) (mem1 := m3) rfl rfl rfl rfl ?_
    refine it_V.sN it_cd48 it_m48 2 (pc1 := 91) (ls1 := [some (.ref 59), some (.ref v1), some (.int v2), some (.int v3), some (.int v4), some (.int u0)]) (st1 := [(.int (r2 + v4)), (.ref 1), (.ref 59)]) (mem1 := m3) rfl ?_
    refine it_V.call it_cd48 it_m48 rfl it_m16 [(.ref 1), (.int (r2 + v4))] [(.ref 59)] rfl rfl ⟨Nat.le_of_ble_eq_true rfl, Nat.le_of_ble_eq_true rfl, Nat.le_of_ble_eq_true rfl, Nat.le_of_ble_eq_true rfl, rfl⟩ (s_16 kc (r2 + v4) m3 _ h) ?_
    rintro _ m5 ⟨r4, rfl, h⟩
    refine it_V.at (pc1 := 94) (ls1 := [some (.ref 59), some (.ref v1), some (.int v2), some (.int v3), some (.int v4), some (.int u0)]) (st1 := [(.int r4), (.ref 59)]) (mem1 := m5) rfl rfl rfl rfl ?_
    refine it_V.call it_cd48 it_m48 rfl it_m49 [(.ref 59), (.int r4)] [] rfl rfl ⟨Nat.le_of_ble_eq_true rfl, Nat.le_of_ble_eq_true rfl, Nat.le_of_ble_eq_true rfl, Nat.le_of_ble_eq_true rfl, rfl⟩ (s_49 kc r4 m5 _ h) ?_
    rintro _ m6 ⟨rfl, h⟩
    refine it_V.at (pc1 := 97) (ls1 := [some (.ref 59), some (.ref v1), some (.int v2), some (.int v3), some (.int v4), some (.int u0)]) (st1 := []) (mem1 := m6) rfl rfl rfl rfl ?_
    refine it_V.sN it_cd48 it_m48 7 (pc1 := 109) (ls1 := [some (.ref 59), some (.ref v1), some (.int v2), some (.int v3), some (.int (v4 + (1 : Int32))), some (.int u0)]) (st1 := [(.int (v4 + (1 : Int32))), (.int (v2 + (4 : Int32))), (.ref 1)]) (mem1 := m6) rfl ?_
    refine it_V.call it_cd48 it_m48 rfl it_m13 [(.ref 1), (.int (v2 + (4 : Int32))), (.int (v4 + (1 : Int32)))] [] rfl rfl ⟨Nat.le_of_ble_eq_true rfl, Nat.le_of_ble_eq_true rfl, Nat.le_of_ble_eq_true rfl, Nat.le_of_ble_eq_true rfl, rfl⟩ (s_13 kc (v2 + (4 : Int32)) (v4 + (1 : Int32)) m6 _ h) ?_
    rintro _ m7 ⟨rfl, h⟩
    refine it_V.at (pc1 := 112) (ls1 := [some (.ref 59), some (.ref v1), some (.int v2), some (.int v3), some (.int (v4 + (1 : Int32))), some (.int u0)]) (st1 := []) (mem1 := m7) rfl rfl rfl rfl ?_
    refine it_V.weak (l := [some (.ref 59), some (.ref v1), some (.int v2), none, some (.int (v4 + (1 : Int32))), some (.int u0)]) ⟨rfl, ⟨rfl, ⟨rfl, ⟨rfl, ⟨rfl, trivial⟩⟩⟩⟩⟩ ?_
    exact s_48_112 kc Φ v1 v2 (v4 + (1 : Int32)) u0 (hv1) m7 h
  · have h := h.2 c1
    refine it_V.weak (l := [some (.ref 59), some (.ref v1), some (.int v2), none, some (.int v4), some (.int u0)]) ⟨rfl, ⟨rfl, ⟨rfl, ⟨rfl, ⟨rfl, trivial⟩⟩⟩⟩⟩ ?_
    exact s_48_112 kc Φ v1 v2 v4 u0 (hv1) m h
set_option maxRecDepth 100000 in
set_option maxHeartbeats 4000000 in
theorem s_48 (kc : it_Kc) (m : it_Me) (Φ : it_Me → Prop) (h : w_48 kc m Φ) : it_V kc it_sh0 48 0 (it_loc0 [(.ref 59)] 6) [] m (it_Pv Φ) := by
  rw [w_48] at h
  refine it_V.at (pc1 := 0) (ls1 := [some (.ref 59), none, none, none, none, none]) (st1 := []) (mem1 := m) rfl rfl rfl rfl ?_
  refine it_V.sN it_cd48 it_m48 4 (pc1 := 6) (ls1 := [some (.ref 59), none, none, none, none, none]) (st1 := [(.ref 62), (.int (0 : Int32)), (.ref 59)]) (mem1 := m) rfl ?_
  refine it_V.call it_cd48 it_m48 rfl it_m47 [(.ref 59), (.int (0 : Int32)), (.ref 62)] [] rfl rfl ⟨Nat.le_of_ble_eq_true rfl, Nat.le_of_ble_eq_true rfl, Nat.le_of_ble_eq_true rfl, Nat.le_of_ble_eq_true rfl, rfl⟩ (s_47 kc (0 : Int32) 62 ((⟨rfl, by decide⟩ : it_isR 62 8)) m _ h) ?_
  rintro _ m2 ⟨r1, rfl, hr1, h⟩
  rcases r1 with _ | q3
  · skip
    refine it_V.at (pc1 := 9) (ls1 := [some (.ref 59), none, none, none, none, none]) (st1 := [.null]) (mem1 := m2) rfl rfl rfl rfl ?_
    have h := h.1 rfl
    refine it_V.sN it_cd48 it_m48 3 (pc1 := 14) (ls1 := [some (.ref 59), some .null, none, none, none, none]) (st1 := []) (mem1 := m2) rfl ?_
    exact it_V.ret it_cd48 it_m48 rfl rfl ⟨rfl, h⟩
  · skip
    refine it_V.at (pc1 := 9) (ls1 := [some (.ref 59), none, none, none, none, none]) (st1 := [(.ref q3)]) (mem1 := m2) rfl rfl rfl rfl ?_
    have h := h.2 q3 rfl
    refine it_V.sN it_cd48 it_m48 7 (pc1 := 21) (ls1 := [some (.ref 59), some (.ref q3), none, none, none, none]) (st1 := [(.int (1 : Int32)), (.ref q3), (.ref 9)]) (mem1 := m2) rfl ?_
    refine it_V.call it_cd48 it_m48 rfl it_m90 [(.ref 9), (.ref q3), (.int (1 : Int32))] [] rfl rfl ⟨Nat.le_of_ble_eq_true rfl, Nat.le_of_ble_eq_true rfl, Nat.le_of_ble_eq_true rfl, Nat.le_of_ble_eq_true rfl, rfl⟩ (s_90 kc q3 (1 : Int32) (hr1 q3 rfl) m2 _ h) ?_
    rintro _ m5 ⟨r4, rfl, h⟩
    refine it_V.at (pc1 := 24) (ls1 := [some (.ref 59), some (.ref q3), none, none, none, none]) (st1 := [(.int r4)]) (mem1 := m5) rfl rfl rfl rfl ?_
    refine it_V.sN it_cd48 it_m48 6 (pc1 := 32) (ls1 := [some (.ref 59), some (.ref q3), some (.int r4), none, none, none]) (st1 := [(.int (1 : Int32)), (.int (1 : Int32)), (.ref q3), (.ref 9)]) (mem1 := m5) rfl ?_
    refine it_V.call it_cd48 it_m48 rfl it_m88 [(.ref 9), (.ref q3), (.int (1 : Int32)), (.int (1 : Int32))] [] rfl rfl ⟨Nat.le_of_ble_eq_true rfl, Nat.le_of_ble_eq_true rfl, Nat.le_of_ble_eq_true rfl, Nat.le_of_ble_eq_true rfl, rfl⟩ (s_88 kc q3 (1 : Int32) (1 : Int32) (hr1 q3 rfl) m5 _ h) ?_
    rintro _ m7 ⟨r6, rfl, h⟩
    refine it_V.at (pc1 := 35) (ls1 := [some (.ref 59), some (.ref q3), some (.int r4), none, none, none]) (st1 := [(.int r6)]) (mem1 := m7) rfl rfl rfl rfl ?_
    refine it_V.sN it_cd48 it_m48 6 (pc1 := 43) (ls1 := [some (.ref 59), some (.ref q3), some (.int r4), some (.int r6), none, none]) (st1 := [(.int (r4 + (4 : Int32))), (.ref 1)]) (mem1 := m7) rfl ?_
    refine it_V.call it_cd48 it_m48 rfl it_m12 [(.ref 1), (.int (r4 + (4 : Int32)))] [] rfl rfl ⟨Nat.le_of_ble_eq_true rfl, Nat.le_of_ble_eq_true rfl, Nat.le_of_ble_eq_true rfl, Nat.le_of_ble_eq_true rfl, rfl⟩ (s_12 kc (r4 + (4 : Int32)) m7 _ h) ?_
    rintro _ m9 ⟨r8, rfl, h⟩
    refine it_V.at (pc1 := 46) (ls1 := [some (.ref 59), some (.ref q3), some (.int r4), some (.int r6), none, none]) (st1 := [(.int r8)]) (mem1 := m9) rfl rfl rfl rfl ?_
    refine it_V.sN it_cd48 it_m48 7 (pc1 := 57) (ls1 := [some (.ref 59), some (.ref q3), some (.int r4), some (.int r6), some (.int r8), none]) (st1 := [(.int (r6 + (4 : Int32))), (.ref 1), (.int r8)]) (mem1 := m9) rfl ?_
    refine it_V.call it_cd48 it_m48 rfl it_m12 [(.ref 1), (.int (r6 + (4 : Int32)))] [(.int r8)] rfl rfl ⟨Nat.le_of_ble_eq_true rfl, Nat.le_of_ble_eq_true rfl, Nat.le_of_ble_eq_true rfl, Nat.le_of_ble_eq_true rfl, rfl⟩ (s_12 kc (r6 + (4 : Int32)) m9 _ h) ?_
    rintro _ m11 ⟨r10, rfl, h⟩
    refine it_V.at (pc1 := 60) (ls1 := [some (.ref 59), some (.ref q3), some (.int r4), some (.int r6), some (.int r8), none]) (st1 := [(.int r10), (.int r8)]) (mem1 := m11) rfl rfl rfl rfl ?_
    refine it_V.sN it_cd48 it_m48 1 (pc1 := (if r8 < r10 then 67 else 63)) (ls1 := [some (.ref 59), some (.ref q3), some (.int r4), some (.int r6), some (.int r8), none]) (st1 := []) (mem1 := m11) rfl ?_
    refine it_V.ite (fun c12 => ?_) (fun c12 => ?_)
    · have h := h.1 c12
      refine it_V.sN it_cd48 it_m48 1 (pc1 := 68) (ls1 := [some (.ref 59), some (.ref q3), some (.int r4), some (.int r6), some (.int r8), none]) (st1 := [(.int (0 : Int32))]) (mem1 := m11) rfl ?_
      exact s_48_68 kc Φ q3 r4 r6 r8 (0 : Int32) (hr1 q3 rfl) m11 h
    · have h := h.2 c12
      refine it_V.sN it_cd48 it_m48 2 (pc1 := 68) (ls1 := [some (.ref 59), some (.ref q3), some (.int r4), some (.int r6), some (.int r8), none]) (st1 := [(.int (1 : Int32))]) (mem1 := m11) rfl ?_
      exact s_48_68 kc Φ q3 r4 r6 r8 (1 : Int32) (hr1 q3 rfl) m11 h
set_option maxRecDepth 100000 in
set_option maxHeartbeats 4000000 in
theorem s_62_89 (kc : it_Kc) (Φ : it_Me → Prop) (m : it_Me) (h : w_62_89 kc Φ m) : it_V kc it_sh0 62 89 [none, none, none, none] [] m (it_Pv Φ) := by
  rw [w_62_89] at h
  exact it_V.ret it_cd62 it_m62 rfl rfl ⟨rfl, h⟩
set_option maxRecDepth 100000 in
set_option maxHeartbeats 4000000 in
theorem s_62 (kc : it_Kc) (x0 : Nat) (x1 : Int32) (hx0 : it_isP x0) (m : it_Me) (Φ : it_Me → Prop) (h : w_62 kc x0 x1 m Φ) : it_V kc it_sh0 62 0 (it_loc0 [(.ref 59), (.ref x0), (.int x1)] 4) [] m (it_Pv Φ) := by
  rw [w_62] at h
  refine it_V.at (pc1 := 0) (ls1 := [some (.ref 59), some (.ref x0), some (.int x1), none]) (st1 := []) (mem1 := m) rfl rfl rfl rfl ?_
  refine it_V.sN it_cd62 it_m62 3 (pc1 := 5) (ls1 := [some (.ref 59), some (.ref x0), some (.int x1), none]) (st1 := [(.int x1), (.ref 1)]) (mem1 := m) rfl ?_
  refine it_V.call it_cd62 it_m62 rfl it_m12 [(.ref 1), (.int x1)] [] rfl rfl ⟨Nat.le_of_ble_eq_true rfl, Nat.le_of_ble_eq_true rfl, Nat.le_of_ble_eq_true rfl, Nat.le_of_ble_eq_true rfl, rfl⟩ (s_12 kc x1 m _ h) ?_
  rintro _ m2 ⟨r1, rfl, h⟩
  refine it_V.at (pc1 := 8) (ls1 := [some (.ref 59), some (.ref x0), some (.int x1), none]) (st1 := [(.int r1)]) (mem1 := m2) rfl rfl rfl rfl ?_
  refine it_V.sN it_cd62 it_m62 5 (pc1 := (if (r1 - (1 : Int32)) < 0 then 89 else 15)) (ls1 := [some (.ref 59), some (.ref x0), some (.int x1), some (.int (r1 - (1 : Int32)))]) (st1 := []) (mem1 := m2) rfl ?_
  refine it_V.ite (fun c3 => ?_) (fun c3 => ?_)
  · have h := h.1 c3
    refine it_V.weak (l := [none, none, none, none]) trivial ?_
    exact s_62_89 kc Φ m2 h
  · have h := h.2 c3
    refine it_V.sN it_cd62 it_m62 3 (pc1 := (if (1 : Int32) < (r1 - (1 : Int32)) then 89 else 20)) (ls1 := [some (.ref 59), some (.ref x0), some (.int x1), some (.int (r1 - (1 : Int32)))]) (st1 := []) (mem1 := m2) rfl ?_
    refine it_V.ite (fun c4 => ?_) (fun c4 => ?_)
    · have h := h.1 c4
      refine it_V.weak (l := [none, none, none, none]) trivial ?_
      exact s_62_89 kc Φ m2 h
    · have h := h.2 c4
      refine it_V.sN it_cd62 it_m62 5 (pc1 := 28) (ls1 := [some (.ref 59), some (.ref x0), some (.int x1), some (.int (r1 - (1 : Int32)))]) (st1 := [(.int (x1 + (8 : Int32))), (.ref 1)]) (mem1 := m2) rfl ?_
      refine it_V.call it_cd62 it_m62 rfl it_m12 [(.ref 1), (.int (x1 + (8 : Int32)))] [] rfl rfl ⟨Nat.le_of_ble_eq_true rfl, Nat.le_of_ble_eq_true rfl, Nat.le_of_ble_eq_true rfl, Nat.le_of_ble_eq_true rfl, rfl⟩ (s_12 kc (x1 + (8 : Int32)) m2 _ h) ?_
      rintro _ m6 ⟨r5, rfl, h⟩
      refine it_V.at (pc1 := 31) (ls1 := [some (.ref 59), some (.ref x0), some (.int x1), some (.int (r1 - (1 : Int32)))]) (st1 := [(.int r5)]) (mem1 := m6) rfl rfl rfl rfl ?_
      refine it_V.sN it_cd62 it_m62 4 (pc1 := (if r5 = (m6 4 0) then 41 else 89)) (ls1 := [some (.ref 59), some (.ref x0), some (.int x1), some (.int (r1 - (1 : Int32)))]) (st1 := []) (mem1 := m6) rfl ?_
      refine it_V.ite (fun c7 => ?_) (fun c7 => ?_)
      · have h := h.1 c7
        refine it_V.sN it_cd62 it_m62 13 (pc1 := 63) (ls1 := [some (.ref 59), some (.ref x0), some (.int x1), some (.int (r1 - (1 : Int32)))]) (st1 := [(.int (x1 + (4 : Int32))), (.ref 1), (.int (m6 4 0)), (.int (x1 + (8 : Int32))), (.ref 1)]) (mem1 := m6) rfl ?_
        refine it_V.call it_cd62 it_m62 rfl it_m12 [(.ref 1), (.int (x1 + (4 : Int32)))] [(.int (m6 4 0)), (.int (x1 + (8 : Int32))), (.ref 1)] rfl rfl ⟨Nat.le_of_ble_eq_true rfl, Nat.le_of_ble_eq_true rfl, Nat.le_of_ble_eq_true rfl, Nat.le_of_ble_eq_true rfl, rfl⟩ (s_12 kc (x1 + (4 : Int32)) m6 _ h) ?_
        rintro _ m9 ⟨r8, rfl, h⟩
        refine it_V.at (pc1 := 66) (ls1 := [some (.ref 59), some (.ref x0), some (.int x1), some (.int (r1 - (1 : Int32)))]) (st1 := [(.int r8), (.int (m6 4 0)), (.int (x1 + (8 : Int32))), (.ref 1)]) (mem1 := m9) rfl rfl rfl rfl ?_
        refine it_V.sN it_cd62 it_m62 1 (pc1 := 67) (ls1 := [some (.ref 59), some (.ref x0), some (.int x1), some (.int (r1 - (1 : Int32)))]) (st1 := [(.int ((m6 4 0) + r8)), (.int (x1 + (8 : Int32))), (.ref 1)]) (mem1 := m9) rfl ?_
        refine it_V.call it_cd62 it_m62 rfl it_m13 [(.ref 1), (.int (x1 + (8 : Int32))), (.int ((m6 4 0) + r8))] [] rfl rfl ⟨Nat.le_of_ble_eq_true rfl, Nat.le_of_ble_eq_true rfl, Nat.le_of_ble_eq_true rfl, Nat.le_of_ble_eq_true rfl, rfl⟩ (s_13 kc (x1 + (8 : Int32)) ((m6 4 0) + r8) m9 _ h) ?_
        rintro _ m10 ⟨rfl, h⟩
        refine it_V.at (pc1 := 70) (ls1 := [some (.ref 59), some (.ref x0), some (.int x1), some (.int (r1 - (1 : Int32)))]) (st1 := []) (mem1 := m10) rfl rfl rfl rfl ?_
        refine it_V.sN it_cd62 it_m62 9 (pc1 := 84) (ls1 := [some (.ref 59), some (.ref x0), some (.int x1), some (.int (r1 - (1 : Int32)))]) (st1 := [(.int (r1 - (1 : Int32))), (.ref 60), (.int (r1 - (1 : Int32))), (.int (0 : Int32)), (.int (6 : Int32)), (.ref x0), (.ref 9)]) (mem1 := m10) rfl ?_
        obtain ⟨g11, h⟩ := h
        refine it_V.iald it_cd62 it_m62 rfl ((⟨rfl, by decide⟩ : it_isR 60 2)).2 ((⟨rfl, by decide⟩ : it_isR 60 2)).1 g11 ?_
        refine it_V.at (pc1 := 85) (ls1 := [some (.ref 59), some (.ref x0), some (.int x1), some (.int (r1 - (1 : Int32)))]) (st1 := [(.int (m10 60 (Int32.toNatClampNeg (r1 - (1 : Int32))))), (.int (r1 - (1 : Int32))), (.int (0 : Int32)), (.int (6 : Int32)), (.ref x0), (.ref 9)]) (mem1 := m10) rfl rfl rfl rfl ?_
        refine it_V.sN it_cd62 it_m62 1 (pc1 := 86) (ls1 := [some (.ref 59), some (.ref x0), some (.int x1), some (.int (r1 - (1 : Int32)))]) (st1 := [(.int (0 : Int32)), (.int (m10 60 (Int32.toNatClampNeg (r1 - (1 : Int32))))), (.int (r1 - (1 : Int32))), (.int (0 : Int32)), (.int (6 : Int32)), (.ref x0), (.ref 9)]) (mem1 := m10) rfl ?_
        refine it_V.call it_cd62 it_m62 rfl it_m80 [(.ref 9), (.ref x0), (.int (6 : Int32)), (.int (0 : Int32)), (.int (r1 - (1 : Int32))), (.int (m10 60 (Int32.toNatClampNeg (r1 - (1 : Int32))))), (.int (0 : Int32))] [] rfl rfl ⟨Nat.le_of_ble_eq_true rfl, Nat.le_of_ble_eq_true rfl, Nat.le_of_ble_eq_true rfl, Nat.le_of_ble_eq_true rfl, rfl⟩ (s_80 kc x0 (6 : Int32) (0 : Int32) (r1 - (1 : Int32)) (m10 60 (Int32.toNatClampNeg (r1 - (1 : Int32)))) (0 : Int32) (hx0) m10 _ h) ?_
        rintro _ m12 ⟨rfl, h⟩
        refine it_V.at (pc1 := 89) (ls1 := [some (.ref 59), some (.ref x0), some (.int x1), some (.int (r1 - (1 : Int32)))]) (st1 := []) (mem1 := m12) rfl rfl rfl rfl ?_
        refine it_V.weak (l := [none, none, none, none]) trivial ?_
        exact s_62_89 kc Φ m12 h
      · have h := h.2 c7
        refine it_V.weak (l := [none, none, none, none]) trivial ?_
        exact s_62_89 kc Φ m6 h
set_option maxRecDepth 100000 in
set_option maxHeartbeats 4000000 in
theorem s_61_48 (kc : it_Kc) (Φ : it_Me → Prop) (K2 : Int32 → it_Me → Prop) (K54 : it_Me → Prop) (hK2 : ∀ (v1 : Int32) (m : it_Me), K2 v1 m → it_V kc it_sh0 61 2 [some (.ref 59), some (.int v1), none] [] m (it_Pv Φ)) (hK54 : ∀ (m : it_Me), K54 m → it_V kc it_sh0 61 54 [none, none, none] [] m (it_Pv Φ)) (v1 : Int32) (m : it_Me) (h : w_61_48 kc Φ K2 K54 v1 m) : it_V kc it_sh0 61 48 [some (.ref 59), some (.int v1), none] [] m (it_Pv Φ) := by
  rw [w_61_48] at h
  refine it_V.sN it_cd61 it_m61 2 (pc1 := 2) (ls1 := [some (.ref 59), some (.int (v1 + (1 : Int32))), none]) (st1 := []) (mem1 := m) rfl ?_
  refine it_V.weak (l := [some (.ref 59), some (.int (v1 + (1 : Int32))), none]) ⟨rfl, ⟨rfl, trivial⟩⟩ ?_
  exact hK2 (v1 + (1 : Int32)) m h
set_option maxRecDepth 100000 in
set_option maxHeartbeats 4000000 in
theorem s_61_2 (kc : it_Kc) (Φ : it_Me → Prop) (K54 : it_Me → Prop) (hK54 : ∀ (m : it_Me), K54 m → it_V kc it_sh0 61 54 [none, none, none] [] m (it_Pv Φ)) : ∀ (n : Nat) (v1 : Int32) (m : it_Me) (h : w_61_2 kc Φ K54 n v1 m), it_V kc it_sh0 61 2 [some (.ref 59), some (.int v1), none] [] m (it_Pv Φ) := by
  intro n
  induction n with
  | zero => intro v1 m h; exact absurd h id
  | succ n ih =>
    intro v1 m h
    rw [w_61_2] at h
    refine it_V.sN it_cd61 it_m61 5 (pc1 := (if (m 9 7) ≤ v1 then 54 else 13)) (ls1 := [some (.ref 59), some (.int v1), none]) (st1 := []) (mem1 := m) rfl ?_
    refine it_V.ite (fun c1 => ?_) (fun c1 => ?_)
    · have h := h.1 c1
      refine it_V.weak (l := [none, none, none]) trivial ?_
      exact hK54 m h
    · have h := h.2 c1
      refine it_V.sN it_cd61 it_m61 4 (pc1 := 21) (ls1 := [some (.ref 59), some (.int v1), none]) (st1 := [(.int v1), (.ref 10)]) (mem1 := m) rfl ?_
      obtain ⟨g2, h⟩ := h
      refine it_V.aald it_cd61 it_m61 rfl g2 ?_
      refine it_V.at (pc1 := 22) (ls1 := [some (.ref 59), some (.int v1), none]) (st1 := [(.ref (14 + 5 * Int32.toNatClampNeg v1))]) (mem1 := m) rfl rfl rfl rfl ?_
      refine it_V.sN it_cd61 it_m61 2 (pc1 := 24) (ls1 := [some (.ref 59), some (.int v1), some (.ref (14 + 5 * Int32.toNatClampNeg v1))]) (st1 := [(.ref (14 + 5 * Int32.toNatClampNeg v1))]) (mem1 := m) rfl ?_
      refine it_V.getP it_cd61 it_m61 rfl (it_isP_of g2).1 rfl ?_
      refine it_V.at (pc1 := 27) (ls1 := [some (.ref 59), some (.int v1), some (.ref (14 + 5 * Int32.toNatClampNeg v1))]) (st1 := [(.ref ((14 + 5 * Int32.toNatClampNeg v1) + 4))]) (mem1 := m) rfl rfl rfl rfl ?_
      refine it_V.sN it_cd61 it_m61 1 (pc1 := 29) (ls1 := [some (.ref 59), some (.int v1), some (.ref (14 + 5 * Int32.toNatClampNeg v1))]) (st1 := [(.int (6 : Int32)), (.ref ((14 + 5 * Int32.toNatClampNeg v1) + 4))]) (mem1 := m) rfl ?_
      obtain ⟨g3, h⟩ := h
      refine it_V.iald it_cd61 it_m61 rfl ((it_isP_of g2).2.2.2.2).2 ((it_isP_of g2).2.2.2.2).1 g3 ?_
      refine it_V.at (pc1 := 30) (ls1 := [some (.ref 59), some (.int v1), some (.ref (14 + 5 * Int32.toNatClampNeg v1))]) (st1 := [(.int (m ((14 + 5 * Int32.toNatClampNeg v1) + 4) (Int32.toNatClampNeg (6 : Int32))))]) (mem1 := m) rfl rfl rfl rfl ?_
      refine it_V.sN it_cd61 it_m61 1 (pc1 := (if (m ((14 + 5 * Int32.toNatClampNeg v1) + 4) (Int32.toNatClampNeg (6 : Int32))) = 0 then 48 else 33)) (ls1 := [some (.ref 59), some (.int v1), some (.ref (14 + 5 * Int32.toNatClampNeg v1))]) (st1 := []) (mem1 := m) rfl ?_
      refine it_V.ite (fun c4 => ?_) (fun c4 => ?_)
      · have h := h.1 c4
        refine it_V.weak (l := [some (.ref 59), some (.int v1), none]) ⟨rfl, ⟨rfl, trivial⟩⟩ ?_
        exact s_61_48 kc Φ _ _ ih hK54 v1 m h
      · have h := h.2 c4
        refine it_V.sN it_cd61 it_m61 6 (pc1 := 42) (ls1 := [some (.ref 59), some (.int v1), some (.ref (14 + 5 * Int32.toNatClampNeg v1))]) (st1 := [(.int (6 : Int32)), (.ref (14 + 5 * Int32.toNatClampNeg v1)), (.ref 9), (.ref (14 + 5 * Int32.toNatClampNeg v1)), (.ref 59)]) (mem1 := m) rfl ?_
        refine it_V.call it_cd61 it_m61 rfl it_m90 [(.ref 9), (.ref (14 + 5 * Int32.toNatClampNeg v1)), (.int (6 : Int32))] [(.ref (14 + 5 * Int32.toNatClampNeg v1)), (.ref 59)] rfl rfl ⟨Nat.le_of_ble_eq_true rfl, Nat.le_of_ble_eq_true rfl, Nat.le_of_ble_eq_true rfl, Nat.le_of_ble_eq_true rfl, rfl⟩ (s_90 kc (14 + 5 * Int32.toNatClampNeg v1) (6 : Int32) (it_isP_of g2) m _ h) ?_
        rintro _ m6 ⟨r5, rfl, h⟩
        refine it_V.at (pc1 := 45) (ls1 := [some (.ref 59), some (.int v1), some (.ref (14 + 5 * Int32.toNatClampNeg v1))]) (st1 := [(.int r5), (.ref (14 + 5 * Int32.toNatClampNeg v1)), (.ref 59)]) (mem1 := m6) rfl rfl rfl rfl ?_
        refine it_V.call it_cd61 it_m61 rfl it_m62 [(.ref 59), (.ref (14 + 5 * Int32.toNatClampNeg v1)), (.int r5)] [] rfl rfl ⟨Nat.le_of_ble_eq_true rfl, Nat.le_of_ble_eq_true rfl, Nat.le_of_ble_eq_true rfl, Nat.le_of_ble_eq_true rfl, rfl⟩ (s_62 kc (14 + 5 * Int32.toNatClampNeg v1) r5 (it_isP_of g2) m6 _ h) ?_
        rintro _ m7 ⟨rfl, h⟩
        refine it_V.at (pc1 := 48) (ls1 := [some (.ref 59), some (.int v1), some (.ref (14 + 5 * Int32.toNatClampNeg v1))]) (st1 := []) (mem1 := m7) rfl rfl rfl rfl ?_
        refine it_V.weak (l := [some (.ref 59), some (.int v1), none]) ⟨rfl, ⟨rfl, trivial⟩⟩ ?_
        exact s_61_48 kc Φ _ _ ih hK54 v1 m7 h
set_option maxRecDepth 100000 in
set_option maxHeartbeats 4000000 in
theorem s_61_54 (kc : it_Kc) (Φ : it_Me → Prop) (m : it_Me) (h : w_61_54 kc Φ m) : it_V kc it_sh0 61 54 [none, none, none] [] m (it_Pv Φ) := by
  rw [w_61_54] at h
  exact it_V.ret it_cd61 it_m61 rfl rfl ⟨rfl, h⟩
set_option maxRecDepth 100000 in
set_option maxHeartbeats 4000000 in
theorem s_61 (kc : it_Kc) (m : it_Me) (Φ : it_Me → Prop) (h : w_61 kc m Φ) : it_V kc it_sh0 61 0 (it_loc0 [(.ref 59)] 3) [] m (it_Pv Φ) := by
  rw [w_61] at h
  refine it_V.at (pc1 := 0) (ls1 := [some (.ref 59), none, none]) (st1 := []) (mem1 := m) rfl rfl rfl rfl ?_
  refine it_V.sN it_cd61 it_m61 2 (pc1 := 2) (ls1 := [some (.ref 59), some (.int (0 : Int32)), none]) (st1 := []) (mem1 := m) rfl ?_
  obtain ⟨n, h⟩ := h
  exact s_61_2 kc Φ _ (fun m h => s_61_54 kc Φ m h) n (0 : Int32) m h
set_option maxRecDepth 100000 in
set_option maxHeartbeats 4000000 in
theorem s_39_21 (kc : it_Kc) (Φ : it_Me → Prop) (m : it_Me) (h : w_39_21 kc Φ m) : it_V kc it_sh0 39 21 [some (.ref 59)] [] m (it_Pv Φ) := by
  rw [w_39_21] at h
  refine it_V.sN it_cd39 it_m39 1 (pc1 := 22) (ls1 := [some (.ref 59)]) (st1 := [(.ref 59)]) (mem1 := m) rfl ?_
  refine it_V.call it_cd39 it_m39 rfl it_m61 [(.ref 59)] [] rfl rfl ⟨Nat.le_of_ble_eq_true rfl, Nat.le_of_ble_eq_true rfl, Nat.le_of_ble_eq_true rfl, Nat.le_of_ble_eq_true rfl, rfl⟩ (s_61 kc m _ h) ?_
  rintro _ m1 ⟨rfl, h⟩
  refine it_V.at (pc1 := 25) (ls1 := [some (.ref 59)]) (st1 := []) (mem1 := m1) rfl rfl rfl rfl ?_
  exact it_V.ret it_cd39 it_m39 rfl rfl ⟨rfl, h⟩
set_option maxRecDepth 100000 in
set_option maxHeartbeats 4000000 in
theorem s_39 (kc : it_Kc) (m : it_Me) (Φ : it_Me → Prop) (h : w_39 kc m Φ) : it_V kc it_sh0 39 0 (it_loc0 [(.ref 59)] 1) [] m (it_Pv Φ) := by
  rw [w_39] at h
  refine it_V.at (pc1 := 0) (ls1 := [some (.ref 59)]) (st1 := []) (mem1 := m) rfl rfl rfl rfl ?_
  refine it_V.sN it_cd39 it_m39 1 (pc1 := 1) (ls1 := [some (.ref 59)]) (st1 := [(.ref 59)]) (mem1 := m) rfl ?_
  refine it_V.call it_cd39 it_m39 rfl it_m40 [(.ref 59)] [] rfl rfl ⟨Nat.le_of_ble_eq_true rfl, Nat.le_of_ble_eq_true rfl, Nat.le_of_ble_eq_true rfl, Nat.le_of_ble_eq_true rfl, rfl⟩ (s_40 kc m _ h) ?_
  rintro _ m1 ⟨rfl, h⟩
  refine it_V.at (pc1 := 4) (ls1 := [some (.ref 59)]) (st1 := []) (mem1 := m1) rfl rfl rfl rfl ?_
  refine it_V.sN it_cd39 it_m39 6 (pc1 := (if ((m1 4 0) &&& (7 : Int32)) = 0 then 17 else 21)) (ls1 := [some (.ref 59)]) (st1 := []) (mem1 := m1) rfl ?_
  refine it_V.ite (fun c2 => ?_) (fun c2 => ?_)
  · have h := h.1 c2
    refine it_V.sN it_cd39 it_m39 1 (pc1 := 18) (ls1 := [some (.ref 59)]) (st1 := [(.ref 59)]) (mem1 := m1) rfl ?_
    refine it_V.call it_cd39 it_m39 rfl it_m48 [(.ref 59)] [] rfl rfl ⟨Nat.le_of_ble_eq_true rfl, Nat.le_of_ble_eq_true rfl, Nat.le_of_ble_eq_true rfl, Nat.le_of_ble_eq_true rfl, rfl⟩ (s_48 kc m1 _ h) ?_
    rintro _ m3 ⟨rfl, h⟩
    refine it_V.at (pc1 := 21) (ls1 := [some (.ref 59)]) (st1 := []) (mem1 := m3) rfl rfl rfl rfl ?_
    exact s_39_21 kc Φ m3 h
  · have h := h.2 c2
    exact s_39_21 kc Φ m1 h
set_option maxRecDepth 100000 in
set_option maxHeartbeats 4000000 in
theorem s_50_141 (kc : it_Kc) (Φ : Int32 → it_Me → Prop) (v6 : Int32) (m : it_Me) (h : w_50_141 kc Φ v6 m) : it_V kc it_sh0 50 141 [none, none, none, none, none, none, some (.int v6)] [] m (it_Pi Φ) := by
  rw [w_50_141] at h
  refine it_V.sN it_cd50 it_m50 1 (pc1 := 143) (ls1 := [none, none, none, none, none, none, some (.int v6)]) (st1 := [(.int v6)]) (mem1 := m) rfl ?_
  exact it_V.retZ it_cd50 it_m50 rfl rfl h.1 ⟨_, rfl, h.2⟩
set_option maxRecDepth 100000 in
set_option maxHeartbeats 4000000 in
theorem s_50_134 (kc : it_Kc) (Φ : Int32 → it_Me → Prop) (v2 : Nat) (v3 : Int32) (v6 : Int32) (hv2 : it_isP v2) (m : it_Me) (h : w_50_134 kc Φ v2 v3 v6 m) : it_V kc it_sh0 50 134 [some (.ref 59), none, some (.ref v2), some (.int v3), none, none, some (.int v6)] [] m (it_Pi Φ) := by
  rw [w_50_134] at h
  refine it_V.sN it_cd50 it_m50 4 (pc1 := 138) (ls1 := [some (.ref 59), none, some (.ref v2), some (.int v3), none, none, some (.int v6)]) (st1 := [(.int (0 : Int32)), (.int v3), (.ref v2), (.ref 59)]) (mem1 := m) rfl ?_
  refine it_V.call it_cd50 it_m50 rfl it_m51 [(.ref 59), (.ref v2), (.int v3), (.int (0 : Int32))] [] rfl rfl ⟨Nat.le_of_ble_eq_true rfl, Nat.le_of_ble_eq_true rfl, Nat.le_of_ble_eq_true rfl, Nat.le_of_ble_eq_true rfl, rfl⟩ (s_51 kc v2 v3 (0 : Int32) (hv2) m _ h) ?_
  rintro _ m1 ⟨rfl, h⟩
  refine it_V.at (pc1 := 141) (ls1 := [some (.ref 59), none, some (.ref v2), some (.int v3), none, none, some (.int v6)]) (st1 := []) (mem1 := m1) rfl rfl rfl rfl ?_
  refine it_V.weak (l := [none, none, none, none, none, none, some (.int v6)]) ⟨rfl, trivial⟩ ?_
  exact s_50_141 kc Φ v6 m1 h
set_option maxRecDepth 100000 in
set_option maxHeartbeats 4000000 in
theorem s_50_116 (kc : it_Kc) (Φ : Int32 → it_Me → Prop) (v2 : Nat) (v3 : Int32) (v5 : Int32) (v6 : Int32) (hv2 : it_isP v2) (m : it_Me) (h : w_50_116 kc Φ v2 v3 v5 v6 m) : it_V kc it_sh0 50 116 [some (.ref 59), none, some (.ref v2), some (.int v3), none, some (.int v5), some (.int v6)] [] m (it_Pi Φ) := by
  rw [w_50_116] at h
  refine it_V.sN it_cd50 it_m50 2 (pc1 := (if v6 = 0 then 134 else 121)) (ls1 := [some (.ref 59), none, some (.ref v2), some (.int v3), none, some (.int v5), some (.int v6)]) (st1 := []) (mem1 := m) rfl ?_
  refine it_V.ite (fun c1 => ?_) (fun c1 => ?_)
  · have h := h.1 c1
    refine it_V.weak (l := [some (.ref 59), none, some (.ref v2), some (.int v3), none, none, some (.int v6)]) ⟨rfl, ⟨rfl, ⟨rfl, ⟨rfl, trivial⟩⟩⟩⟩ ?_
    exact s_50_134 kc Φ v2 v3 v6 (hv2) m h
  · have h := h.2 c1
    refine it_V.sN it_cd50 it_m50 4 (pc1 := 128) (ls1 := [some (.ref 59), none, some (.ref v2), some (.int v3), none, some (.int v5), some (.int v6)]) (st1 := [(.int v3), (.ref 1), (.int v5)]) (mem1 := m) rfl ?_
    refine it_V.call it_cd50 it_m50 rfl it_m12 [(.ref 1), (.int v3)] [(.int v5)] rfl rfl ⟨Nat.le_of_ble_eq_true rfl, Nat.le_of_ble_eq_true rfl, Nat.le_of_ble_eq_true rfl, Nat.le_of_ble_eq_true rfl, rfl⟩ (s_12 kc v3 m _ h) ?_
    rintro _ m3 ⟨r2, rfl, h⟩
    refine it_V.at (pc1 := 131) (ls1 := [some (.ref 59), none, some (.ref v2), some (.int v3), none, some (.int v5), some (.int v6)]) (st1 := [(.int r2), (.int v5)]) (mem1 := m3) rfl rfl rfl rfl ?_
    refine it_V.sN it_cd50 it_m50 1 (pc1 := (if v5 = r2 then 134 else 141)) (ls1 := [some (.ref 59), none, some (.ref v2), some (.int v3), none, some (.int v5), some (.int v6)]) (st1 := []) (mem1 := m3) rfl ?_
    refine it_V.ite (fun c4 => ?_) (fun c4 => ?_)
    · have h := h.1 c4
      refine it_V.weak (l := [some (.ref 59), none, some (.ref v2), some (.int v3), none, none, some (.int v6)]) ⟨rfl, ⟨rfl, ⟨rfl, ⟨rfl, trivial⟩⟩⟩⟩ ?_
      exact s_50_134 kc Φ v2 v3 v6 (hv2) m3 h
    · have h := h.2 c4
      refine it_V.weak (l := [none, none, none, none, none, none, some (.int v6)]) ⟨rfl, trivial⟩ ?_
      exact s_50_141 kc Φ v6 m3 h
set_option maxRecDepth 100000 in
set_option maxHeartbeats 4000000 in
theorem s_50_74 (kc : it_Kc) (Φ : Int32 → it_Me → Prop) (v1 : Int32) (v2 : Nat) (v3 : Int32) (v4 : Int32) (v5 : Int32) (u0 : Int32) (hv2 : it_isP v2) (m : it_Me) (h : w_50_74 kc Φ v1 v2 v3 v4 v5 u0 m) : it_V kc it_sh0 50 74 [some (.ref 59), some (.int v1), some (.ref v2), some (.int v3), some (.int v4), some (.int v5), none] [(.int u0)] m (it_Pi Φ) := by
  rw [w_50_74] at h
  refine it_V.sN it_cd50 it_m50 3 (pc1 := (if u0 = 0 then 116 else 81)) (ls1 := [some (.ref 59), some (.int v1), some (.ref v2), some (.int v3), some (.int v4), some (.int v5), some (.int u0)]) (st1 := []) (mem1 := m) rfl ?_
  refine it_V.ite (fun c1 => ?_) (fun c1 => ?_)
  · have h := h.1 c1
    refine it_V.weak (l := [some (.ref 59), none, some (.ref v2), some (.int v3), none, some (.int v5), some (.int u0)]) ⟨rfl, ⟨rfl, ⟨rfl, ⟨rfl, ⟨rfl, trivial⟩⟩⟩⟩⟩ ?_
    exact s_50_116 kc Φ v2 v3 v5 u0 (hv2) m h
  · have h := h.2 c1
    refine it_V.sN it_cd50 it_m50 5 (pc1 := 91) (ls1 := [some (.ref 59), some (.int v1), some (.ref v2), some (.int v3), some (.int v4), some (.int v5), some (.int u0)]) (st1 := [(.int v4), (.ref 1), (.ref 1)]) (mem1 := m) rfl ?_
    refine it_V.call it_cd50 it_m50 rfl it_m12 [(.ref 1), (.int v4)] [(.ref 1)] rfl rfl ⟨Nat.le_of_ble_eq_true rfl, Nat.le_of_ble_eq_true rfl, Nat.le_of_ble_eq_true rfl, Nat.le_of_ble_eq_true rfl, rfl⟩ (s_12 kc v4 m _ h) ?_
    rintro _ m3 ⟨r2, rfl, h⟩
    refine it_V.at (pc1 := 94) (ls1 := [some (.ref 59), some (.int v1), some (.ref v2), some (.int v3), some (.int v4), some (.int v5), some (.int u0)]) (st1 := [(.int r2), (.ref 1)]) (mem1 := m3) rfl rfl rfl rfl ?_
    refine it_V.sN it_cd50 it_m50 3 (pc1 := 98) (ls1 := [some (.ref 59), some (.int v1), some (.ref v2), some (.int v3), some (.int v4), some (.int v5), some (.int u0)]) (st1 := [(.int v1), (.int (r2 + v5)), (.ref 1)]) (mem1 := m3) rfl ?_
    refine it_V.call it_cd50 it_m50 rfl it_m17 [(.ref 1), (.int (r2 + v5)), (.int v1)] [] rfl rfl ⟨Nat.le_of_ble_eq_true rfl, Nat.le_of_ble_eq_true rfl, Nat.le_of_ble_eq_true rfl, Nat.le_of_ble_eq_true rfl, rfl⟩ (s_17 kc (r2 + v5) v1 m3 _ h) ?_
    rintro _ m4 ⟨rfl, h⟩
    refine it_V.at (pc1 := 101) (ls1 := [some (.ref 59), some (.int v1), some (.ref v2), some (.int v3), some (.int v4), some (.int v5), some (.int u0)]) (st1 := []) (mem1 := m4) rfl rfl rfl rfl ?_
    refine it_V.sN it_cd50 it_m50 7 (pc1 := 113) (ls1 := [some (.ref 59), some (.int v1), some (.ref v2), some (.int v3), some (.int v4), some (.int (v5 + (1 : Int32))), some (.int u0)]) (st1 := [(.int (v5 + (1 : Int32))), (.int (v3 + (4 : Int32))), (.ref 1)]) (mem1 := m4) rfl ?_
    refine it_V.call it_cd50 it_m50 rfl it_m13 [(.ref 1), (.int (v3 + (4 : Int32))), (.int (v5 + (1 : Int32)))] [] rfl rfl ⟨Nat.le_of_ble_eq_true rfl, Nat.le_of_ble_eq_true rfl, Nat.le_of_ble_eq_true rfl, Nat.le_of_ble_eq_true rfl, rfl⟩ (s_13 kc (v3 + (4 : Int32)) (v5 + (1 : Int32)) m4 _ h) ?_
    rintro _ m5 ⟨rfl, h⟩
    refine it_V.at (pc1 := 116) (ls1 := [some (.ref 59), some (.int v1), some (.ref v2), some (.int v3), some (.int v4), some (.int (v5 + (1 : Int32))), some (.int u0)]) (st1 := []) (mem1 := m5) rfl rfl rfl rfl ?_
    refine it_V.weak (l := [some (.ref 59), none, some (.ref v2), some (.int v3), none, some (.int (v5 + (1 : Int32))), some (.int u0)]) ⟨rfl, ⟨rfl, ⟨rfl, ⟨rfl, ⟨rfl, trivial⟩⟩⟩⟩⟩ ?_
    exact s_50_116 kc Φ v2 v3 (v5 + (1 : Int32)) u0 (hv2) m5 h
set_option maxRecDepth 100000 in
set_option maxHeartbeats 4000000 in
theorem s_50 (kc : it_Kc) (x0 : Int32) (m : it_Me) (Φ : Int32 → it_Me → Prop) (h : w_50 kc x0 m Φ) : it_V kc it_sh0 50 0 (it_loc0 [(.ref 59), (.int x0)] 7) [] m (it_Pi Φ) := by
  rw [w_50] at h
  refine it_V.at (pc1 := 0) (ls1 := [some (.ref 59), some (.int x0), none, none, none, none, none]) (st1 := []) (mem1 := m) rfl rfl rfl rfl ?_
  refine it_V.sN it_cd50 it_m50 4 (pc1 := 6) (ls1 := [some (.ref 59), some (.int x0), none, none, none, none, none]) (st1 := [(.ref 63), (.int (2 : Int32)), (.ref 59)]) (mem1 := m) rfl ?_
  refine it_V.call it_cd50 it_m50 rfl it_m47 [(.ref 59), (.int (2 : Int32)), (.ref 63)] [] rfl rfl ⟨Nat.le_of_ble_eq_true rfl, Nat.le_of_ble_eq_true rfl, Nat.le_of_ble_eq_true rfl, Nat.le_of_ble_eq_true rfl, rfl⟩ (s_47 kc (2 : Int32) 63 ((⟨rfl, by decide⟩ : it_isR 63 8)) m _ h) ?_
  rintro _ m2 ⟨r1, rfl, hr1, h⟩
  rcases r1 with _ | q3
  · skip
    refine it_V.at (pc1 := 9) (ls1 := [some (.ref 59), some (.int x0), none, none, none, none, none]) (st1 := [.null]) (mem1 := m2) rfl rfl rfl rfl ?_
    have h := h.1 rfl
    refine it_V.sN it_cd50 it_m50 4 (pc1 := 15) (ls1 := [some (.ref 59), some (.int x0), some .null, none, none, none, none]) (st1 := [(.int (0 : Int32))]) (mem1 := m2) rfl ?_
    exact it_V.ret it_cd50 it_m50 rfl rfl ⟨_, rfl, h⟩
  · skip
    refine it_V.at (pc1 := 9) (ls1 := [some (.ref 59), some (.int x0), none, none, none, none, none]) (st1 := [(.ref q3)]) (mem1 := m2) rfl rfl rfl rfl ?_
    have h := h.2 q3 rfl
    refine it_V.sN it_cd50 it_m50 7 (pc1 := 22) (ls1 := [some (.ref 59), some (.int x0), some (.ref q3), none, none, none, none]) (st1 := [(.int (1 : Int32)), (.ref q3), (.ref 9)]) (mem1 := m2) rfl ?_
    refine it_V.call it_cd50 it_m50 rfl it_m90 [(.ref 9), (.ref q3), (.int (1 : Int32))] [] rfl rfl ⟨Nat.le_of_ble_eq_true rfl, Nat.le_of_ble_eq_true rfl, Nat.le_of_ble_eq_true rfl, Nat.le_of_ble_eq_true rfl, rfl⟩ (s_90 kc q3 (1 : Int32) (hr1 q3 rfl) m2 _ h) ?_
    rintro _ m5 ⟨r4, rfl, h⟩
    refine it_V.at (pc1 := 25) (ls1 := [some (.ref 59), some (.int x0), some (.ref q3), none, none, none, none]) (st1 := [(.int r4)]) (mem1 := m5) rfl rfl rfl rfl ?_
    refine it_V.sN it_cd50 it_m50 8 (pc1 := 36) (ls1 := [some (.ref 59), some (.int x0), some (.ref q3), some (.int (r4 + (8 : Int32))), none, none, none]) (st1 := [(.int (1 : Int32)), (.int (1 : Int32)), (.ref q3), (.ref 9)]) (mem1 := m5) rfl ?_
    refine it_V.call it_cd50 it_m50 rfl it_m89 [(.ref 9), (.ref q3), (.int (1 : Int32)), (.int (1 : Int32))] [] rfl rfl ⟨Nat.le_of_ble_eq_true rfl, Nat.le_of_ble_eq_true rfl, Nat.le_of_ble_eq_true rfl, Nat.le_of_ble_eq_true rfl, rfl⟩ (s_89 kc q3 (1 : Int32) (1 : Int32) (hr1 q3 rfl) m5 _ h) ?_
    rintro _ m7 ⟨r6, rfl, h⟩
    refine it_V.at (pc1 := 39) (ls1 := [some (.ref 59), some (.int x0), some (.ref q3), some (.int (r4 + (8 : Int32))), none, none, none]) (st1 := [(.int r6)]) (mem1 := m7) rfl rfl rfl rfl ?_
    refine it_V.sN it_cd50 it_m50 6 (pc1 := 48) (ls1 := [some (.ref 59), some (.int x0), some (.ref q3), some (.int (r4 + (8 : Int32))), some (.int r6), none, none]) (st1 := [(.int ((r4 + (8 : Int32)) + (4 : Int32))), (.ref 1)]) (mem1 := m7) rfl ?_
    refine it_V.call it_cd50 it_m50 rfl it_m12 [(.ref 1), (.int ((r4 + (8 : Int32)) + (4 : Int32)))] [] rfl rfl ⟨Nat.le_of_ble_eq_true rfl, Nat.le_of_ble_eq_true rfl, Nat.le_of_ble_eq_true rfl, Nat.le_of_ble_eq_true rfl, rfl⟩ (s_12 kc ((r4 + (8 : Int32)) + (4 : Int32)) m7 _ h) ?_
    rintro _ m9 ⟨r8, rfl, h⟩
    refine it_V.at (pc1 := 51) (ls1 := [some (.ref 59), some (.int x0), some (.ref q3), some (.int (r4 + (8 : Int32))), some (.int r6), none, none]) (st1 := [(.int r8)]) (mem1 := m9) rfl rfl rfl rfl ?_
    refine it_V.sN it_cd50 it_m50 7 (pc1 := 63) (ls1 := [some (.ref 59), some (.int x0), some (.ref q3), some (.int (r4 + (8 : Int32))), some (.int r6), some (.int r8), none]) (st1 := [(.int (r6 + (4 : Int32))), (.ref 1), (.int r8)]) (mem1 := m9) rfl ?_
    refine it_V.call it_cd50 it_m50 rfl it_m12 [(.ref 1), (.int (r6 + (4 : Int32)))] [(.int r8)] rfl rfl ⟨Nat.le_of_ble_eq_true rfl, Nat.le_of_ble_eq_true rfl, Nat.le_of_ble_eq_true rfl, Nat.le_of_ble_eq_true rfl, rfl⟩ (s_12 kc (r6 + (4 : Int32)) m9 _ h) ?_
    rintro _ m11 ⟨r10, rfl, h⟩
    refine it_V.at (pc1 := 66) (ls1 := [some (.ref 59), some (.int x0), some (.ref q3), some (.int (r4 + (8 : Int32))), some (.int r6), some (.int r8), none]) (st1 := [(.int r10), (.int r8)]) (mem1 := m11) rfl rfl rfl rfl ?_
    refine it_V.sN it_cd50 it_m50 1 (pc1 := (if r10 ≤ r8 then 73 else 69)) (ls1 := [some (.ref 59), some (.int x0), some (.ref q3), some (.int (r4 + (8 : Int32))), some (.int r6), some (.int r8), none]) (st1 := []) (mem1 := m11) rfl ?_
    refine it_V.ite (fun c12 => ?_) (fun c12 => ?_)
    · have h := h.1 c12
      refine it_V.sN it_cd50 it_m50 1 (pc1 := 74) (ls1 := [some (.ref 59), some (.int x0), some (.ref q3), some (.int (r4 + (8 : Int32))), some (.int r6), some (.int r8), none]) (st1 := [(.int (0 : Int32))]) (mem1 := m11) rfl ?_
      exact s_50_74 kc Φ x0 q3 (r4 + (8 : Int32)) r6 r8 (0 : Int32) (hr1 q3 rfl) m11 h
    · have h := h.2 c12
      refine it_V.sN it_cd50 it_m50 2 (pc1 := 74) (ls1 := [some (.ref 59), some (.int x0), some (.ref q3), some (.int (r4 + (8 : Int32))), some (.int r6), some (.int r8), none]) (st1 := [(.int (1 : Int32))]) (mem1 := m11) rfl ?_
      exact s_50_74 kc Φ x0 q3 (r4 + (8 : Int32)) r6 r8 (1 : Int32) (hr1 q3 rfl) m11 h
set_option maxRecDepth 100000 in
set_option maxHeartbeats 4000000 in
theorem s_54_102 (kc : it_Kc) (Φ : Int32 → it_Me → Prop) (K39 : Int32 → Int32 → Int32 → it_Me → Prop) (K108 : it_Me → Prop) (hK39 : ∀ (v1 : Int32) (v3 : Int32) (v4 : Int32) (m : it_Me), K39 v1 v3 v4 m → it_V kc it_sh0 54 39 [some (.ref 59), some (.int v1), none, some (.int v3), some (.int v4), none] [] m (it_Pi Φ)) (hK108 : ∀ (m : it_Me), K108 m → it_V kc it_sh0 54 108 [none, none, none, none, none, none] [] m (it_Pi Φ)) (v1 : Int32) (v3 : Int32) (v4 : Int32) (m : it_Me) (h : w_54_102 kc Φ K39 K108 v1 v3 v4 m) : it_V kc it_sh0 54 102 [some (.ref 59), some (.int v1), none, some (.int v3), some (.int v4), none] [] m (it_Pi Φ) := by
  rw [w_54_102] at h
  refine it_V.sN it_cd54 it_m54 2 (pc1 := 39) (ls1 := [some (.ref 59), some (.int v1), none, some (.int v3), some (.int (v4 + (1 : Int32))), none]) (st1 := []) (mem1 := m) rfl ?_
  refine it_V.weak (l := [some (.ref 59), some (.int v1), none, some (.int v3), some (.int (v4 + (1 : Int32))), none]) ⟨rfl, ⟨rfl, ⟨rfl, ⟨rfl, trivial⟩⟩⟩⟩ ?_
  exact hK39 v1 v3 (v4 + (1 : Int32)) m h
set_option maxRecDepth 100000 in
set_option maxHeartbeats 4000000 in
theorem s_54_39 (kc : it_Kc) (Φ : Int32 → it_Me → Prop) (K108 : it_Me → Prop) (hK108 : ∀ (m : it_Me), K108 m → it_V kc it_sh0 54 108 [none, none, none, none, none, none] [] m (it_Pi Φ)) : ∀ (n : Nat) (v1 : Int32) (v3 : Int32) (v4 : Int32) (m : it_Me) (h : w_54_39 kc Φ K108 n v1 v3 v4 m), it_V kc it_sh0 54 39 [some (.ref 59), some (.int v1), none, some (.int v3), some (.int v4), none] [] m (it_Pi Φ) := by
  intro n
  induction n with
  | zero => intro v1 v3 v4 m h; exact absurd h id
  | succ n ih =>
    intro v1 v3 v4 m h
    rw [w_54_39] at h
    refine it_V.sN it_cd54 it_m54 5 (pc1 := (if (m 9 7) ≤ v4 then 108 else 51)) (ls1 := [some (.ref 59), some (.int v1), none, some (.int v3), some (.int v4), none]) (st1 := []) (mem1 := m) rfl ?_
    refine it_V.ite (fun c1 => ?_) (fun c1 => ?_)
    · have h := h.1 c1
      refine it_V.weak (l := [none, none, none, none, none, none]) trivial ?_
      exact hK108 m h
    · have h := h.2 c1
      refine it_V.sN it_cd54 it_m54 4 (pc1 := 60) (ls1 := [some (.ref 59), some (.int v1), none, some (.int v3), some (.int v4), none]) (st1 := [(.int v4), (.ref 10)]) (mem1 := m) rfl ?_
      obtain ⟨g2, h⟩ := h
      refine it_V.aald it_cd54 it_m54 rfl g2 ?_
      refine it_V.at (pc1 := 61) (ls1 := [some (.ref 59), some (.int v1), none, some (.int v3), some (.int v4), none]) (st1 := [(.ref (14 + 5 * Int32.toNatClampNeg v4))]) (mem1 := m) rfl rfl rfl rfl ?_
      refine it_V.sN it_cd54 it_m54 7 (pc1 := 74) (ls1 := [some (.ref 59), some (.int v1), none, some (.int v3), some (.int v4), some (.ref (14 + 5 * Int32.toNatClampNeg v4))]) (st1 := [(.int (3 : Int32)), (.ref (14 + 5 * Int32.toNatClampNeg v4)), (.ref 9), (.ref 1)]) (mem1 := m) rfl ?_
      refine it_V.call it_cd54 it_m54 rfl it_m90 [(.ref 9), (.ref (14 + 5 * Int32.toNatClampNeg v4)), (.int (3 : Int32))] [(.ref 1)] rfl rfl ⟨Nat.le_of_ble_eq_true rfl, Nat.le_of_ble_eq_true rfl, Nat.le_of_ble_eq_true rfl, Nat.le_of_ble_eq_true rfl, rfl⟩ (s_90 kc (14 + 5 * Int32.toNatClampNeg v4) (3 : Int32) (it_isP_of g2) m _ h) ?_
      rintro _ m4 ⟨r3, rfl, h⟩
      refine it_V.at (pc1 := 77) (ls1 := [some (.ref 59), some (.int v1), none, some (.int v3), some (.int v4), some (.ref (14 + 5 * Int32.toNatClampNeg v4))]) (st1 := [(.int r3), (.ref 1)]) (mem1 := m4) rfl rfl rfl rfl ?_
      refine it_V.call it_cd54 it_m54 rfl it_m12 [(.ref 1), (.int r3)] [] rfl rfl ⟨Nat.le_of_ble_eq_true rfl, Nat.le_of_ble_eq_true rfl, Nat.le_of_ble_eq_true rfl, Nat.le_of_ble_eq_true rfl, rfl⟩ (s_12 kc r3 m4 _ h) ?_
      rintro _ m6 ⟨r5, rfl, h⟩
      refine it_V.at (pc1 := 80) (ls1 := [some (.ref 59), some (.int v1), none, some (.int v3), some (.int v4), some (.ref (14 + 5 * Int32.toNatClampNeg v4))]) (st1 := [(.int r5)]) (mem1 := m6) rfl rfl rfl rfl ?_
      refine it_V.sN it_cd54 it_m54 6 (pc1 := (if ((it_us r5 v1) &&& (1 : Int32)) = (1 : Int32) then 88 else 102)) (ls1 := [some (.ref 59), some (.int v1), none, some (.int v3), some (.int v4), some (.ref (14 + 5 * Int32.toNatClampNeg v4))]) (st1 := []) (mem1 := m6) rfl ?_
      refine it_V.ite (fun c7 => ?_) (fun c7 => ?_)
      · have h := h.1 c7
        refine it_V.sN it_cd54 it_m54 8 (pc1 := 99) (ls1 := [some (.ref 59), some (.int v1), none, some (.int v3), some (.int v4), some (.ref (14 + 5 * Int32.toNatClampNeg v4))]) (st1 := [(.int (0 : Int32)), (.int v3), (.int v1), (.int (0 : Int32)), (.int (3 : Int32)), (.ref (14 + 5 * Int32.toNatClampNeg v4)), (.ref 9)]) (mem1 := m6) rfl ?_
        refine it_V.call it_cd54 it_m54 rfl it_m80 [(.ref 9), (.ref (14 + 5 * Int32.toNatClampNeg v4)), (.int (3 : Int32)), (.int (0 : Int32)), (.int v1), (.int v3), (.int (0 : Int32))] [] rfl rfl ⟨Nat.le_of_ble_eq_true rfl, Nat.le_of_ble_eq_true rfl, Nat.le_of_ble_eq_true rfl, Nat.le_of_ble_eq_true rfl, rfl⟩ (s_80 kc (14 + 5 * Int32.toNatClampNeg v4) (3 : Int32) (0 : Int32) v1 v3 (0 : Int32) (it_isP_of g2) m6 _ h) ?_
        rintro _ m8 ⟨rfl, h⟩
        refine it_V.at (pc1 := 102) (ls1 := [some (.ref 59), some (.int v1), none, some (.int v3), some (.int v4), some (.ref (14 + 5 * Int32.toNatClampNeg v4))]) (st1 := []) (mem1 := m8) rfl rfl rfl rfl ?_
        refine it_V.weak (l := [some (.ref 59), some (.int v1), none, some (.int v3), some (.int v4), none]) ⟨rfl, ⟨rfl, ⟨rfl, ⟨rfl, trivial⟩⟩⟩⟩ ?_
        exact s_54_102 kc Φ _ _ ih hK108 v1 v3 v4 m8 h
      · have h := h.2 c7
        refine it_V.weak (l := [some (.ref 59), some (.int v1), none, some (.int v3), some (.int v4), none]) ⟨rfl, ⟨rfl, ⟨rfl, ⟨rfl, trivial⟩⟩⟩⟩ ?_
        exact s_54_102 kc Φ _ _ ih hK108 v1 v3 v4 m6 h
set_option maxRecDepth 100000 in
set_option maxHeartbeats 4000000 in
theorem s_54_108 (kc : it_Kc) (Φ : Int32 → it_Me → Prop) (m : it_Me) (h : w_54_108 kc Φ m) : it_V kc it_sh0 54 108 [none, none, none, none, none, none] [] m (it_Pi Φ) := by
  rw [w_54_108] at h
  refine it_V.sN it_cd54 it_m54 1 (pc1 := 109) (ls1 := [none, none, none, none, none, none]) (st1 := [(.int (1 : Int32))]) (mem1 := m) rfl ?_
  exact it_V.ret it_cd54 it_m54 rfl rfl ⟨_, rfl, h⟩
set_option maxRecDepth 100000 in
set_option maxHeartbeats 4000000 in
theorem s_54_9 (kc : it_Kc) (Φ : Int32 → it_Me → Prop) (v1 : Int32) (u0 : Int32) (m : it_Me) (h : w_54_9 kc Φ v1 u0 m) : it_V kc it_sh0 54 9 [some (.ref 59), some (.int v1), none, none, none, none] [(.int u0)] m (it_Pi Φ) := by
  rw [w_54_9] at h
  refine it_V.sN it_cd54 it_m54 9 (pc1 := (if ((it_us (m 59 5) v1) &&& (1 : Int32)) = u0 then 22 else 24)) (ls1 := [some (.ref 59), some (.int v1), none, some (.int u0), none, none]) (st1 := []) (mem1 := m) rfl ?_
  refine it_V.ite (fun c1 => ?_) (fun c1 => ?_)
  · have h := h.1 c1
    refine it_V.sN it_cd54 it_m54 1 (pc1 := 23) (ls1 := [some (.ref 59), some (.int v1), none, some (.int u0), none, none]) (st1 := [(.int (0 : Int32))]) (mem1 := m) rfl ?_
    exact it_V.ret it_cd54 it_m54 rfl rfl ⟨_, rfl, h⟩
  · have h := h.2 c1
    refine it_V.sN it_cd54 it_m54 10 (pc1 := 39) (ls1 := [some (.ref 59), some (.int v1), none, some (.int u0), some (.int (0 : Int32)), none]) (st1 := []) (mem1 := (it_sv m 59 5 ((m 59 5) ^^^ (it_shl (1 : Int32) v1)))) rfl ?_
    refine it_V.weak (l := [some (.ref 59), some (.int v1), none, some (.int u0), some (.int (0 : Int32)), none]) ⟨rfl, ⟨rfl, ⟨rfl, ⟨rfl, trivial⟩⟩⟩⟩ ?_
    obtain ⟨n, h⟩ := h
    exact s_54_39 kc Φ _ (fun m h => s_54_108 kc Φ m h) n v1 u0 (0 : Int32) (it_sv m 59 5 ((m 59 5) ^^^ (it_shl (1 : Int32) v1))) h
set_option maxRecDepth 100000 in
set_option maxHeartbeats 4000000 in
theorem s_54 (kc : it_Kc) (x0 : Int32) (x1 : Int32) (m : it_Me) (Φ : Int32 → it_Me → Prop) (h : w_54 kc x0 x1 m Φ) : it_V kc it_sh0 54 0 (it_loc0 [(.ref 59), (.int x0), (.int x1)] 6) [] m (it_Pi Φ) := by
  rw [w_54] at h
  refine it_V.at (pc1 := 0) (ls1 := [some (.ref 59), some (.int x0), some (.int x1), none, none, none]) (st1 := []) (mem1 := m) rfl rfl rfl rfl ?_
  refine it_V.sN it_cd54 it_m54 2 (pc1 := (if x1 = 0 then 8 else 4)) (ls1 := [some (.ref 59), some (.int x0), some (.int x1), none, none, none]) (st1 := []) (mem1 := m) rfl ?_
  refine it_V.ite (fun c1 => ?_) (fun c1 => ?_)
  · have h := h.1 c1
    refine it_V.sN it_cd54 it_m54 1 (pc1 := 9) (ls1 := [some (.ref 59), some (.int x0), some (.int x1), none, none, none]) (st1 := [(.int (0 : Int32))]) (mem1 := m) rfl ?_
    refine it_V.weak (l := [some (.ref 59), some (.int x0), none, none, none, none]) ⟨rfl, ⟨rfl, trivial⟩⟩ ?_
    exact s_54_9 kc Φ x0 (0 : Int32) m h
  · have h := h.2 c1
    refine it_V.sN it_cd54 it_m54 2 (pc1 := 9) (ls1 := [some (.ref 59), some (.int x0), some (.int x1), none, none, none]) (st1 := [(.int (1 : Int32))]) (mem1 := m) rfl ?_
    refine it_V.weak (l := [some (.ref 59), some (.int x0), none, none, none, none]) ⟨rfl, ⟨rfl, trivial⟩⟩ ?_
    exact s_54_9 kc Φ x0 (1 : Int32) m h
set_option maxRecDepth 100000 in
set_option maxHeartbeats 4000000 in
theorem s_70_12 (kc : it_Kc) (Φ : Int32 → it_Me → Prop) (m : it_Me) (h : w_70_12 kc Φ m) : it_V kc it_sh0 70 12 [none, none, none, none] [] m (it_Pi Φ) := by
  rw [w_70_12] at h
  refine it_V.sN it_cd70 it_m70 1 (pc1 := 13) (ls1 := [none, none, none, none]) (st1 := [(.int (-1 : Int32))]) (mem1 := m) rfl ?_
  exact it_V.ret it_cd70 it_m70 rfl rfl ⟨_, rfl, h⟩
set_option maxRecDepth 100000 in
set_option maxHeartbeats 4000000 in
theorem s_70_23 (kc : it_Kc) (Φ : Int32 → it_Me → Prop) (m : it_Me) (h : w_70_23 kc Φ m) : it_V kc it_sh0 70 23 [none, none, none, none] [] m (it_Pi Φ) := by
  rw [w_70_23] at h
  refine it_V.sN it_cd70 it_m70 1 (pc1 := 25) (ls1 := [none, none, none, none]) (st1 := [(.int (-2 : Int32))]) (mem1 := m) rfl ?_
  exact it_V.ret it_cd70 it_m70 rfl rfl ⟨_, rfl, h⟩
set_option maxRecDepth 100000 in
set_option maxHeartbeats 4000000 in
theorem s_70_52 (kc : it_Kc) (Φ : Int32 → it_Me → Prop) (v2 : Int32) (u1 : Int32) (m : it_Me) (h : w_70_52 kc Φ v2 u1 m) : it_V kc it_sh0 70 52 [none, none, some (.int v2), none] [(.int u1), (.ref 6)] m (it_Pi Φ) := by
  rw [w_70_52] at h
  refine it_V.sN it_cd70 it_m70 4 (pc1 := 56) (ls1 := [none, none, some (.int v2), none]) (st1 := [(.int ((u1 * (4 : Int32)) + v2)), (.ref 6)]) (mem1 := m) rfl ?_
  obtain ⟨g1, h⟩ := h
  refine it_V.iald it_cd70 it_m70 rfl ((⟨rfl, by decide⟩ : it_isR 6 800)).2 ((⟨rfl, by decide⟩ : it_isR 6 800)).1 g1 ?_
  refine it_V.at (pc1 := 57) (ls1 := [none, none, some (.int v2), none]) (st1 := [(.int (m 6 (Int32.toNatClampNeg ((u1 * (4 : Int32)) + v2))))]) (mem1 := m) rfl rfl rfl rfl ?_
  exact it_V.ret it_cd70 it_m70 rfl rfl ⟨_, rfl, h⟩
set_option maxRecDepth 100000 in
set_option maxHeartbeats 4000000 in
theorem s_70 (kc : it_Kc) (x0 : Int32) (x1 : Int32) (m : it_Me) (Φ : Int32 → it_Me → Prop) (h : w_70 kc x0 x1 m Φ) : it_V kc it_sh0 70 0 (it_loc0 [(.ref 4), (.int x0), (.int x1)] 4) [] m (it_Pi Φ) := by
  rw [w_70] at h
  refine it_V.at (pc1 := 0) (ls1 := [some (.ref 4), some (.int x0), some (.int x1), none]) (st1 := []) (mem1 := m) rfl rfl rfl rfl ?_
  refine it_V.sN it_cd70 it_m70 2 (pc1 := (if x0 < 0 then 12 else 4)) (ls1 := [some (.ref 4), some (.int x0), some (.int x1), none]) (st1 := []) (mem1 := m) rfl ?_
  refine it_V.ite (fun c1 => ?_) (fun c1 => ?_)
  · have h := h.1 c1
    refine it_V.weak (l := [none, none, none, none]) trivial ?_
    exact s_70_12 kc Φ m h
  · have h := h.2 c1
    refine it_V.sN it_cd70 it_m70 4 (pc1 := (if x0 < (m 4 4) then 14 else 12)) (ls1 := [some (.ref 4), some (.int x0), some (.int x1), none]) (st1 := []) (mem1 := m) rfl ?_
    refine it_V.ite (fun c2 => ?_) (fun c2 => ?_)
    · have h := h.1 c2
      refine it_V.sN it_cd70 it_m70 2 (pc1 := (if x1 < 0 then 23 else 18)) (ls1 := [some (.ref 4), some (.int x0), some (.int x1), none]) (st1 := []) (mem1 := m) rfl ?_
      refine it_V.ite (fun c3 => ?_) (fun c3 => ?_)
      · have h := h.1 c3
        refine it_V.weak (l := [none, none, none, none]) trivial ?_
        exact s_70_23 kc Φ m h
      · have h := h.2 c3
        refine it_V.sN it_cd70 it_m70 3 (pc1 := (if x1 ≤ (3 : Int32) then 26 else 23)) (ls1 := [some (.ref 4), some (.int x0), some (.int x1), none]) (st1 := []) (mem1 := m) rfl ?_
        refine it_V.ite (fun c4 => ?_) (fun c4 => ?_)
        · have h := h.1 c4
          refine it_V.sN it_cd70 it_m70 11 (pc1 := (if 0 ≤ (((m 4 3) - (1 : Int32)) - x0) then 51 else 43)) (ls1 := [some (.ref 4), some (.int x0), some (.int x1), some (.int (((m 4 3) - (1 : Int32)) - x0))]) (st1 := [(.ref 6)]) (mem1 := m) rfl ?_
          refine it_V.ite (fun c5 => ?_) (fun c5 => ?_)
          · have h := h.1 c5
            refine it_V.sN it_cd70 it_m70 1 (pc1 := 52) (ls1 := [some (.ref 4), some (.int x0), some (.int x1), some (.int (((m 4 3) - (1 : Int32)) - x0))]) (st1 := [(.int (((m 4 3) - (1 : Int32)) - x0)), (.ref 6)]) (mem1 := m) rfl ?_
            refine it_V.weak (l := [none, none, some (.int x1), none]) ⟨rfl, trivial⟩ ?_
            exact s_70_52 kc Φ x1 (((m 4 3) - (1 : Int32)) - x0) m h
          · have h := h.2 c5
            refine it_V.sN it_cd70 it_m70 4 (pc1 := 52) (ls1 := [some (.ref 4), some (.int x0), some (.int x1), some (.int (((m 4 3) - (1 : Int32)) - x0))]) (st1 := [(.int ((((m 4 3) - (1 : Int32)) - x0) + (200 : Int32))), (.ref 6)]) (mem1 := m) rfl ?_
            refine it_V.weak (l := [none, none, some (.int x1), none]) ⟨rfl, trivial⟩ ?_
            exact s_70_52 kc Φ x1 ((((m 4 3) - (1 : Int32)) - x0) + (200 : Int32)) m h
        · have h := h.2 c4
          refine it_V.weak (l := [none, none, none, none]) trivial ?_
          exact s_70_23 kc Φ m h
    · have h := h.2 c2
      refine it_V.weak (l := [none, none, none, none]) trivial ?_
      exact s_70_12 kc Φ m h
set_option maxRecDepth 100000 in
set_option maxHeartbeats 4000000 in
theorem s_74_96 (kc : it_Kc) (Φ : Int32 → it_Me → Prop) (K15 : Nat → Int32 → Int32 → Int32 → it_Me → Prop) (K94 : it_Me → Prop) (K102 : it_Me → Prop) (hK15 : ∀ (v1 : Nat) (v2 : Int32) (v3 : Int32) (v4 : Int32) (_ : it_isH v1) (m : it_Me), K15 v1 v2 v3 v4 m → it_V kc it_sh0 74 15 [some (.ref 9), some (.ref v1), some (.int v2), some (.int v3), some (.int v4)] [] m (it_Pi Φ)) (hK94 : ∀ (m : it_Me), K94 m → it_V kc it_sh0 74 94 [none, none, none, none, none] [] m (it_Pi Φ)) (hK102 : ∀ (m : it_Me), K102 m → it_V kc it_sh0 74 102 [none, none, none, none, none] [] m (it_Pi Φ)) (v1 : Nat) (v2 : Int32) (v3 : Int32) (v4 : Int32) (hv1 : it_isH v1) (m : it_Me) (h : w_74_96 kc Φ K15 K94 K102 v1 v2 v3 v4 m) : it_V kc it_sh0 74 96 [some (.ref 9), some (.ref v1), some (.int v2), some (.int v3), some (.int v4)] [] m (it_Pi Φ) := by
  rw [w_74_96] at h
  refine it_V.sN it_cd74 it_m74 2 (pc1 := 15) (ls1 := [some (.ref 9), some (.ref v1), some (.int v2), some (.int v3), some (.int (v4 + (1 : Int32)))]) (st1 := []) (mem1 := m) rfl ?_
  exact hK15 v1 v2 v3 (v4 + (1 : Int32)) (hv1) m h
set_option maxRecDepth 100000 in
set_option maxHeartbeats 4000000 in
theorem s_74_15 (kc : it_Kc) (Φ : Int32 → it_Me → Prop) (K94 : it_Me → Prop) (K102 : it_Me → Prop) (hK94 : ∀ (m : it_Me), K94 m → it_V kc it_sh0 74 94 [none, none, none, none, none] [] m (it_Pi Φ)) (hK102 : ∀ (m : it_Me), K102 m → it_V kc it_sh0 74 102 [none, none, none, none, none] [] m (it_Pi Φ)) : ∀ (n : Nat) (v1 : Nat) (v2 : Int32) (v3 : Int32) (v4 : Int32) (hv1 : it_isH v1) (m : it_Me) (h : w_74_15 kc Φ K94 K102 n v1 v2 v3 v4 m), it_V kc it_sh0 74 15 [some (.ref 9), some (.ref v1), some (.int v2), some (.int v3), some (.int v4)] [] m (it_Pi Φ) := by
  intro n
  induction n with
  | zero => intro v1 v2 v3 v4 hv1 m h; exact absurd h id
  | succ n ih =>
    intro v1 v2 v3 v4 hv1 m h
    rw [w_74_15] at h
    refine it_V.sN it_cd74 it_m74 3 (pc1 := (if (3840 : Int32) ≤ v4 then 102 else 23)) (ls1 := [some (.ref 9), some (.ref v1), some (.int v2), some (.int v3), some (.int v4)]) (st1 := []) (mem1 := m) rfl ?_
    refine it_V.ite (fun c1 => ?_) (fun c1 => ?_)
    · have h := h.1 c1
      refine it_V.weak (l := [none, none, none, none, none]) trivial ?_
      exact hK102 m h
    · have h := h.2 c1
      refine it_V.sN it_cd74 it_m74 3 (pc1 := 28) (ls1 := [some (.ref 9), some (.ref v1), some (.int v2), some (.int v3), some (.int v4)]) (st1 := [(.int v3), (.ref 13)]) (mem1 := m) rfl ?_
      refine it_V.call it_cd74 it_m74 rfl it_m1 [(.ref 13), (.int v3)] [] rfl rfl ⟨Nat.le_of_ble_eq_true rfl, Nat.le_of_ble_eq_true rfl, Nat.le_of_ble_eq_true rfl, Nat.le_of_ble_eq_true rfl, (it_recvP (it_h13))⟩ (s_1 kc 13 v3 (it_h13) m _ h) ?_
      rintro _ m3 ⟨r2, rfl, h⟩
      refine it_V.at (pc1 := 31) (ls1 := [some (.ref 9), some (.ref v1), some (.int v2), some (.int v3), some (.int v4)]) (st1 := [(.int r2)]) (mem1 := m3) rfl rfl rfl rfl ?_
      refine it_V.sN it_cd74 it_m74 1 (pc1 := (if r2 = 0 then 102 else 34)) (ls1 := [some (.ref 9), some (.ref v1), some (.int v2), some (.int v3), some (.int v4)]) (st1 := []) (mem1 := m3) rfl ?_
      refine it_V.ite (fun c4 => ?_) (fun c4 => ?_)
      · have h := h.1 c4
        refine it_V.weak (l := [none, none, none, none, none]) trivial ?_
        exact hK102 m3 h
      · have h := h.2 c4
        refine it_V.sN it_cd74 it_m74 3 (pc1 := 39) (ls1 := [some (.ref 9), some (.ref v1), some (.int v2), some (.int v3), some (.int v4)]) (st1 := [(.ref 13), (.int v3)]) (mem1 := m3) rfl ?_
        refine it_V.getP it_cd74 it_m74 rfl it_h13 rfl ?_
        refine it_V.at (pc1 := 42) (ls1 := [some (.ref 9), some (.ref v1), some (.int v2), some (.int v3), some (.int v4)]) (st1 := [(.int (m3 13 3)), (.int v3)]) (mem1 := m3) rfl rfl rfl rfl ?_
        refine it_V.sN it_cd74 it_m74 4 (pc1 := 48) (ls1 := [some (.ref 9), some (.ref v1), some (.int v2), some (.int (v3 + (m3 13 3))), some (.int v4)]) (st1 := [(.ref 13)]) (mem1 := m3) rfl ?_
        refine it_V.call it_cd74 it_m74 rfl it_m2 [(.ref 13)] [] rfl rfl ⟨Nat.le_of_ble_eq_true rfl, Nat.le_of_ble_eq_true rfl, Nat.le_of_ble_eq_true rfl, Nat.le_of_ble_eq_true rfl, (it_recvP (it_h13))⟩ (s_2 kc 13 (it_h13) m3 _ h) ?_
        rintro _ m6 ⟨r5, rfl, h⟩
        refine it_V.at (pc1 := 51) (ls1 := [some (.ref 9), some (.ref v1), some (.int v2), some (.int (v3 + (m3 13 3))), some (.int v4)]) (st1 := [(.int r5)]) (mem1 := m6) rfl rfl rfl rfl ?_
        refine it_V.sN it_cd74 it_m74 1 (pc1 := (if r5 = 0 then 96 else 54)) (ls1 := [some (.ref 9), some (.ref v1), some (.int v2), some (.int (v3 + (m3 13 3))), some (.int v4)]) (st1 := []) (mem1 := m6) rfl ?_
        refine it_V.ite (fun c7 => ?_) (fun c7 => ?_)
        · have h := h.1 c7
          exact s_74_96 kc Φ _ _ _ ih hK94 hK102 v1 v2 (v3 + (m3 13 3)) v4 (hv1) m6 h
        · have h := h.2 c7
          refine it_V.sN it_cd74 it_m74 3 (pc1 := 59) (ls1 := [some (.ref 9), some (.ref v1), some (.int v2), some (.int (v3 + (m3 13 3))), some (.int v4)]) (st1 := [(.ref v1), (.ref 13)]) (mem1 := m6) rfl ?_
          refine it_V.getP it_cd74 it_m74 rfl hv1 rfl ?_
          refine it_V.at (pc1 := 62) (ls1 := [some (.ref 9), some (.ref v1), some (.int v2), some (.int (v3 + (m3 13 3))), some (.int v4)]) (st1 := [(.int (m6 v1 10)), (.ref 13)]) (mem1 := m6) rfl rfl rfl rfl ?_
          refine it_V.sN it_cd74 it_m74 1 (pc1 := 63) (ls1 := [some (.ref 9), some (.ref v1), some (.int v2), some (.int (v3 + (m3 13 3))), some (.int v4)]) (st1 := [(.ref v1), (.int (m6 v1 10)), (.ref 13)]) (mem1 := m6) rfl ?_
          refine it_V.getP it_cd74 it_m74 rfl hv1 rfl ?_
          refine it_V.at (pc1 := 66) (ls1 := [some (.ref 9), some (.ref v1), some (.int v2), some (.int (v3 + (m3 13 3))), some (.int v4)]) (st1 := [(.int (m6 v1 11)), (.int (m6 v1 10)), (.ref 13)]) (mem1 := m6) rfl rfl rfl rfl ?_
          refine it_V.call it_cd74 it_m74 rfl it_m7 [(.ref 13), (.int (m6 v1 10)), (.int (m6 v1 11))] [] rfl rfl ⟨Nat.le_of_ble_eq_true rfl, Nat.le_of_ble_eq_true rfl, Nat.le_of_ble_eq_true rfl, Nat.le_of_ble_eq_true rfl, (it_recvP (it_h13))⟩ (s_7 kc 13 (m6 v1 10) (m6 v1 11) (it_h13) m6 _ h) ?_
          rintro _ m9 ⟨r8, rfl, h⟩
          refine it_V.at (pc1 := 69) (ls1 := [some (.ref 9), some (.ref v1), some (.int v2), some (.int (v3 + (m3 13 3))), some (.int v4)]) (st1 := [(.int r8)]) (mem1 := m9) rfl rfl rfl rfl ?_
          refine it_V.sN it_cd74 it_m74 1 (pc1 := (if r8 = 0 then 96 else 72)) (ls1 := [some (.ref 9), some (.ref v1), some (.int v2), some (.int (v3 + (m3 13 3))), some (.int v4)]) (st1 := []) (mem1 := m9) rfl ?_
          refine it_V.ite (fun c10 => ?_) (fun c10 => ?_)
          · have h := h.1 c10
            exact s_74_96 kc Φ _ _ _ ih hK94 hK102 v1 v2 (v3 + (m3 13 3)) v4 (hv1) m9 h
          · have h := h.2 c10
            refine it_V.sN it_cd74 it_m74 3 (pc1 := 77) (ls1 := [some (.ref 9), some (.ref v1), some (.int v2), some (.int (v3 + (m3 13 3))), some (.int v4)]) (st1 := [(.ref v1), (.ref 13)]) (mem1 := m9) rfl ?_
            refine it_V.call it_cd74 it_m74 rfl it_m8 [(.ref 13), (.ref v1)] [] rfl rfl ⟨Nat.le_of_ble_eq_true rfl, Nat.le_of_ble_eq_true rfl, Nat.le_of_ble_eq_true rfl, Nat.le_of_ble_eq_true rfl, (it_recvP (it_h13))⟩ (s_8 kc 13 v1 (it_h13) (hv1) m9 _ h) ?_
            rintro _ m12 ⟨r11, rfl, h⟩
            refine it_V.at (pc1 := 80) (ls1 := [some (.ref 9), some (.ref v1), some (.int v2), some (.int (v3 + (m3 13 3))), some (.int v4)]) (st1 := [(.int r11)]) (mem1 := m12) rfl rfl rfl rfl ?_
            refine it_V.sN it_cd74 it_m74 1 (pc1 := (if r11 = 0 then 96 else 83)) (ls1 := [some (.ref 9), some (.ref v1), some (.int v2), some (.int (v3 + (m3 13 3))), some (.int v4)]) (st1 := []) (mem1 := m12) rfl ?_
            refine it_V.ite (fun c13 => ?_) (fun c13 => ?_)
            · have h := h.1 c13
              exact s_74_96 kc Φ _ _ _ ih hK94 hK102 v1 v2 (v3 + (m3 13 3)) v4 (hv1) m12 h
            · have h := h.2 c13
              refine it_V.sN it_cd74 it_m74 3 (pc1 := 88) (ls1 := [some (.ref 9), some (.ref v1), some (.int v2), some (.int (v3 + (m3 13 3))), some (.int v4)]) (st1 := [(.int v2), (.ref 13)]) (mem1 := m12) rfl ?_
              refine it_V.call it_cd74 it_m74 rfl it_m6 [(.ref 13), (.int v2)] [] rfl rfl ⟨Nat.le_of_ble_eq_true rfl, Nat.le_of_ble_eq_true rfl, Nat.le_of_ble_eq_true rfl, Nat.le_of_ble_eq_true rfl, (it_recvP (it_h13))⟩ (s_6 kc 13 v2 (it_h13) m12 _ h) ?_
              rintro _ m15 ⟨r14, rfl, h⟩
              refine it_V.at (pc1 := 91) (ls1 := [some (.ref 9), some (.ref v1), some (.int v2), some (.int (v3 + (m3 13 3))), some (.int v4)]) (st1 := [(.int r14)]) (mem1 := m15) rfl rfl rfl rfl ?_
              refine it_V.sN it_cd74 it_m74 1 (pc1 := (if r14 = 0 then 96 else 94)) (ls1 := [some (.ref 9), some (.ref v1), some (.int v2), some (.int (v3 + (m3 13 3))), some (.int v4)]) (st1 := []) (mem1 := m15) rfl ?_
              refine it_V.ite (fun c16 => ?_) (fun c16 => ?_)
              · have h := h.1 c16
                exact s_74_96 kc Φ _ _ _ ih hK94 hK102 v1 v2 (v3 + (m3 13 3)) v4 (hv1) m15 h
              · have h := h.2 c16
                refine it_V.weak (l := [none, none, none, none, none]) trivial ?_
                exact hK94 m15 h
set_option maxRecDepth 100000 in
set_option maxHeartbeats 4000000 in
theorem s_74_94 (kc : it_Kc) (Φ : Int32 → it_Me → Prop) (m : it_Me) (h : w_74_94 kc Φ m) : it_V kc it_sh0 74 94 [none, none, none, none, none] [] m (it_Pi Φ) := by
  rw [w_74_94] at h
  refine it_V.sN it_cd74 it_m74 1 (pc1 := 95) (ls1 := [none, none, none, none, none]) (st1 := [(.int (1 : Int32))]) (mem1 := m) rfl ?_
  exact it_V.ret it_cd74 it_m74 rfl rfl ⟨_, rfl, h⟩
set_option maxRecDepth 100000 in
set_option maxHeartbeats 4000000 in
theorem s_74_102 (kc : it_Kc) (Φ : Int32 → it_Me → Prop) (m : it_Me) (h : w_74_102 kc Φ m) : it_V kc it_sh0 74 102 [none, none, none, none, none] [] m (it_Pi Φ) := by
  rw [w_74_102] at h
  refine it_V.sN it_cd74 it_m74 1 (pc1 := 103) (ls1 := [none, none, none, none, none]) (st1 := [(.int (0 : Int32))]) (mem1 := m) rfl ?_
  exact it_V.ret it_cd74 it_m74 rfl rfl ⟨_, rfl, h⟩
set_option maxRecDepth 100000 in
set_option maxHeartbeats 4000000 in
theorem s_74 (kc : it_Kc) (x0 : Nat) (x1 : Int32) (hx0 : it_isH x0) (m : it_Me) (Φ : Int32 → it_Me → Prop) (h : w_74 kc x0 x1 m Φ) : it_V kc it_sh0 74 0 (it_loc0 [(.ref 9), (.ref x0), (.int x1)] 5) [] m (it_Pi Φ) := by
  rw [w_74] at h
  refine it_V.at (pc1 := 0) (ls1 := [some (.ref 9), some (.ref x0), some (.int x1), none, none]) (st1 := []) (mem1 := m) rfl rfl rfl rfl ?_
  refine it_V.sN it_cd74 it_m74 1 (pc1 := 1) (ls1 := [some (.ref 9), some (.ref x0), some (.int x1), none, none]) (st1 := [(.ref x0)]) (mem1 := m) rfl ?_
  refine it_V.getP it_cd74 it_m74 rfl hx0 rfl ?_
  refine it_V.at (pc1 := 4) (ls1 := [some (.ref 9), some (.ref x0), some (.int x1), none, none]) (st1 := [(.int (m x0 10))]) (mem1 := m) rfl rfl rfl rfl ?_
  refine it_V.sN it_cd74 it_m74 1 (pc1 := (if (m x0 10) = 0 then 7 else 9)) (ls1 := [some (.ref 9), some (.ref x0), some (.int x1), none, none]) (st1 := []) (mem1 := m) rfl ?_
  refine it_V.ite (fun c1 => ?_) (fun c1 => ?_)
  · have h := h.1 c1
    refine it_V.sN it_cd74 it_m74 1 (pc1 := 8) (ls1 := [some (.ref 9), some (.ref x0), some (.int x1), none, none]) (st1 := [(.int (0 : Int32))]) (mem1 := m) rfl ?_
    exact it_V.ret it_cd74 it_m74 rfl rfl ⟨_, rfl, h⟩
  · have h := h.2 c1
    refine it_V.sN it_cd74 it_m74 4 (pc1 := 15) (ls1 := [some (.ref 9), some (.ref x0), some (.int x1), some (.int (65536 : Int32)), some (.int (0 : Int32))]) (st1 := []) (mem1 := m) rfl ?_
    obtain ⟨n, h⟩ := h
    exact s_74_15 kc Φ _ _ (fun m h => s_74_94 kc Φ m h) (fun m h => s_74_102 kc Φ m h) n x0 x1 (65536 : Int32) (0 : Int32) (hx0) m h
set_option maxRecDepth 100000 in
set_option maxHeartbeats 4000000 in
theorem s_128 (kc : it_Kc) (k : Nat) (hk : it_isP k) (m : it_Me) (Φ : it_Me → Prop) (h : w_128 kc k m Φ) : it_V kc it_sh0 128 0 (it_loc0 [(.ref k)] 1) [] m (it_Pv Φ) := by
  rw [w_128] at h
  refine it_V.at (pc1 := 0) (ls1 := [some (.ref k)]) (st1 := []) (mem1 := m) rfl rfl rfl rfl ?_
  refine it_V.sN it_cd128 it_m128 2 (pc1 := 2) (ls1 := [some (.ref k)]) (st1 := [(.ref k), (.ref k)]) (mem1 := m) rfl ?_
  refine it_V.getP it_cd128 it_m128 rfl (hk).1 rfl ?_
  refine it_V.at (pc1 := 5) (ls1 := [some (.ref k)]) (st1 := [(.int (m k 5)), (.ref k)]) (mem1 := m) rfl rfl rfl rfl ?_
  refine it_V.sN it_cd128 it_m128 1 (pc1 := 6) (ls1 := [some (.ref k)]) (st1 := [(.ref k), (.int (m k 5)), (.ref k)]) (mem1 := m) rfl ?_
  refine it_V.getP it_cd128 it_m128 rfl (hk).1 rfl ?_
  refine it_V.at (pc1 := 9) (ls1 := [some (.ref k)]) (st1 := [(.ref (k + 1)), (.int (m k 5)), (.ref k)]) (mem1 := m) rfl rfl rfl rfl ?_
  refine it_V.getP it_cd128 it_m128 rfl (hk).2.1 rfl ?_
  refine it_V.at (pc1 := 12) (ls1 := [some (.ref k)]) (st1 := [(.int (m (k + 1) 5)), (.int (m k 5)), (.ref k)]) (mem1 := m) rfl rfl rfl rfl ?_
  refine it_V.call it_cd128 it_m128 rfl it_m216 [(.int (m (k + 1) 5))] [(.int (m k 5)), (.ref k)] rfl rfl ⟨Nat.le_of_ble_eq_true rfl, Nat.le_of_ble_eq_true rfl, Nat.le_of_ble_eq_true rfl, Nat.le_of_ble_eq_true rfl, rfl⟩ (s_216 kc (m (k + 1) 5) m _ h) ?_
  rintro _ m2 ⟨r1, rfl, h⟩
  refine it_V.at (pc1 := 15) (ls1 := [some (.ref k)]) (st1 := [(.int r1), (.int (m k 5)), (.ref k)]) (mem1 := m2) rfl rfl rfl rfl ?_
  refine it_V.sN it_cd128 it_m128 1 (pc1 := 16) (ls1 := [some (.ref k)]) (st1 := [(.int ((m k 5) + r1)), (.ref k)]) (mem1 := m2) rfl ?_
  refine it_V.putP it_cd128 it_m128 rfl (hk).1 rfl rfl rfl (Or.inl rfl) ?_
  refine it_V.at (pc1 := 19) (ls1 := [some (.ref k)]) (st1 := []) (mem1 := (it_sv m2 k 7 ((m k 5) + r1))) rfl rfl rfl rfl ?_
  refine it_V.sN it_cd128 it_m128 2 (pc1 := 21) (ls1 := [some (.ref k)]) (st1 := [(.ref k), (.ref k)]) (mem1 := (it_sv m2 k 7 ((m k 5) + r1))) rfl ?_
  refine it_V.call it_cd128 it_m128 rfl it_m129 [(.ref k)] [(.ref k)] rfl rfl ⟨Nat.le_of_ble_eq_true rfl, Nat.le_of_ble_eq_true rfl, Nat.le_of_ble_eq_true rfl, Nat.le_of_ble_eq_true rfl, (it_recvP (hk).1)⟩ (s_129 kc k (hk) (it_sv m2 k 7 ((m k 5) + r1)) _ h) ?_
  rintro _ m4 ⟨r3, rfl, h⟩
  refine it_V.at (pc1 := 24) (ls1 := [some (.ref k)]) (st1 := [(.int r3), (.ref k)]) (mem1 := m4) rfl rfl rfl rfl ?_
  refine it_V.putP it_cd128 it_m128 rfl (hk).1 rfl rfl rfl (Or.inl rfl) ?_
  refine it_V.at (pc1 := 27) (ls1 := [some (.ref k)]) (st1 := []) (mem1 := (it_sv m4 k 8 r3)) rfl rfl rfl rfl ?_
  refine it_V.sN it_cd128 it_m128 1 (pc1 := 28) (ls1 := [some (.ref k)]) (st1 := [(.ref k)]) (mem1 := (it_sv m4 k 8 r3)) rfl ?_
  refine it_V.getP it_cd128 it_m128 rfl (hk).1 rfl ?_
  refine it_V.at (pc1 := 31) (ls1 := [some (.ref k)]) (st1 := [(.ref (k + 4))]) (mem1 := (it_sv m4 k 8 r3)) rfl rfl rfl rfl ?_
  refine it_V.sN it_cd128 it_m128 1 (pc1 := 32) (ls1 := [some (.ref k)]) (st1 := [(.int (0 : Int32)), (.ref (k + 4))]) (mem1 := (it_sv m4 k 8 r3)) rfl ?_
  refine it_V.call it_cd128 it_m128 rfl it_m361 [(.ref (k + 4)), (.int (0 : Int32))] [] rfl rfl ⟨Nat.le_of_ble_eq_true rfl, Nat.le_of_ble_eq_true rfl, Nat.le_of_ble_eq_true rfl, Nat.le_of_ble_eq_true rfl, rfl⟩ (s_361 kc (k + 4) (0 : Int32) ((hk).2.2.2.2) (it_sv m4 k 8 r3) _ h) ?_
  rintro _ m5 ⟨rfl, h⟩
  refine it_V.at (pc1 := 35) (ls1 := [some (.ref k)]) (st1 := []) (mem1 := m5) rfl rfl rfl rfl ?_
  refine it_V.sN it_cd128 it_m128 2 (pc1 := 37) (ls1 := [some (.ref k)]) (st1 := [(.int (0 : Int32)), (.ref k)]) (mem1 := m5) rfl ?_
  refine it_V.putP it_cd128 it_m128 rfl (hk).1 rfl rfl rfl (Or.inl rfl) ?_
  refine it_V.at (pc1 := 40) (ls1 := [some (.ref k)]) (st1 := []) (mem1 := (it_sv m5 k 18 (0 : Int32))) rfl rfl rfl rfl ?_
  refine it_V.sN it_cd128 it_m128 2 (pc1 := 42) (ls1 := [some (.ref k)]) (st1 := [(.int (0 : Int32)), (.ref k)]) (mem1 := (it_sv m5 k 18 (0 : Int32))) rfl ?_
  refine it_V.putP it_cd128 it_m128 rfl (hk).1 rfl rfl rfl (Or.inl rfl) ?_
  refine it_V.at (pc1 := 45) (ls1 := [some (.ref k)]) (st1 := []) (mem1 := (it_sv (it_sv m5 k 18 (0 : Int32)) k 14 (0 : Int32))) rfl rfl rfl rfl ?_
  refine it_V.sN it_cd128 it_m128 1 (pc1 := 46) (ls1 := [some (.ref k)]) (st1 := [(.ref k)]) (mem1 := (it_sv (it_sv m5 k 18 (0 : Int32)) k 14 (0 : Int32))) rfl ?_
  refine it_V.getP it_cd128 it_m128 rfl (hk).1 rfl ?_
  refine it_V.at (pc1 := 49) (ls1 := [some (.ref k)]) (st1 := [(.ref (k + 2))]) (mem1 := (it_sv (it_sv m5 k 18 (0 : Int32)) k 14 (0 : Int32))) rfl rfl rfl rfl ?_
  refine it_V.sN it_cd128 it_m128 1 (pc1 := 50) (ls1 := [some (.ref k)]) (st1 := [(.int (0 : Int32)), (.ref (k + 2))]) (mem1 := (it_sv (it_sv m5 k 18 (0 : Int32)) k 14 (0 : Int32))) rfl ?_
  refine it_V.call it_cd128 it_m128 rfl it_m361 [(.ref (k + 2)), (.int (0 : Int32))] [] rfl rfl ⟨Nat.le_of_ble_eq_true rfl, Nat.le_of_ble_eq_true rfl, Nat.le_of_ble_eq_true rfl, Nat.le_of_ble_eq_true rfl, rfl⟩ (s_361 kc (k + 2) (0 : Int32) ((hk).2.2.1) (it_sv (it_sv m5 k 18 (0 : Int32)) k 14 (0 : Int32)) _ h) ?_
  rintro _ m6 ⟨rfl, h⟩
  refine it_V.at (pc1 := 53) (ls1 := [some (.ref k)]) (st1 := []) (mem1 := m6) rfl rfl rfl rfl ?_
  refine it_V.sN it_cd128 it_m128 1 (pc1 := 54) (ls1 := [some (.ref k)]) (st1 := [(.ref k)]) (mem1 := m6) rfl ?_
  refine it_V.getP it_cd128 it_m128 rfl (hk).1 rfl ?_
  refine it_V.at (pc1 := 57) (ls1 := [some (.ref k)]) (st1 := [(.ref (k + 2))]) (mem1 := m6) rfl rfl rfl rfl ?_
  refine it_V.sN it_cd128 it_m128 2 (pc1 := 59) (ls1 := [some (.ref k)]) (st1 := [(.ref k), (.int (2 : Int32)), (.ref (k + 2))]) (mem1 := m6) rfl ?_
  refine it_V.getP it_cd128 it_m128 rfl (hk).1 rfl ?_
  refine it_V.at (pc1 := 62) (ls1 := [some (.ref k)]) (st1 := [(.int (m6 k 7)), (.int (2 : Int32)), (.ref (k + 2))]) (mem1 := m6) rfl rfl rfl rfl ?_
  obtain ⟨g7, h⟩ := h
  refine it_V.iast it_cd128 it_m128 rfl ((hk).2.2.1).1 g7 ?_
  refine it_V.at (pc1 := 63) (ls1 := [some (.ref k)]) (st1 := []) (mem1 := (it_sv m6 (k + 2) (Int32.toNatClampNeg (2 : Int32)) (m6 k 7))) rfl rfl rfl rfl ?_
  refine it_V.sN it_cd128 it_m128 1 (pc1 := 64) (ls1 := [some (.ref k)]) (st1 := [(.ref k)]) (mem1 := (it_sv m6 (k + 2) (Int32.toNatClampNeg (2 : Int32)) (m6 k 7))) rfl ?_
  refine it_V.getP it_cd128 it_m128 rfl (hk).1 rfl ?_
  refine it_V.at (pc1 := 67) (ls1 := [some (.ref k)]) (st1 := [(.ref (k + 2))]) (mem1 := (it_sv m6 (k + 2) (Int32.toNatClampNeg (2 : Int32)) (m6 k 7))) rfl rfl rfl rfl ?_
  refine it_V.sN it_cd128 it_m128 2 (pc1 := 70) (ls1 := [some (.ref k)]) (st1 := [(.ref k), (.int (10 : Int32)), (.ref (k + 2))]) (mem1 := (it_sv m6 (k + 2) (Int32.toNatClampNeg (2 : Int32)) (m6 k 7))) rfl ?_
  refine it_V.getP it_cd128 it_m128 rfl (hk).1 rfl ?_
  refine it_V.at (pc1 := 73) (ls1 := [some (.ref k)]) (st1 := [(.ref (k + 1)), (.int (10 : Int32)), (.ref (k + 2))]) (mem1 := (it_sv m6 (k + 2) (Int32.toNatClampNeg (2 : Int32)) (m6 k 7))) rfl rfl rfl rfl ?_
  refine it_V.getP it_cd128 it_m128 rfl (hk).2.1 rfl ?_
  refine it_V.at (pc1 := 76) (ls1 := [some (.ref k)]) (st1 := [(.int ((it_sv m6 (k + 2) (Int32.toNatClampNeg (2 : Int32)) (m6 k 7)) (k + 1) 1)), (.int (10 : Int32)), (.ref (k + 2))]) (mem1 := (it_sv m6 (k + 2) (Int32.toNatClampNeg (2 : Int32)) (m6 k 7))) rfl rfl rfl rfl ?_
  refine it_V.sN it_cd128 it_m128 1 (pc1 := 77) (ls1 := [some (.ref k)]) (st1 := [(.ref k), (.int ((it_sv m6 (k + 2) (Int32.toNatClampNeg (2 : Int32)) (m6 k 7)) (k + 1) 1)), (.int (10 : Int32)), (.ref (k + 2))]) (mem1 := (it_sv m6 (k + 2) (Int32.toNatClampNeg (2 : Int32)) (m6 k 7))) rfl ?_
  refine it_V.getP it_cd128 it_m128 rfl (hk).1 rfl ?_
  refine it_V.at (pc1 := 80) (ls1 := [some (.ref k)]) (st1 := [(.ref (k + 1)), (.int ((it_sv m6 (k + 2) (Int32.toNatClampNeg (2 : Int32)) (m6 k 7)) (k + 1) 1)), (.int (10 : Int32)), (.ref (k + 2))]) (mem1 := (it_sv m6 (k + 2) (Int32.toNatClampNeg (2 : Int32)) (m6 k 7))) rfl rfl rfl rfl ?_
  refine it_V.getP it_cd128 it_m128 rfl (hk).2.1 rfl ?_
  refine it_V.at (pc1 := 83) (ls1 := [some (.ref k)]) (st1 := [(.int ((it_sv m6 (k + 2) (Int32.toNatClampNeg (2 : Int32)) (m6 k 7)) (k + 1) 2)), (.int ((it_sv m6 (k + 2) (Int32.toNatClampNeg (2 : Int32)) (m6 k 7)) (k + 1) 1)), (.int (10 : Int32)), (.ref (k + 2))]) (mem1 := (it_sv m6 (k + 2) (Int32.toNatClampNeg (2 : Int32)) (m6 k 7))) rfl rfl rfl rfl ?_
  refine it_V.sN it_cd128 it_m128 1 (pc1 := 84) (ls1 := [some (.ref k)]) (st1 := [(.int (((it_sv m6 (k + 2) (Int32.toNatClampNeg (2 : Int32)) (m6 k 7)) (k + 1) 1) + ((it_sv m6 (k + 2) (Int32.toNatClampNeg (2 : Int32)) (m6 k 7)) (k + 1) 2))), (.int (10 : Int32)), (.ref (k + 2))]) (mem1 := (it_sv m6 (k + 2) (Int32.toNatClampNeg (2 : Int32)) (m6 k 7))) rfl ?_
  obtain ⟨g8, h⟩ := h
  refine it_V.iast it_cd128 it_m128 rfl ((hk).2.2.1).1 g8 ?_
  refine it_V.at (pc1 := 85) (ls1 := [some (.ref k)]) (st1 := []) (mem1 := (it_sv (it_sv m6 (k + 2) (Int32.toNatClampNeg (2 : Int32)) (m6 k 7)) (k + 2) (Int32.toNatClampNeg (10 : Int32)) (((it_sv m6 (k + 2) (Int32.toNatClampNeg (2 : Int32)) (m6 k 7)) (k + 1) 1) + ((it_sv m6 (k + 2) (Int32.toNatClampNeg (2 : Int32)) (m6 k 7)) (k + 1) 2)))) rfl rfl rfl rfl ?_
  refine it_V.sN it_cd128 it_m128 1 (pc1 := 86) (ls1 := [some (.ref k)]) (st1 := [(.ref k)]) (mem1 := (it_sv (it_sv m6 (k + 2) (Int32.toNatClampNeg (2 : Int32)) (m6 k 7)) (k + 2) (Int32.toNatClampNeg (10 : Int32)) (((it_sv m6 (k + 2) (Int32.toNatClampNeg (2 : Int32)) (m6 k 7)) (k + 1) 1) + ((it_sv m6 (k + 2) (Int32.toNatClampNeg (2 : Int32)) (m6 k 7)) (k + 1) 2)))) rfl ?_
  refine it_V.getP it_cd128 it_m128 rfl (hk).1 rfl ?_
  refine it_V.at (pc1 := 89) (ls1 := [some (.ref k)]) (st1 := [(.ref (k + 2))]) (mem1 := (it_sv (it_sv m6 (k + 2) (Int32.toNatClampNeg (2 : Int32)) (m6 k 7)) (k + 2) (Int32.toNatClampNeg (10 : Int32)) (((it_sv m6 (k + 2) (Int32.toNatClampNeg (2 : Int32)) (m6 k 7)) (k + 1) 1) + ((it_sv m6 (k + 2) (Int32.toNatClampNeg (2 : Int32)) (m6 k 7)) (k + 1) 2)))) rfl rfl rfl rfl ?_
  refine it_V.sN it_cd128 it_m128 2 (pc1 := 92) (ls1 := [some (.ref k)]) (st1 := [(.ref k), (.int (11 : Int32)), (.ref (k + 2))]) (mem1 := (it_sv (it_sv m6 (k + 2) (Int32.toNatClampNeg (2 : Int32)) (m6 k 7)) (k + 2) (Int32.toNatClampNeg (10 : Int32)) (((it_sv m6 (k + 2) (Int32.toNatClampNeg (2 : Int32)) (m6 k 7)) (k + 1) 1) + ((it_sv m6 (k + 2) (Int32.toNatClampNeg (2 : Int32)) (m6 k 7)) (k + 1) 2)))) rfl ?_
  refine it_V.getP it_cd128 it_m128 rfl (hk).1 rfl ?_
  refine it_V.at (pc1 := 95) (ls1 := [some (.ref k)]) (st1 := [(.int ((it_sv (it_sv m6 (k + 2) (Int32.toNatClampNeg (2 : Int32)) (m6 k 7)) (k + 2) (Int32.toNatClampNeg (10 : Int32)) (((it_sv m6 (k + 2) (Int32.toNatClampNeg (2 : Int32)) (m6 k 7)) (k + 1) 1) + ((it_sv m6 (k + 2) (Int32.toNatClampNeg (2 : Int32)) (m6 k 7)) (k + 1) 2))) k 5)), (.int (11 : Int32)), (.ref (k + 2))]) (mem1 := (it_sv (it_sv m6 (k + 2) (Int32.toNatClampNeg (2 : Int32)) (m6 k 7)) (k + 2) (Int32.toNatClampNeg (10 : Int32)) (((it_sv m6 (k + 2) (Int32.toNatClampNeg (2 : Int32)) (m6 k 7)) (k + 1) 1) + ((it_sv m6 (k + 2) (Int32.toNatClampNeg (2 : Int32)) (m6 k 7)) (k + 1) 2)))) rfl rfl rfl rfl ?_
  obtain ⟨g9, h⟩ := h
  refine it_V.iast it_cd128 it_m128 rfl ((hk).2.2.1).1 g9 ?_
  refine it_V.at (pc1 := 96) (ls1 := [some (.ref k)]) (st1 := []) (mem1 := (it_sv (it_sv (it_sv m6 (k + 2) (Int32.toNatClampNeg (2 : Int32)) (m6 k 7)) (k + 2) (Int32.toNatClampNeg (10 : Int32)) (((it_sv m6 (k + 2) (Int32.toNatClampNeg (2 : Int32)) (m6 k 7)) (k + 1) 1) + ((it_sv m6 (k + 2) (Int32.toNatClampNeg (2 : Int32)) (m6 k 7)) (k + 1) 2))) (k + 2) (Int32.toNatClampNeg (11 : Int32)) ((it_sv (it_sv m6 (k + 2) (Int32.toNatClampNeg (2 : Int32)) (m6 k 7)) (k + 2) (Int32.toNatClampNeg (10 : Int32)) (((it_sv m6 (k + 2) (Int32.toNatClampNeg (2 : Int32)) (m6 k 7)) (k + 1) 1) + ((it_sv m6 (k + 2) (Int32.toNatClampNeg (2 : Int32)) (m6 k 7)) (k + 1) 2))) k 5))) rfl rfl rfl rfl ?_
  refine it_V.sN it_cd128 it_m128 1 (pc1 := 97) (ls1 := [some (.ref k)]) (st1 := [(.ref k)]) (mem1 := (it_sv (it_sv (it_sv m6 (k + 2) (Int32.toNatClampNeg (2 : Int32)) (m6 k 7)) (k + 2) (Int32.toNatClampNeg (10 : Int32)) (((it_sv m6 (k + 2) (Int32.toNatClampNeg (2 : Int32)) (m6 k 7)) (k + 1) 1) + ((it_sv m6 (k + 2) (Int32.toNatClampNeg (2 : Int32)) (m6 k 7)) (k + 1) 2))) (k + 2) (Int32.toNatClampNeg (11 : Int32)) ((it_sv (it_sv m6 (k + 2) (Int32.toNatClampNeg (2 : Int32)) (m6 k 7)) (k + 2) (Int32.toNatClampNeg (10 : Int32)) (((it_sv m6 (k + 2) (Int32.toNatClampNeg (2 : Int32)) (m6 k 7)) (k + 1) 1) + ((it_sv m6 (k + 2) (Int32.toNatClampNeg (2 : Int32)) (m6 k 7)) (k + 1) 2))) k 5))) rfl ?_
  refine it_V.getP it_cd128 it_m128 rfl (hk).1 rfl ?_
  refine it_V.at (pc1 := 100) (ls1 := [some (.ref k)]) (st1 := [(.ref (k + 2))]) (mem1 := (it_sv (it_sv (it_sv m6 (k + 2) (Int32.toNatClampNeg (2 : Int32)) (m6 k 7)) (k + 2) (Int32.toNatClampNeg (10 : Int32)) (((it_sv m6 (k + 2) (Int32.toNatClampNeg (2 : Int32)) (m6 k 7)) (k + 1) 1) + ((it_sv m6 (k + 2) (Int32.toNatClampNeg (2 : Int32)) (m6 k 7)) (k + 1) 2))) (k + 2) (Int32.toNatClampNeg (11 : Int32)) ((it_sv (it_sv m6 (k + 2) (Int32.toNatClampNeg (2 : Int32)) (m6 k 7)) (k + 2) (Int32.toNatClampNeg (10 : Int32)) (((it_sv m6 (k + 2) (Int32.toNatClampNeg (2 : Int32)) (m6 k 7)) (k + 1) 1) + ((it_sv m6 (k + 2) (Int32.toNatClampNeg (2 : Int32)) (m6 k 7)) (k + 1) 2))) k 5))) rfl rfl rfl rfl ?_
  refine it_V.sN it_cd128 it_m128 2 (pc1 := 103) (ls1 := [some (.ref k)]) (st1 := [(.ref k), (.int (12 : Int32)), (.ref (k + 2))]) (mem1 := (it_sv (it_sv (it_sv m6 (k + 2) (Int32.toNatClampNeg (2 : Int32)) (m6 k 7)) (k + 2) (Int32.toNatClampNeg (10 : Int32)) (((it_sv m6 (k + 2) (Int32.toNatClampNeg (2 : Int32)) (m6 k 7)) (k + 1) 1) + ((it_sv m6 (k + 2) (Int32.toNatClampNeg (2 : Int32)) (m6 k 7)) (k + 1) 2))) (k + 2) (Int32.toNatClampNeg (11 : Int32)) ((it_sv (it_sv m6 (k + 2) (Int32.toNatClampNeg (2 : Int32)) (m6 k 7)) (k + 2) (Int32.toNatClampNeg (10 : Int32)) (((it_sv m6 (k + 2) (Int32.toNatClampNeg (2 : Int32)) (m6 k 7)) (k + 1) 1) + ((it_sv m6 (k + 2) (Int32.toNatClampNeg (2 : Int32)) (m6 k 7)) (k + 1) 2))) k 5))) rfl ?_
  refine it_V.getP it_cd128 it_m128 rfl (hk).1 rfl ?_
  refine it_V.at (pc1 := 106) (ls1 := [some (.ref k)]) (st1 := [(.int ((it_sv (it_sv (it_sv m6 (k + 2) (Int32.toNatClampNeg (2 : Int32)) (m6 k 7)) (k + 2) (Int32.toNatClampNeg (10 : Int32)) (((it_sv m6 (k + 2) (Int32.toNatClampNeg (2 : Int32)) (m6 k 7)) (k + 1) 1) + ((it_sv m6 (k + 2) (Int32.toNatClampNeg (2 : Int32)) (m6 k 7)) (k + 1) 2))) (k + 2) (Int32.toNatClampNeg (11 : Int32)) ((it_sv (it_sv m6 (k + 2) (Int32.toNatClampNeg (2 : Int32)) (m6 k 7)) (k + 2) (Int32.toNatClampNeg (10 : Int32)) (((it_sv m6 (k + 2) (Int32.toNatClampNeg (2 : Int32)) (m6 k 7)) (k + 1) 1) + ((it_sv m6 (k + 2) (Int32.toNatClampNeg (2 : Int32)) (m6 k 7)) (k + 1) 2))) k 5)) k 6)), (.int (12 : Int32)), (.ref (k + 2))]) (mem1 := (it_sv (it_sv (it_sv m6 (k + 2) (Int32.toNatClampNeg (2 : Int32)) (m6 k 7)) (k + 2) (Int32.toNatClampNeg (10 : Int32)) (((it_sv m6 (k + 2) (Int32.toNatClampNeg (2 : Int32)) (m6 k 7)) (k + 1) 1) + ((it_sv m6 (k + 2) (Int32.toNatClampNeg (2 : Int32)) (m6 k 7)) (k + 1) 2))) (k + 2) (Int32.toNatClampNeg (11 : Int32)) ((it_sv (it_sv m6 (k + 2) (Int32.toNatClampNeg (2 : Int32)) (m6 k 7)) (k + 2) (Int32.toNatClampNeg (10 : Int32)) (((it_sv m6 (k + 2) (Int32.toNatClampNeg (2 : Int32)) (m6 k 7)) (k + 1) 1) + ((it_sv m6 (k + 2) (Int32.toNatClampNeg (2 : Int32)) (m6 k 7)) (k + 1) 2))) k 5))) rfl rfl rfl rfl ?_
  obtain ⟨g10, h⟩ := h
  refine it_V.iast it_cd128 it_m128 rfl ((hk).2.2.1).1 g10 ?_
  refine it_V.at (pc1 := 107) (ls1 := [some (.ref k)]) (st1 := []) (mem1 := (it_sv (it_sv (it_sv (it_sv m6 (k + 2) (Int32.toNatClampNeg (2 : Int32)) (m6 k 7)) (k + 2) (Int32.toNatClampNeg (10 : Int32)) (((it_sv m6 (k + 2) (Int32.toNatClampNeg (2 : Int32)) (m6 k 7)) (k + 1) 1) + ((it_sv m6 (k + 2) (Int32.toNatClampNeg (2 : Int32)) (m6 k 7)) (k + 1) 2))) (k + 2) (Int32.toNatClampNeg (11 : Int32)) ((it_sv (it_sv m6 (k + 2) (Int32.toNatClampNeg (2 : Int32)) (m6 k 7)) (k + 2) (Int32.toNatClampNeg (10 : Int32)) (((it_sv m6 (k + 2) (Int32.toNatClampNeg (2 : Int32)) (m6 k 7)) (k + 1) 1) + ((it_sv m6 (k + 2) (Int32.toNatClampNeg (2 : Int32)) (m6 k 7)) (k + 1) 2))) k 5)) (k + 2) (Int32.toNatClampNeg (12 : Int32)) ((it_sv (it_sv (it_sv m6 (k + 2) (Int32.toNatClampNeg (2 : Int32)) (m6 k 7)) (k + 2) (Int32.toNatClampNeg (10 : Int32)) (((it_sv m6 (k + 2) (Int32.toNatClampNeg (2 : Int32)) (m6 k 7)) (k + 1) 1) + ((it_sv m6 (k + 2) (Int32.toNatClampNeg (2 : Int32)) (m6 k 7)) (k + 1) 2))) (k + 2) (Int32.toNatClampNeg (11 : Int32)) ((it_sv (it_sv m6 (k + 2) (Int32.toNatClampNeg (2 : Int32)) (m6 k 7)) (k + 2) (Int32.toNatClampNeg (10 : Int32)) (((it_sv m6 (k + 2) (Int32.toNatClampNeg (2 : Int32)) (m6 k 7)) (k + 1) 1) + ((it_sv m6 (k + 2) (Int32.toNatClampNeg (2 : Int32)) (m6 k 7)) (k + 1) 2))) k 5)) k 6))) rfl rfl rfl rfl ?_
  refine it_V.sN it_cd128 it_m128 1 (pc1 := 108) (ls1 := [some (.ref k)]) (st1 := [(.ref k)]) (mem1 := (it_sv (it_sv (it_sv (it_sv m6 (k + 2) (Int32.toNatClampNeg (2 : Int32)) (m6 k 7)) (k + 2) (Int32.toNatClampNeg (10 : Int32)) (((it_sv m6 (k + 2) (Int32.toNatClampNeg (2 : Int32)) (m6 k 7)) (k + 1) 1) + ((it_sv m6 (k + 2) (Int32.toNatClampNeg (2 : Int32)) (m6 k 7)) (k + 1) 2))) (k + 2) (Int32.toNatClampNeg (11 : Int32)) ((it_sv (it_sv m6 (k + 2) (Int32.toNatClampNeg (2 : Int32)) (m6 k 7)) (k + 2) (Int32.toNatClampNeg (10 : Int32)) (((it_sv m6 (k + 2) (Int32.toNatClampNeg (2 : Int32)) (m6 k 7)) (k + 1) 1) + ((it_sv m6 (k + 2) (Int32.toNatClampNeg (2 : Int32)) (m6 k 7)) (k + 1) 2))) k 5)) (k + 2) (Int32.toNatClampNeg (12 : Int32)) ((it_sv (it_sv (it_sv m6 (k + 2) (Int32.toNatClampNeg (2 : Int32)) (m6 k 7)) (k + 2) (Int32.toNatClampNeg (10 : Int32)) (((it_sv m6 (k + 2) (Int32.toNatClampNeg (2 : Int32)) (m6 k 7)) (k + 1) 1) + ((it_sv m6 (k + 2) (Int32.toNatClampNeg (2 : Int32)) (m6 k 7)) (k + 1) 2))) (k + 2) (Int32.toNatClampNeg (11 : Int32)) ((it_sv (it_sv m6 (k + 2) (Int32.toNatClampNeg (2 : Int32)) (m6 k 7)) (k + 2) (Int32.toNatClampNeg (10 : Int32)) (((it_sv m6 (k + 2) (Int32.toNatClampNeg (2 : Int32)) (m6 k 7)) (k + 1) 1) + ((it_sv m6 (k + 2) (Int32.toNatClampNeg (2 : Int32)) (m6 k 7)) (k + 1) 2))) k 5)) k 6))) rfl ?_
  refine it_V.getP it_cd128 it_m128 rfl (hk).1 rfl ?_
  refine it_V.at (pc1 := 111) (ls1 := [some (.ref k)]) (st1 := [(.ref (k + 2))]) (mem1 := (it_sv (it_sv (it_sv (it_sv m6 (k + 2) (Int32.toNatClampNeg (2 : Int32)) (m6 k 7)) (k + 2) (Int32.toNatClampNeg (10 : Int32)) (((it_sv m6 (k + 2) (Int32.toNatClampNeg (2 : Int32)) (m6 k 7)) (k + 1) 1) + ((it_sv m6 (k + 2) (Int32.toNatClampNeg (2 : Int32)) (m6 k 7)) (k + 1) 2))) (k + 2) (Int32.toNatClampNeg (11 : Int32)) ((it_sv (it_sv m6 (k + 2) (Int32.toNatClampNeg (2 : Int32)) (m6 k 7)) (k + 2) (Int32.toNatClampNeg (10 : Int32)) (((it_sv m6 (k + 2) (Int32.toNatClampNeg (2 : Int32)) (m6 k 7)) (k + 1) 1) + ((it_sv m6 (k + 2) (Int32.toNatClampNeg (2 : Int32)) (m6 k 7)) (k + 1) 2))) k 5)) (k + 2) (Int32.toNatClampNeg (12 : Int32)) ((it_sv (it_sv (it_sv m6 (k + 2) (Int32.toNatClampNeg (2 : Int32)) (m6 k 7)) (k + 2) (Int32.toNatClampNeg (10 : Int32)) (((it_sv m6 (k + 2) (Int32.toNatClampNeg (2 : Int32)) (m6 k 7)) (k + 1) 1) + ((it_sv m6 (k + 2) (Int32.toNatClampNeg (2 : Int32)) (m6 k 7)) (k + 1) 2))) (k + 2) (Int32.toNatClampNeg (11 : Int32)) ((it_sv (it_sv m6 (k + 2) (Int32.toNatClampNeg (2 : Int32)) (m6 k 7)) (k + 2) (Int32.toNatClampNeg (10 : Int32)) (((it_sv m6 (k + 2) (Int32.toNatClampNeg (2 : Int32)) (m6 k 7)) (k + 1) 1) + ((it_sv m6 (k + 2) (Int32.toNatClampNeg (2 : Int32)) (m6 k 7)) (k + 1) 2))) k 5)) k 6))) rfl rfl rfl rfl ?_
  refine it_V.sN it_cd128 it_m128 2 (pc1 := 114) (ls1 := [some (.ref k)]) (st1 := [(.ref k), (.int (13 : Int32)), (.ref (k + 2))]) (mem1 := (it_sv (it_sv (it_sv (it_sv m6 (k + 2) (Int32.toNatClampNeg (2 : Int32)) (m6 k 7)) (k + 2) (Int32.toNatClampNeg (10 : Int32)) (((it_sv m6 (k + 2) (Int32.toNatClampNeg (2 : Int32)) (m6 k 7)) (k + 1) 1) + ((it_sv m6 (k + 2) (Int32.toNatClampNeg (2 : Int32)) (m6 k 7)) (k + 1) 2))) (k + 2) (Int32.toNatClampNeg (11 : Int32)) ((it_sv (it_sv m6 (k + 2) (Int32.toNatClampNeg (2 : Int32)) (m6 k 7)) (k + 2) (Int32.toNatClampNeg (10 : Int32)) (((it_sv m6 (k + 2) (Int32.toNatClampNeg (2 : Int32)) (m6 k 7)) (k + 1) 1) + ((it_sv m6 (k + 2) (Int32.toNatClampNeg (2 : Int32)) (m6 k 7)) (k + 1) 2))) k 5)) (k + 2) (Int32.toNatClampNeg (12 : Int32)) ((it_sv (it_sv (it_sv m6 (k + 2) (Int32.toNatClampNeg (2 : Int32)) (m6 k 7)) (k + 2) (Int32.toNatClampNeg (10 : Int32)) (((it_sv m6 (k + 2) (Int32.toNatClampNeg (2 : Int32)) (m6 k 7)) (k + 1) 1) + ((it_sv m6 (k + 2) (Int32.toNatClampNeg (2 : Int32)) (m6 k 7)) (k + 1) 2))) (k + 2) (Int32.toNatClampNeg (11 : Int32)) ((it_sv (it_sv m6 (k + 2) (Int32.toNatClampNeg (2 : Int32)) (m6 k 7)) (k + 2) (Int32.toNatClampNeg (10 : Int32)) (((it_sv m6 (k + 2) (Int32.toNatClampNeg (2 : Int32)) (m6 k 7)) (k + 1) 1) + ((it_sv m6 (k + 2) (Int32.toNatClampNeg (2 : Int32)) (m6 k 7)) (k + 1) 2))) k 5)) k 6))) rfl ?_
  refine it_V.getP it_cd128 it_m128 rfl (hk).1 rfl ?_
  refine it_V.at (pc1 := 117) (ls1 := [some (.ref k)]) (st1 := [(.int ((it_sv (it_sv (it_sv (it_sv m6 (k + 2) (Int32.toNatClampNeg (2 : Int32)) (m6 k 7)) (k + 2) (Int32.toNatClampNeg (10 : Int32)) (((it_sv m6 (k + 2) (Int32.toNatClampNeg (2 : Int32)) (m6 k 7)) (k + 1) 1) + ((it_sv m6 (k + 2) (Int32.toNatClampNeg (2 : Int32)) (m6 k 7)) (k + 1) 2))) (k + 2) (Int32.toNatClampNeg (11 : Int32)) ((it_sv (it_sv m6 (k + 2) (Int32.toNatClampNeg (2 : Int32)) (m6 k 7)) (k + 2) (Int32.toNatClampNeg (10 : Int32)) (((it_sv m6 (k + 2) (Int32.toNatClampNeg (2 : Int32)) (m6 k 7)) (k + 1) 1) + ((it_sv m6 (k + 2) (Int32.toNatClampNeg (2 : Int32)) (m6 k 7)) (k + 1) 2))) k 5)) (k + 2) (Int32.toNatClampNeg (12 : Int32)) ((it_sv (it_sv (it_sv m6 (k + 2) (Int32.toNatClampNeg (2 : Int32)) (m6 k 7)) (k + 2) (Int32.toNatClampNeg (10 : Int32)) (((it_sv m6 (k + 2) (Int32.toNatClampNeg (2 : Int32)) (m6 k 7)) (k + 1) 1) + ((it_sv m6 (k + 2) (Int32.toNatClampNeg (2 : Int32)) (m6 k 7)) (k + 1) 2))) (k + 2) (Int32.toNatClampNeg (11 : Int32)) ((it_sv (it_sv m6 (k + 2) (Int32.toNatClampNeg (2 : Int32)) (m6 k 7)) (k + 2) (Int32.toNatClampNeg (10 : Int32)) (((it_sv m6 (k + 2) (Int32.toNatClampNeg (2 : Int32)) (m6 k 7)) (k + 1) 1) + ((it_sv m6 (k + 2) (Int32.toNatClampNeg (2 : Int32)) (m6 k 7)) (k + 1) 2))) k 5)) k 6)) k 7)), (.int (13 : Int32)), (.ref (k + 2))]) (mem1 := (it_sv (it_sv (it_sv (it_sv m6 (k + 2) (Int32.toNatClampNeg (2 : Int32)) (m6 k 7)) (k + 2) (Int32.toNatClampNeg (10 : Int32)) (((it_sv m6 (k + 2) (Int32.toNatClampNeg (2 : Int32)) (m6 k 7)) (k + 1) 1) + ((it_sv m6 (k + 2) (Int32.toNatClampNeg (2 : Int32)) (m6 k 7)) (k + 1) 2))) (k + 2) (Int32.toNatClampNeg (11 : Int32)) ((it_sv (it_sv m6 (k + 2) (Int32.toNatClampNeg (2 : Int32)) (m6 k 7)) (k + 2) (Int32.toNatClampNeg (10 : Int32)) (((it_sv m6 (k + 2) (Int32.toNatClampNeg (2 : Int32)) (m6 k 7)) (k + 1) 1) + ((it_sv m6 (k + 2) (Int32.toNatClampNeg (2 : Int32)) (m6 k 7)) (k + 1) 2))) k 5)) (k + 2) (Int32.toNatClampNeg (12 : Int32)) ((it_sv (it_sv (it_sv m6 (k + 2) (Int32.toNatClampNeg (2 : Int32)) (m6 k 7)) (k + 2) (Int32.toNatClampNeg (10 : Int32)) (((it_sv m6 (k + 2) (Int32.toNatClampNeg (2 : Int32)) (m6 k 7)) (k + 1) 1) + ((it_sv m6 (k + 2) (Int32.toNatClampNeg (2 : Int32)) (m6 k 7)) (k + 1) 2))) (k + 2) (Int32.toNatClampNeg (11 : Int32)) ((it_sv (it_sv m6 (k + 2) (Int32.toNatClampNeg (2 : Int32)) (m6 k 7)) (k + 2) (Int32.toNatClampNeg (10 : Int32)) (((it_sv m6 (k + 2) (Int32.toNatClampNeg (2 : Int32)) (m6 k 7)) (k + 1) 1) + ((it_sv m6 (k + 2) (Int32.toNatClampNeg (2 : Int32)) (m6 k 7)) (k + 1) 2))) k 5)) k 6))) rfl rfl rfl rfl ?_
  obtain ⟨g11, h⟩ := h
  refine it_V.iast it_cd128 it_m128 rfl ((hk).2.2.1).1 g11 ?_
  refine it_V.at (pc1 := 118) (ls1 := [some (.ref k)]) (st1 := []) (mem1 := (it_sv (it_sv (it_sv (it_sv (it_sv m6 (k + 2) (Int32.toNatClampNeg (2 : Int32)) (m6 k 7)) (k + 2) (Int32.toNatClampNeg (10 : Int32)) (((it_sv m6 (k + 2) (Int32.toNatClampNeg (2 : Int32)) (m6 k 7)) (k + 1) 1) + ((it_sv m6 (k + 2) (Int32.toNatClampNeg (2 : Int32)) (m6 k 7)) (k + 1) 2))) (k + 2) (Int32.toNatClampNeg (11 : Int32)) ((it_sv (it_sv m6 (k + 2) (Int32.toNatClampNeg (2 : Int32)) (m6 k 7)) (k + 2) (Int32.toNatClampNeg (10 : Int32)) (((it_sv m6 (k + 2) (Int32.toNatClampNeg (2 : Int32)) (m6 k 7)) (k + 1) 1) + ((it_sv m6 (k + 2) (Int32.toNatClampNeg (2 : Int32)) (m6 k 7)) (k + 1) 2))) k 5)) (k + 2) (Int32.toNatClampNeg (12 : Int32)) ((it_sv (it_sv (it_sv m6 (k + 2) (Int32.toNatClampNeg (2 : Int32)) (m6 k 7)) (k + 2) (Int32.toNatClampNeg (10 : Int32)) (((it_sv m6 (k + 2) (Int32.toNatClampNeg (2 : Int32)) (m6 k 7)) (k + 1) 1) + ((it_sv m6 (k + 2) (Int32.toNatClampNeg (2 : Int32)) (m6 k 7)) (k + 1) 2))) (k + 2) (Int32.toNatClampNeg (11 : Int32)) ((it_sv (it_sv m6 (k + 2) (Int32.toNatClampNeg (2 : Int32)) (m6 k 7)) (k + 2) (Int32.toNatClampNeg (10 : Int32)) (((it_sv m6 (k + 2) (Int32.toNatClampNeg (2 : Int32)) (m6 k 7)) (k + 1) 1) + ((it_sv m6 (k + 2) (Int32.toNatClampNeg (2 : Int32)) (m6 k 7)) (k + 1) 2))) k 5)) k 6)) (k + 2) (Int32.toNatClampNeg (13 : Int32)) ((it_sv (it_sv (it_sv (it_sv m6 (k + 2) (Int32.toNatClampNeg (2 : Int32)) (m6 k 7)) (k + 2) (Int32.toNatClampNeg (10 : Int32)) (((it_sv m6 (k + 2) (Int32.toNatClampNeg (2 : Int32)) (m6 k 7)) (k + 1) 1) + ((it_sv m6 (k + 2) (Int32.toNatClampNeg (2 : Int32)) (m6 k 7)) (k + 1) 2))) (k + 2) (Int32.toNatClampNeg (11 : Int32)) ((it_sv (it_sv m6 (k + 2) (Int32.toNatClampNeg (2 : Int32)) (m6 k 7)) (k + 2) (Int32.toNatClampNeg (10 : Int32)) (((it_sv m6 (k + 2) (Int32.toNatClampNeg (2 : Int32)) (m6 k 7)) (k + 1) 1) + ((it_sv m6 (k + 2) (Int32.toNatClampNeg (2 : Int32)) (m6 k 7)) (k + 1) 2))) k 5)) (k + 2) (Int32.toNatClampNeg (12 : Int32)) ((it_sv (it_sv (it_sv m6 (k + 2) (Int32.toNatClampNeg (2 : Int32)) (m6 k 7)) (k + 2) (Int32.toNatClampNeg (10 : Int32)) (((it_sv m6 (k + 2) (Int32.toNatClampNeg (2 : Int32)) (m6 k 7)) (k + 1) 1) + ((it_sv m6 (k + 2) (Int32.toNatClampNeg (2 : Int32)) (m6 k 7)) (k + 1) 2))) (k + 2) (Int32.toNatClampNeg (11 : Int32)) ((it_sv (it_sv m6 (k + 2) (Int32.toNatClampNeg (2 : Int32)) (m6 k 7)) (k + 2) (Int32.toNatClampNeg (10 : Int32)) (((it_sv m6 (k + 2) (Int32.toNatClampNeg (2 : Int32)) (m6 k 7)) (k + 1) 1) + ((it_sv m6 (k + 2) (Int32.toNatClampNeg (2 : Int32)) (m6 k 7)) (k + 1) 2))) k 5)) k 6)) k 7))) rfl rfl rfl rfl ?_
  refine it_V.sN it_cd128 it_m128 2 (pc1 := 120) (ls1 := [some (.ref k)]) (st1 := [(.ref k), (.ref k)]) (mem1 := (it_sv (it_sv (it_sv (it_sv (it_sv m6 (k + 2) (Int32.toNatClampNeg (2 : Int32)) (m6 k 7)) (k + 2) (Int32.toNatClampNeg (10 : Int32)) (((it_sv m6 (k + 2) (Int32.toNatClampNeg (2 : Int32)) (m6 k 7)) (k + 1) 1) + ((it_sv m6 (k + 2) (Int32.toNatClampNeg (2 : Int32)) (m6 k 7)) (k + 1) 2))) (k + 2) (Int32.toNatClampNeg (11 : Int32)) ((it_sv (it_sv m6 (k + 2) (Int32.toNatClampNeg (2 : Int32)) (m6 k 7)) (k + 2) (Int32.toNatClampNeg (10 : Int32)) (((it_sv m6 (k + 2) (Int32.toNatClampNeg (2 : Int32)) (m6 k 7)) (k + 1) 1) + ((it_sv m6 (k + 2) (Int32.toNatClampNeg (2 : Int32)) (m6 k 7)) (k + 1) 2))) k 5)) (k + 2) (Int32.toNatClampNeg (12 : Int32)) ((it_sv (it_sv (it_sv m6 (k + 2) (Int32.toNatClampNeg (2 : Int32)) (m6 k 7)) (k + 2) (Int32.toNatClampNeg (10 : Int32)) (((it_sv m6 (k + 2) (Int32.toNatClampNeg (2 : Int32)) (m6 k 7)) (k + 1) 1) + ((it_sv m6 (k + 2) (Int32.toNatClampNeg (2 : Int32)) (m6 k 7)) (k + 1) 2))) (k + 2) (Int32.toNatClampNeg (11 : Int32)) ((it_sv (it_sv m6 (k + 2) (Int32.toNatClampNeg (2 : Int32)) (m6 k 7)) (k + 2) (Int32.toNatClampNeg (10 : Int32)) (((it_sv m6 (k + 2) (Int32.toNatClampNeg (2 : Int32)) (m6 k 7)) (k + 1) 1) + ((it_sv m6 (k + 2) (Int32.toNatClampNeg (2 : Int32)) (m6 k 7)) (k + 1) 2))) k 5)) k 6)) (k + 2) (Int32.toNatClampNeg (13 : Int32)) ((it_sv (it_sv (it_sv (it_sv m6 (k + 2) (Int32.toNatClampNeg (2 : Int32)) (m6 k 7)) (k + 2) (Int32.toNatClampNeg (10 : Int32)) (((it_sv m6 (k + 2) (Int32.toNatClampNeg (2 : Int32)) (m6 k 7)) (k + 1) 1) + ((it_sv m6 (k + 2) (Int32.toNatClampNeg (2 : Int32)) (m6 k 7)) (k + 1) 2))) (k + 2) (Int32.toNatClampNeg (11 : Int32)) ((it_sv (it_sv m6 (k + 2) (Int32.toNatClampNeg (2 : Int32)) (m6 k 7)) (k + 2) (Int32.toNatClampNeg (10 : Int32)) (((it_sv m6 (k + 2) (Int32.toNatClampNeg (2 : Int32)) (m6 k 7)) (k + 1) 1) + ((it_sv m6 (k + 2) (Int32.toNatClampNeg (2 : Int32)) (m6 k 7)) (k + 1) 2))) k 5)) (k + 2) (Int32.toNatClampNeg (12 : Int32)) ((it_sv (it_sv (it_sv m6 (k + 2) (Int32.toNatClampNeg (2 : Int32)) (m6 k 7)) (k + 2) (Int32.toNatClampNeg (10 : Int32)) (((it_sv m6 (k + 2) (Int32.toNatClampNeg (2 : Int32)) (m6 k 7)) (k + 1) 1) + ((it_sv m6 (k + 2) (Int32.toNatClampNeg (2 : Int32)) (m6 k 7)) (k + 1) 2))) (k + 2) (Int32.toNatClampNeg (11 : Int32)) ((it_sv (it_sv m6 (k + 2) (Int32.toNatClampNeg (2 : Int32)) (m6 k 7)) (k + 2) (Int32.toNatClampNeg (10 : Int32)) (((it_sv m6 (k + 2) (Int32.toNatClampNeg (2 : Int32)) (m6 k 7)) (k + 1) 1) + ((it_sv m6 (k + 2) (Int32.toNatClampNeg (2 : Int32)) (m6 k 7)) (k + 1) 2))) k 5)) k 6)) k 7))) rfl ?_
  refine it_V.getP it_cd128 it_m128 rfl (hk).1 rfl ?_
  refine it_V.at (pc1 := 123) (ls1 := [some (.ref k)]) (st1 := [(.ref (k + 2)), (.ref k)]) (mem1 := (it_sv (it_sv (it_sv (it_sv (it_sv m6 (k + 2) (Int32.toNatClampNeg (2 : Int32)) (m6 k 7)) (k + 2) (Int32.toNatClampNeg (10 : Int32)) (((it_sv m6 (k + 2) (Int32.toNatClampNeg (2 : Int32)) (m6 k 7)) (k + 1) 1) + ((it_sv m6 (k + 2) (Int32.toNatClampNeg (2 : Int32)) (m6 k 7)) (k + 1) 2))) (k + 2) (Int32.toNatClampNeg (11 : Int32)) ((it_sv (it_sv m6 (k + 2) (Int32.toNatClampNeg (2 : Int32)) (m6 k 7)) (k + 2) (Int32.toNatClampNeg (10 : Int32)) (((it_sv m6 (k + 2) (Int32.toNatClampNeg (2 : Int32)) (m6 k 7)) (k + 1) 1) + ((it_sv m6 (k + 2) (Int32.toNatClampNeg (2 : Int32)) (m6 k 7)) (k + 1) 2))) k 5)) (k + 2) (Int32.toNatClampNeg (12 : Int32)) ((it_sv (it_sv (it_sv m6 (k + 2) (Int32.toNatClampNeg (2 : Int32)) (m6 k 7)) (k + 2) (Int32.toNatClampNeg (10 : Int32)) (((it_sv m6 (k + 2) (Int32.toNatClampNeg (2 : Int32)) (m6 k 7)) (k + 1) 1) + ((it_sv m6 (k + 2) (Int32.toNatClampNeg (2 : Int32)) (m6 k 7)) (k + 1) 2))) (k + 2) (Int32.toNatClampNeg (11 : Int32)) ((it_sv (it_sv m6 (k + 2) (Int32.toNatClampNeg (2 : Int32)) (m6 k 7)) (k + 2) (Int32.toNatClampNeg (10 : Int32)) (((it_sv m6 (k + 2) (Int32.toNatClampNeg (2 : Int32)) (m6 k 7)) (k + 1) 1) + ((it_sv m6 (k + 2) (Int32.toNatClampNeg (2 : Int32)) (m6 k 7)) (k + 1) 2))) k 5)) k 6)) (k + 2) (Int32.toNatClampNeg (13 : Int32)) ((it_sv (it_sv (it_sv (it_sv m6 (k + 2) (Int32.toNatClampNeg (2 : Int32)) (m6 k 7)) (k + 2) (Int32.toNatClampNeg (10 : Int32)) (((it_sv m6 (k + 2) (Int32.toNatClampNeg (2 : Int32)) (m6 k 7)) (k + 1) 1) + ((it_sv m6 (k + 2) (Int32.toNatClampNeg (2 : Int32)) (m6 k 7)) (k + 1) 2))) (k + 2) (Int32.toNatClampNeg (11 : Int32)) ((it_sv (it_sv m6 (k + 2) (Int32.toNatClampNeg (2 : Int32)) (m6 k 7)) (k + 2) (Int32.toNatClampNeg (10 : Int32)) (((it_sv m6 (k + 2) (Int32.toNatClampNeg (2 : Int32)) (m6 k 7)) (k + 1) 1) + ((it_sv m6 (k + 2) (Int32.toNatClampNeg (2 : Int32)) (m6 k 7)) (k + 1) 2))) k 5)) (k + 2) (Int32.toNatClampNeg (12 : Int32)) ((it_sv (it_sv (it_sv m6 (k + 2) (Int32.toNatClampNeg (2 : Int32)) (m6 k 7)) (k + 2) (Int32.toNatClampNeg (10 : Int32)) (((it_sv m6 (k + 2) (Int32.toNatClampNeg (2 : Int32)) (m6 k 7)) (k + 1) 1) + ((it_sv m6 (k + 2) (Int32.toNatClampNeg (2 : Int32)) (m6 k 7)) (k + 1) 2))) (k + 2) (Int32.toNatClampNeg (11 : Int32)) ((it_sv (it_sv m6 (k + 2) (Int32.toNatClampNeg (2 : Int32)) (m6 k 7)) (k + 2) (Int32.toNatClampNeg (10 : Int32)) (((it_sv m6 (k + 2) (Int32.toNatClampNeg (2 : Int32)) (m6 k 7)) (k + 1) 1) + ((it_sv m6 (k + 2) (Int32.toNatClampNeg (2 : Int32)) (m6 k 7)) (k + 1) 2))) k 5)) k 6)) k 7))) rfl rfl rfl rfl ?_
  refine it_V.sN it_cd128 it_m128 1 (pc1 := 125) (ls1 := [some (.ref k)]) (st1 := [(.int (10 : Int32)), (.ref (k + 2)), (.ref k)]) (mem1 := (it_sv (it_sv (it_sv (it_sv (it_sv m6 (k + 2) (Int32.toNatClampNeg (2 : Int32)) (m6 k 7)) (k + 2) (Int32.toNatClampNeg (10 : Int32)) (((it_sv m6 (k + 2) (Int32.toNatClampNeg (2 : Int32)) (m6 k 7)) (k + 1) 1) + ((it_sv m6 (k + 2) (Int32.toNatClampNeg (2 : Int32)) (m6 k 7)) (k + 1) 2))) (k + 2) (Int32.toNatClampNeg (11 : Int32)) ((it_sv (it_sv m6 (k + 2) (Int32.toNatClampNeg (2 : Int32)) (m6 k 7)) (k + 2) (Int32.toNatClampNeg (10 : Int32)) (((it_sv m6 (k + 2) (Int32.toNatClampNeg (2 : Int32)) (m6 k 7)) (k + 1) 1) + ((it_sv m6 (k + 2) (Int32.toNatClampNeg (2 : Int32)) (m6 k 7)) (k + 1) 2))) k 5)) (k + 2) (Int32.toNatClampNeg (12 : Int32)) ((it_sv (it_sv (it_sv m6 (k + 2) (Int32.toNatClampNeg (2 : Int32)) (m6 k 7)) (k + 2) (Int32.toNatClampNeg (10 : Int32)) (((it_sv m6 (k + 2) (Int32.toNatClampNeg (2 : Int32)) (m6 k 7)) (k + 1) 1) + ((it_sv m6 (k + 2) (Int32.toNatClampNeg (2 : Int32)) (m6 k 7)) (k + 1) 2))) (k + 2) (Int32.toNatClampNeg (11 : Int32)) ((it_sv (it_sv m6 (k + 2) (Int32.toNatClampNeg (2 : Int32)) (m6 k 7)) (k + 2) (Int32.toNatClampNeg (10 : Int32)) (((it_sv m6 (k + 2) (Int32.toNatClampNeg (2 : Int32)) (m6 k 7)) (k + 1) 1) + ((it_sv m6 (k + 2) (Int32.toNatClampNeg (2 : Int32)) (m6 k 7)) (k + 1) 2))) k 5)) k 6)) (k + 2) (Int32.toNatClampNeg (13 : Int32)) ((it_sv (it_sv (it_sv (it_sv m6 (k + 2) (Int32.toNatClampNeg (2 : Int32)) (m6 k 7)) (k + 2) (Int32.toNatClampNeg (10 : Int32)) (((it_sv m6 (k + 2) (Int32.toNatClampNeg (2 : Int32)) (m6 k 7)) (k + 1) 1) + ((it_sv m6 (k + 2) (Int32.toNatClampNeg (2 : Int32)) (m6 k 7)) (k + 1) 2))) (k + 2) (Int32.toNatClampNeg (11 : Int32)) ((it_sv (it_sv m6 (k + 2) (Int32.toNatClampNeg (2 : Int32)) (m6 k 7)) (k + 2) (Int32.toNatClampNeg (10 : Int32)) (((it_sv m6 (k + 2) (Int32.toNatClampNeg (2 : Int32)) (m6 k 7)) (k + 1) 1) + ((it_sv m6 (k + 2) (Int32.toNatClampNeg (2 : Int32)) (m6 k 7)) (k + 1) 2))) k 5)) (k + 2) (Int32.toNatClampNeg (12 : Int32)) ((it_sv (it_sv (it_sv m6 (k + 2) (Int32.toNatClampNeg (2 : Int32)) (m6 k 7)) (k + 2) (Int32.toNatClampNeg (10 : Int32)) (((it_sv m6 (k + 2) (Int32.toNatClampNeg (2 : Int32)) (m6 k 7)) (k + 1) 1) + ((it_sv m6 (k + 2) (Int32.toNatClampNeg (2 : Int32)) (m6 k 7)) (k + 1) 2))) (k + 2) (Int32.toNatClampNeg (11 : Int32)) ((it_sv (it_sv m6 (k + 2) (Int32.toNatClampNeg (2 : Int32)) (m6 k 7)) (k + 2) (Int32.toNatClampNeg (10 : Int32)) (((it_sv m6 (k + 2) (Int32.toNatClampNeg (2 : Int32)) (m6 k 7)) (k + 1) 1) + ((it_sv m6 (k + 2) (Int32.toNatClampNeg (2 : Int32)) (m6 k 7)) (k + 1) 2))) k 5)) k 6)) k 7))) rfl ?_
  obtain ⟨g12, h⟩ := h
  refine it_V.iald it_cd128 it_m128 rfl ((hk).2.2.1).2 ((hk).2.2.1).1 g12 ?_
  refine it_V.at (pc1 := 126) (ls1 := [some (.ref k)]) (st1 := [(.int ((it_sv (it_sv (it_sv (it_sv (it_sv m6 (k + 2) (Int32.toNatClampNeg (2 : Int32)) (m6 k 7)) (k + 2) (Int32.toNatClampNeg (10 : Int32)) (((it_sv m6 (k + 2) (Int32.toNatClampNeg (2 : Int32)) (m6 k 7)) (k + 1) 1) + ((it_sv m6 (k + 2) (Int32.toNatClampNeg (2 : Int32)) (m6 k 7)) (k + 1) 2))) (k + 2) (Int32.toNatClampNeg (11 : Int32)) ((it_sv (it_sv m6 (k + 2) (Int32.toNatClampNeg (2 : Int32)) (m6 k 7)) (k + 2) (Int32.toNatClampNeg (10 : Int32)) (((it_sv m6 (k + 2) (Int32.toNatClampNeg (2 : Int32)) (m6 k 7)) (k + 1) 1) + ((it_sv m6 (k + 2) (Int32.toNatClampNeg (2 : Int32)) (m6 k 7)) (k + 1) 2))) k 5)) (k + 2) (Int32.toNatClampNeg (12 : Int32)) ((it_sv (it_sv (it_sv m6 (k + 2) (Int32.toNatClampNeg (2 : Int32)) (m6 k 7)) (k + 2) (Int32.toNatClampNeg (10 : Int32)) (((it_sv m6 (k + 2) (Int32.toNatClampNeg (2 : Int32)) (m6 k 7)) (k + 1) 1) + ((it_sv m6 (k + 2) (Int32.toNatClampNeg (2 : Int32)) (m6 k 7)) (k + 1) 2))) (k + 2) (Int32.toNatClampNeg (11 : Int32)) ((it_sv (it_sv m6 (k + 2) (Int32.toNatClampNeg (2 : Int32)) (m6 k 7)) (k + 2) (Int32.toNatClampNeg (10 : Int32)) (((it_sv m6 (k + 2) (Int32.toNatClampNeg (2 : Int32)) (m6 k 7)) (k + 1) 1) + ((it_sv m6 (k + 2) (Int32.toNatClampNeg (2 : Int32)) (m6 k 7)) (k + 1) 2))) k 5)) k 6)) (k + 2) (Int32.toNatClampNeg (13 : Int32)) ((it_sv (it_sv (it_sv (it_sv m6 (k + 2) (Int32.toNatClampNeg (2 : Int32)) (m6 k 7)) (k + 2) (Int32.toNatClampNeg (10 : Int32)) (((it_sv m6 (k + 2) (Int32.toNatClampNeg (2 : Int32)) (m6 k 7)) (k + 1) 1) + ((it_sv m6 (k + 2) (Int32.toNatClampNeg (2 : Int32)) (m6 k 7)) (k + 1) 2))) (k + 2) (Int32.toNatClampNeg (11 : Int32)) ((it_sv (it_sv m6 (k + 2) (Int32.toNatClampNeg (2 : Int32)) (m6 k 7)) (k + 2) (Int32.toNatClampNeg (10 : Int32)) (((it_sv m6 (k + 2) (Int32.toNatClampNeg (2 : Int32)) (m6 k 7)) (k + 1) 1) + ((it_sv m6 (k + 2) (Int32.toNatClampNeg (2 : Int32)) (m6 k 7)) (k + 1) 2))) k 5)) (k + 2) (Int32.toNatClampNeg (12 : Int32)) ((it_sv (it_sv (it_sv m6 (k + 2) (Int32.toNatClampNeg (2 : Int32)) (m6 k 7)) (k + 2) (Int32.toNatClampNeg (10 : Int32)) (((it_sv m6 (k + 2) (Int32.toNatClampNeg (2 : Int32)) (m6 k 7)) (k + 1) 1) + ((it_sv m6 (k + 2) (Int32.toNatClampNeg (2 : Int32)) (m6 k 7)) (k + 1) 2))) (k + 2) (Int32.toNatClampNeg (11 : Int32)) ((it_sv (it_sv m6 (k + 2) (Int32.toNatClampNeg (2 : Int32)) (m6 k 7)) (k + 2) (Int32.toNatClampNeg (10 : Int32)) (((it_sv m6 (k + 2) (Int32.toNatClampNeg (2 : Int32)) (m6 k 7)) (k + 1) 1) + ((it_sv m6 (k + 2) (Int32.toNatClampNeg (2 : Int32)) (m6 k 7)) (k + 1) 2))) k 5)) k 6)) k 7)) (k + 2) (Int32.toNatClampNeg (10 : Int32)))), (.ref k)]) (mem1 := (it_sv (it_sv (it_sv (it_sv (it_sv m6 (k + 2) (Int32.toNatClampNeg (2 : Int32)) (m6 k 7)) (k + 2) (Int32.toNatClampNeg (10 : Int32)) (((it_sv m6 (k + 2) (Int32.toNatClampNeg (2 : Int32)) (m6 k 7)) (k + 1) 1) + ((it_sv m6 (k + 2) (Int32.toNatClampNeg (2 : Int32)) (m6 k 7)) (k + 1) 2))) (k + 2) (Int32.toNatClampNeg (11 : Int32)) ((it_sv (it_sv m6 (k + 2) (Int32.toNatClampNeg (2 : Int32)) (m6 k 7)) (k + 2) (Int32.toNatClampNeg (10 : Int32)) (((it_sv m6 (k + 2) (Int32.toNatClampNeg (2 : Int32)) (m6 k 7)) (k + 1) 1) + ((it_sv m6 (k + 2) (Int32.toNatClampNeg (2 : Int32)) (m6 k 7)) (k + 1) 2))) k 5)) (k + 2) (Int32.toNatClampNeg (12 : Int32)) ((it_sv (it_sv (it_sv m6 (k + 2) (Int32.toNatClampNeg (2 : Int32)) (m6 k 7)) (k + 2) (Int32.toNatClampNeg (10 : Int32)) (((it_sv m6 (k + 2) (Int32.toNatClampNeg (2 : Int32)) (m6 k 7)) (k + 1) 1) + ((it_sv m6 (k + 2) (Int32.toNatClampNeg (2 : Int32)) (m6 k 7)) (k + 1) 2))) (k + 2) (Int32.toNatClampNeg (11 : Int32)) ((it_sv (it_sv m6 (k + 2) (Int32.toNatClampNeg (2 : Int32)) (m6 k 7)) (k + 2) (Int32.toNatClampNeg (10 : Int32)) (((it_sv m6 (k + 2) (Int32.toNatClampNeg (2 : Int32)) (m6 k 7)) (k + 1) 1) + ((it_sv m6 (k + 2) (Int32.toNatClampNeg (2 : Int32)) (m6 k 7)) (k + 1) 2))) k 5)) k 6)) (k + 2) (Int32.toNatClampNeg (13 : Int32)) ((it_sv (it_sv (it_sv (it_sv m6 (k + 2) (Int32.toNatClampNeg (2 : Int32)) (m6 k 7)) (k + 2) (Int32.toNatClampNeg (10 : Int32)) (((it_sv m6 (k + 2) (Int32.toNatClampNeg (2 : Int32)) (m6 k 7)) (k + 1) 1) + ((it_sv m6 (k + 2) (Int32.toNatClampNeg (2 : Int32)) (m6 k 7)) (k + 1) 2))) (k + 2) (Int32.toNatClampNeg (11 : Int32)) ((it_sv (it_sv m6 (k + 2) (Int32.toNatClampNeg (2 : Int32)) (m6 k 7)) (k + 2) (Int32.toNatClampNeg (10 : Int32)) (((it_sv m6 (k + 2) (Int32.toNatClampNeg (2 : Int32)) (m6 k 7)) (k + 1) 1) + ((it_sv m6 (k + 2) (Int32.toNatClampNeg (2 : Int32)) (m6 k 7)) (k + 1) 2))) k 5)) (k + 2) (Int32.toNatClampNeg (12 : Int32)) ((it_sv (it_sv (it_sv m6 (k + 2) (Int32.toNatClampNeg (2 : Int32)) (m6 k 7)) (k + 2) (Int32.toNatClampNeg (10 : Int32)) (((it_sv m6 (k + 2) (Int32.toNatClampNeg (2 : Int32)) (m6 k 7)) (k + 1) 1) + ((it_sv m6 (k + 2) (Int32.toNatClampNeg (2 : Int32)) (m6 k 7)) (k + 1) 2))) (k + 2) (Int32.toNatClampNeg (11 : Int32)) ((it_sv (it_sv m6 (k + 2) (Int32.toNatClampNeg (2 : Int32)) (m6 k 7)) (k + 2) (Int32.toNatClampNeg (10 : Int32)) (((it_sv m6 (k + 2) (Int32.toNatClampNeg (2 : Int32)) (m6 k 7)) (k + 1) 1) + ((it_sv m6 (k + 2) (Int32.toNatClampNeg (2 : Int32)) (m6 k 7)) (k + 1) 2))) k 5)) k 6)) k 7))) rfl rfl rfl rfl ?_
  refine it_V.sN it_cd128 it_m128 1 (pc1 := 127) (ls1 := [some (.ref k)]) (st1 := [(.ref k), (.int ((it_sv (it_sv (it_sv (it_sv (it_sv m6 (k + 2) (Int32.toNatClampNeg (2 : Int32)) (m6 k 7)) (k + 2) (Int32.toNatClampNeg (10 : Int32)) (((it_sv m6 (k + 2) (Int32.toNatClampNeg (2 : Int32)) (m6 k 7)) (k + 1) 1) + ((it_sv m6 (k + 2) (Int32.toNatClampNeg (2 : Int32)) (m6 k 7)) (k + 1) 2))) (k + 2) (Int32.toNatClampNeg (11 : Int32)) ((it_sv (it_sv m6 (k + 2) (Int32.toNatClampNeg (2 : Int32)) (m6 k 7)) (k + 2) (Int32.toNatClampNeg (10 : Int32)) (((it_sv m6 (k + 2) (Int32.toNatClampNeg (2 : Int32)) (m6 k 7)) (k + 1) 1) + ((it_sv m6 (k + 2) (Int32.toNatClampNeg (2 : Int32)) (m6 k 7)) (k + 1) 2))) k 5)) (k + 2) (Int32.toNatClampNeg (12 : Int32)) ((it_sv (it_sv (it_sv m6 (k + 2) (Int32.toNatClampNeg (2 : Int32)) (m6 k 7)) (k + 2) (Int32.toNatClampNeg (10 : Int32)) (((it_sv m6 (k + 2) (Int32.toNatClampNeg (2 : Int32)) (m6 k 7)) (k + 1) 1) + ((it_sv m6 (k + 2) (Int32.toNatClampNeg (2 : Int32)) (m6 k 7)) (k + 1) 2))) (k + 2) (Int32.toNatClampNeg (11 : Int32)) ((it_sv (it_sv m6 (k + 2) (Int32.toNatClampNeg (2 : Int32)) (m6 k 7)) (k + 2) (Int32.toNatClampNeg (10 : Int32)) (((it_sv m6 (k + 2) (Int32.toNatClampNeg (2 : Int32)) (m6 k 7)) (k + 1) 1) + ((it_sv m6 (k + 2) (Int32.toNatClampNeg (2 : Int32)) (m6 k 7)) (k + 1) 2))) k 5)) k 6)) (k + 2) (Int32.toNatClampNeg (13 : Int32)) ((it_sv (it_sv (it_sv (it_sv m6 (k + 2) (Int32.toNatClampNeg (2 : Int32)) (m6 k 7)) (k + 2) (Int32.toNatClampNeg (10 : Int32)) (((it_sv m6 (k + 2) (Int32.toNatClampNeg (2 : Int32)) (m6 k 7)) (k + 1) 1) + ((it_sv m6 (k + 2) (Int32.toNatClampNeg (2 : Int32)) (m6 k 7)) (k + 1) 2))) (k + 2) (Int32.toNatClampNeg (11 : Int32)) ((it_sv (it_sv m6 (k + 2) (Int32.toNatClampNeg (2 : Int32)) (m6 k 7)) (k + 2) (Int32.toNatClampNeg (10 : Int32)) (((it_sv m6 (k + 2) (Int32.toNatClampNeg (2 : Int32)) (m6 k 7)) (k + 1) 1) + ((it_sv m6 (k + 2) (Int32.toNatClampNeg (2 : Int32)) (m6 k 7)) (k + 1) 2))) k 5)) (k + 2) (Int32.toNatClampNeg (12 : Int32)) ((it_sv (it_sv (it_sv m6 (k + 2) (Int32.toNatClampNeg (2 : Int32)) (m6 k 7)) (k + 2) (Int32.toNatClampNeg (10 : Int32)) (((it_sv m6 (k + 2) (Int32.toNatClampNeg (2 : Int32)) (m6 k 7)) (k + 1) 1) + ((it_sv m6 (k + 2) (Int32.toNatClampNeg (2 : Int32)) (m6 k 7)) (k + 1) 2))) (k + 2) (Int32.toNatClampNeg (11 : Int32)) ((it_sv (it_sv m6 (k + 2) (Int32.toNatClampNeg (2 : Int32)) (m6 k 7)) (k + 2) (Int32.toNatClampNeg (10 : Int32)) (((it_sv m6 (k + 2) (Int32.toNatClampNeg (2 : Int32)) (m6 k 7)) (k + 1) 1) + ((it_sv m6 (k + 2) (Int32.toNatClampNeg (2 : Int32)) (m6 k 7)) (k + 1) 2))) k 5)) k 6)) k 7)) (k + 2) (Int32.toNatClampNeg (10 : Int32)))), (.ref k)]) (mem1 := (it_sv (it_sv (it_sv (it_sv (it_sv m6 (k + 2) (Int32.toNatClampNeg (2 : Int32)) (m6 k 7)) (k + 2) (Int32.toNatClampNeg (10 : Int32)) (((it_sv m6 (k + 2) (Int32.toNatClampNeg (2 : Int32)) (m6 k 7)) (k + 1) 1) + ((it_sv m6 (k + 2) (Int32.toNatClampNeg (2 : Int32)) (m6 k 7)) (k + 1) 2))) (k + 2) (Int32.toNatClampNeg (11 : Int32)) ((it_sv (it_sv m6 (k + 2) (Int32.toNatClampNeg (2 : Int32)) (m6 k 7)) (k + 2) (Int32.toNatClampNeg (10 : Int32)) (((it_sv m6 (k + 2) (Int32.toNatClampNeg (2 : Int32)) (m6 k 7)) (k + 1) 1) + ((it_sv m6 (k + 2) (Int32.toNatClampNeg (2 : Int32)) (m6 k 7)) (k + 1) 2))) k 5)) (k + 2) (Int32.toNatClampNeg (12 : Int32)) ((it_sv (it_sv (it_sv m6 (k + 2) (Int32.toNatClampNeg (2 : Int32)) (m6 k 7)) (k + 2) (Int32.toNatClampNeg (10 : Int32)) (((it_sv m6 (k + 2) (Int32.toNatClampNeg (2 : Int32)) (m6 k 7)) (k + 1) 1) + ((it_sv m6 (k + 2) (Int32.toNatClampNeg (2 : Int32)) (m6 k 7)) (k + 1) 2))) (k + 2) (Int32.toNatClampNeg (11 : Int32)) ((it_sv (it_sv m6 (k + 2) (Int32.toNatClampNeg (2 : Int32)) (m6 k 7)) (k + 2) (Int32.toNatClampNeg (10 : Int32)) (((it_sv m6 (k + 2) (Int32.toNatClampNeg (2 : Int32)) (m6 k 7)) (k + 1) 1) + ((it_sv m6 (k + 2) (Int32.toNatClampNeg (2 : Int32)) (m6 k 7)) (k + 1) 2))) k 5)) k 6)) (k + 2) (Int32.toNatClampNeg (13 : Int32)) ((it_sv (it_sv (it_sv (it_sv m6 (k + 2) (Int32.toNatClampNeg (2 : Int32)) (m6 k 7)) (k + 2) (Int32.toNatClampNeg (10 : Int32)) (((it_sv m6 (k + 2) (Int32.toNatClampNeg (2 : Int32)) (m6 k 7)) (k + 1) 1) + ((it_sv m6 (k + 2) (Int32.toNatClampNeg (2 : Int32)) (m6 k 7)) (k + 1) 2))) (k + 2) (Int32.toNatClampNeg (11 : Int32)) ((it_sv (it_sv m6 (k + 2) (Int32.toNatClampNeg (2 : Int32)) (m6 k 7)) (k + 2) (Int32.toNatClampNeg (10 : Int32)) (((it_sv m6 (k + 2) (Int32.toNatClampNeg (2 : Int32)) (m6 k 7)) (k + 1) 1) + ((it_sv m6 (k + 2) (Int32.toNatClampNeg (2 : Int32)) (m6 k 7)) (k + 1) 2))) k 5)) (k + 2) (Int32.toNatClampNeg (12 : Int32)) ((it_sv (it_sv (it_sv m6 (k + 2) (Int32.toNatClampNeg (2 : Int32)) (m6 k 7)) (k + 2) (Int32.toNatClampNeg (10 : Int32)) (((it_sv m6 (k + 2) (Int32.toNatClampNeg (2 : Int32)) (m6 k 7)) (k + 1) 1) + ((it_sv m6 (k + 2) (Int32.toNatClampNeg (2 : Int32)) (m6 k 7)) (k + 1) 2))) (k + 2) (Int32.toNatClampNeg (11 : Int32)) ((it_sv (it_sv m6 (k + 2) (Int32.toNatClampNeg (2 : Int32)) (m6 k 7)) (k + 2) (Int32.toNatClampNeg (10 : Int32)) (((it_sv m6 (k + 2) (Int32.toNatClampNeg (2 : Int32)) (m6 k 7)) (k + 1) 1) + ((it_sv m6 (k + 2) (Int32.toNatClampNeg (2 : Int32)) (m6 k 7)) (k + 1) 2))) k 5)) k 6)) k 7))) rfl ?_
  refine it_V.getP it_cd128 it_m128 rfl (hk).1 rfl ?_
  refine it_V.at (pc1 := 130) (ls1 := [some (.ref k)]) (st1 := [(.ref (k + 1)), (.int ((it_sv (it_sv (it_sv (it_sv (it_sv m6 (k + 2) (Int32.toNatClampNeg (2 : Int32)) (m6 k 7)) (k + 2) (Int32.toNatClampNeg (10 : Int32)) (((it_sv m6 (k + 2) (Int32.toNatClampNeg (2 : Int32)) (m6 k 7)) (k + 1) 1) + ((it_sv m6 (k + 2) (Int32.toNatClampNeg (2 : Int32)) (m6 k 7)) (k + 1) 2))) (k + 2) (Int32.toNatClampNeg (11 : Int32)) ((it_sv (it_sv m6 (k + 2) (Int32.toNatClampNeg (2 : Int32)) (m6 k 7)) (k + 2) (Int32.toNatClampNeg (10 : Int32)) (((it_sv m6 (k + 2) (Int32.toNatClampNeg (2 : Int32)) (m6 k 7)) (k + 1) 1) + ((it_sv m6 (k + 2) (Int32.toNatClampNeg (2 : Int32)) (m6 k 7)) (k + 1) 2))) k 5)) (k + 2) (Int32.toNatClampNeg (12 : Int32)) ((it_sv (it_sv (it_sv m6 (k + 2) (Int32.toNatClampNeg (2 : Int32)) (m6 k 7)) (k + 2) (Int32.toNatClampNeg (10 : Int32)) (((it_sv m6 (k + 2) (Int32.toNatClampNeg (2 : Int32)) (m6 k 7)) (k + 1) 1) + ((it_sv m6 (k + 2) (Int32.toNatClampNeg (2 : Int32)) (m6 k 7)) (k + 1) 2))) (k + 2) (Int32.toNatClampNeg (11 : Int32)) ((it_sv (it_sv m6 (k + 2) (Int32.toNatClampNeg (2 : Int32)) (m6 k 7)) (k + 2) (Int32.toNatClampNeg (10 : Int32)) (((it_sv m6 (k + 2) (Int32.toNatClampNeg (2 : Int32)) (m6 k 7)) (k + 1) 1) + ((it_sv m6 (k + 2) (Int32.toNatClampNeg (2 : Int32)) (m6 k 7)) (k + 1) 2))) k 5)) k 6)) (k + 2) (Int32.toNatClampNeg (13 : Int32)) ((it_sv (it_sv (it_sv (it_sv m6 (k + 2) (Int32.toNatClampNeg (2 : Int32)) (m6 k 7)) (k + 2) (Int32.toNatClampNeg (10 : Int32)) (((it_sv m6 (k + 2) (Int32.toNatClampNeg (2 : Int32)) (m6 k 7)) (k + 1) 1) + ((it_sv m6 (k + 2) (Int32.toNatClampNeg (2 : Int32)) (m6 k 7)) (k + 1) 2))) (k + 2) (Int32.toNatClampNeg (11 : Int32)) ((it_sv (it_sv m6 (k + 2) (Int32.toNatClampNeg (2 : Int32)) (m6 k 7)) (k + 2) (Int32.toNatClampNeg (10 : Int32)) (((it_sv m6 (k + 2) (Int32.toNatClampNeg (2 : Int32)) (m6 k 7)) (k + 1) 1) + ((it_sv m6 (k + 2) (Int32.toNatClampNeg (2 : Int32)) (m6 k 7)) (k + 1) 2))) k 5)) (k + 2) (Int32.toNatClampNeg (12 : Int32)) ((it_sv (it_sv (it_sv m6 (k + 2) (Int32.toNatClampNeg (2 : Int32)) (m6 k 7)) (k + 2) (Int32.toNatClampNeg (10 : Int32)) (((it_sv m6 (k + 2) (Int32.toNatClampNeg (2 : Int32)) (m6 k 7)) (k + 1) 1) + ((it_sv m6 (k + 2) (Int32.toNatClampNeg (2 : Int32)) (m6 k 7)) (k + 1) 2))) (k + 2) (Int32.toNatClampNeg (11 : Int32)) ((it_sv (it_sv m6 (k + 2) (Int32.toNatClampNeg (2 : Int32)) (m6 k 7)) (k + 2) (Int32.toNatClampNeg (10 : Int32)) (((it_sv m6 (k + 2) (Int32.toNatClampNeg (2 : Int32)) (m6 k 7)) (k + 1) 1) + ((it_sv m6 (k + 2) (Int32.toNatClampNeg (2 : Int32)) (m6 k 7)) (k + 1) 2))) k 5)) k 6)) k 7)) (k + 2) (Int32.toNatClampNeg (10 : Int32)))), (.ref k)]) (mem1 := (it_sv (it_sv (it_sv (it_sv (it_sv m6 (k + 2) (Int32.toNatClampNeg (2 : Int32)) (m6 k 7)) (k + 2) (Int32.toNatClampNeg (10 : Int32)) (((it_sv m6 (k + 2) (Int32.toNatClampNeg (2 : Int32)) (m6 k 7)) (k + 1) 1) + ((it_sv m6 (k + 2) (Int32.toNatClampNeg (2 : Int32)) (m6 k 7)) (k + 1) 2))) (k + 2) (Int32.toNatClampNeg (11 : Int32)) ((it_sv (it_sv m6 (k + 2) (Int32.toNatClampNeg (2 : Int32)) (m6 k 7)) (k + 2) (Int32.toNatClampNeg (10 : Int32)) (((it_sv m6 (k + 2) (Int32.toNatClampNeg (2 : Int32)) (m6 k 7)) (k + 1) 1) + ((it_sv m6 (k + 2) (Int32.toNatClampNeg (2 : Int32)) (m6 k 7)) (k + 1) 2))) k 5)) (k + 2) (Int32.toNatClampNeg (12 : Int32)) ((it_sv (it_sv (it_sv m6 (k + 2) (Int32.toNatClampNeg (2 : Int32)) (m6 k 7)) (k + 2) (Int32.toNatClampNeg (10 : Int32)) (((it_sv m6 (k + 2) (Int32.toNatClampNeg (2 : Int32)) (m6 k 7)) (k + 1) 1) + ((it_sv m6 (k + 2) (Int32.toNatClampNeg (2 : Int32)) (m6 k 7)) (k + 1) 2))) (k + 2) (Int32.toNatClampNeg (11 : Int32)) ((it_sv (it_sv m6 (k + 2) (Int32.toNatClampNeg (2 : Int32)) (m6 k 7)) (k + 2) (Int32.toNatClampNeg (10 : Int32)) (((it_sv m6 (k + 2) (Int32.toNatClampNeg (2 : Int32)) (m6 k 7)) (k + 1) 1) + ((it_sv m6 (k + 2) (Int32.toNatClampNeg (2 : Int32)) (m6 k 7)) (k + 1) 2))) k 5)) k 6)) (k + 2) (Int32.toNatClampNeg (13 : Int32)) ((it_sv (it_sv (it_sv (it_sv m6 (k + 2) (Int32.toNatClampNeg (2 : Int32)) (m6 k 7)) (k + 2) (Int32.toNatClampNeg (10 : Int32)) (((it_sv m6 (k + 2) (Int32.toNatClampNeg (2 : Int32)) (m6 k 7)) (k + 1) 1) + ((it_sv m6 (k + 2) (Int32.toNatClampNeg (2 : Int32)) (m6 k 7)) (k + 1) 2))) (k + 2) (Int32.toNatClampNeg (11 : Int32)) ((it_sv (it_sv m6 (k + 2) (Int32.toNatClampNeg (2 : Int32)) (m6 k 7)) (k + 2) (Int32.toNatClampNeg (10 : Int32)) (((it_sv m6 (k + 2) (Int32.toNatClampNeg (2 : Int32)) (m6 k 7)) (k + 1) 1) + ((it_sv m6 (k + 2) (Int32.toNatClampNeg (2 : Int32)) (m6 k 7)) (k + 1) 2))) k 5)) (k + 2) (Int32.toNatClampNeg (12 : Int32)) ((it_sv (it_sv (it_sv m6 (k + 2) (Int32.toNatClampNeg (2 : Int32)) (m6 k 7)) (k + 2) (Int32.toNatClampNeg (10 : Int32)) (((it_sv m6 (k + 2) (Int32.toNatClampNeg (2 : Int32)) (m6 k 7)) (k + 1) 1) + ((it_sv m6 (k + 2) (Int32.toNatClampNeg (2 : Int32)) (m6 k 7)) (k + 1) 2))) (k + 2) (Int32.toNatClampNeg (11 : Int32)) ((it_sv (it_sv m6 (k + 2) (Int32.toNatClampNeg (2 : Int32)) (m6 k 7)) (k + 2) (Int32.toNatClampNeg (10 : Int32)) (((it_sv m6 (k + 2) (Int32.toNatClampNeg (2 : Int32)) (m6 k 7)) (k + 1) 1) + ((it_sv m6 (k + 2) (Int32.toNatClampNeg (2 : Int32)) (m6 k 7)) (k + 1) 2))) k 5)) k 6)) k 7))) rfl rfl rfl rfl ?_
  refine it_V.getP it_cd128 it_m128 rfl (hk).2.1 rfl ?_
  refine it_V.at (pc1 := 133) (ls1 := [some (.ref k)]) (st1 := [(.int ((it_sv (it_sv (it_sv (it_sv (it_sv m6 (k + 2) (Int32.toNatClampNeg (2 : Int32)) (m6 k 7)) (k + 2) (Int32.toNatClampNeg (10 : Int32)) (((it_sv m6 (k + 2) (Int32.toNatClampNeg (2 : Int32)) (m6 k 7)) (k + 1) 1) + ((it_sv m6 (k + 2) (Int32.toNatClampNeg (2 : Int32)) (m6 k 7)) (k + 1) 2))) (k + 2) (Int32.toNatClampNeg (11 : Int32)) ((it_sv (it_sv m6 (k + 2) (Int32.toNatClampNeg (2 : Int32)) (m6 k 7)) (k + 2) (Int32.toNatClampNeg (10 : Int32)) (((it_sv m6 (k + 2) (Int32.toNatClampNeg (2 : Int32)) (m6 k 7)) (k + 1) 1) + ((it_sv m6 (k + 2) (Int32.toNatClampNeg (2 : Int32)) (m6 k 7)) (k + 1) 2))) k 5)) (k + 2) (Int32.toNatClampNeg (12 : Int32)) ((it_sv (it_sv (it_sv m6 (k + 2) (Int32.toNatClampNeg (2 : Int32)) (m6 k 7)) (k + 2) (Int32.toNatClampNeg (10 : Int32)) (((it_sv m6 (k + 2) (Int32.toNatClampNeg (2 : Int32)) (m6 k 7)) (k + 1) 1) + ((it_sv m6 (k + 2) (Int32.toNatClampNeg (2 : Int32)) (m6 k 7)) (k + 1) 2))) (k + 2) (Int32.toNatClampNeg (11 : Int32)) ((it_sv (it_sv m6 (k + 2) (Int32.toNatClampNeg (2 : Int32)) (m6 k 7)) (k + 2) (Int32.toNatClampNeg (10 : Int32)) (((it_sv m6 (k + 2) (Int32.toNatClampNeg (2 : Int32)) (m6 k 7)) (k + 1) 1) + ((it_sv m6 (k + 2) (Int32.toNatClampNeg (2 : Int32)) (m6 k 7)) (k + 1) 2))) k 5)) k 6)) (k + 2) (Int32.toNatClampNeg (13 : Int32)) ((it_sv (it_sv (it_sv (it_sv m6 (k + 2) (Int32.toNatClampNeg (2 : Int32)) (m6 k 7)) (k + 2) (Int32.toNatClampNeg (10 : Int32)) (((it_sv m6 (k + 2) (Int32.toNatClampNeg (2 : Int32)) (m6 k 7)) (k + 1) 1) + ((it_sv m6 (k + 2) (Int32.toNatClampNeg (2 : Int32)) (m6 k 7)) (k + 1) 2))) (k + 2) (Int32.toNatClampNeg (11 : Int32)) ((it_sv (it_sv m6 (k + 2) (Int32.toNatClampNeg (2 : Int32)) (m6 k 7)) (k + 2) (Int32.toNatClampNeg (10 : Int32)) (((it_sv m6 (k + 2) (Int32.toNatClampNeg (2 : Int32)) (m6 k 7)) (k + 1) 1) + ((it_sv m6 (k + 2) (Int32.toNatClampNeg (2 : Int32)) (m6 k 7)) (k + 1) 2))) k 5)) (k + 2) (Int32.toNatClampNeg (12 : Int32)) ((it_sv (it_sv (it_sv m6 (k + 2) (Int32.toNatClampNeg (2 : Int32)) (m6 k 7)) (k + 2) (Int32.toNatClampNeg (10 : Int32)) (((it_sv m6 (k + 2) (Int32.toNatClampNeg (2 : Int32)) (m6 k 7)) (k + 1) 1) + ((it_sv m6 (k + 2) (Int32.toNatClampNeg (2 : Int32)) (m6 k 7)) (k + 1) 2))) (k + 2) (Int32.toNatClampNeg (11 : Int32)) ((it_sv (it_sv m6 (k + 2) (Int32.toNatClampNeg (2 : Int32)) (m6 k 7)) (k + 2) (Int32.toNatClampNeg (10 : Int32)) (((it_sv m6 (k + 2) (Int32.toNatClampNeg (2 : Int32)) (m6 k 7)) (k + 1) 1) + ((it_sv m6 (k + 2) (Int32.toNatClampNeg (2 : Int32)) (m6 k 7)) (k + 1) 2))) k 5)) k 6)) k 7)) (k + 1) 4)), (.int ((it_sv (it_sv (it_sv (it_sv (it_sv m6 (k + 2) (Int32.toNatClampNeg (2 : Int32)) (m6 k 7)) (k + 2) (Int32.toNatClampNeg (10 : Int32)) (((it_sv m6 (k + 2) (Int32.toNatClampNeg (2 : Int32)) (m6 k 7)) (k + 1) 1) + ((it_sv m6 (k + 2) (Int32.toNatClampNeg (2 : Int32)) (m6 k 7)) (k + 1) 2))) (k + 2) (Int32.toNatClampNeg (11 : Int32)) ((it_sv (it_sv m6 (k + 2) (Int32.toNatClampNeg (2 : Int32)) (m6 k 7)) (k + 2) (Int32.toNatClampNeg (10 : Int32)) (((it_sv m6 (k + 2) (Int32.toNatClampNeg (2 : Int32)) (m6 k 7)) (k + 1) 1) + ((it_sv m6 (k + 2) (Int32.toNatClampNeg (2 : Int32)) (m6 k 7)) (k + 1) 2))) k 5)) (k + 2) (Int32.toNatClampNeg (12 : Int32)) ((it_sv (it_sv (it_sv m6 (k + 2) (Int32.toNatClampNeg (2 : Int32)) (m6 k 7)) (k + 2) (Int32.toNatClampNeg (10 : Int32)) (((it_sv m6 (k + 2) (Int32.toNatClampNeg (2 : Int32)) (m6 k 7)) (k + 1) 1) + ((it_sv m6 (k + 2) (Int32.toNatClampNeg (2 : Int32)) (m6 k 7)) (k + 1) 2))) (k + 2) (Int32.toNatClampNeg (11 : Int32)) ((it_sv (it_sv m6 (k + 2) (Int32.toNatClampNeg (2 : Int32)) (m6 k 7)) (k + 2) (Int32.toNatClampNeg (10 : Int32)) (((it_sv m6 (k + 2) (Int32.toNatClampNeg (2 : Int32)) (m6 k 7)) (k + 1) 1) + ((it_sv m6 (k + 2) (Int32.toNatClampNeg (2 : Int32)) (m6 k 7)) (k + 1) 2))) k 5)) k 6)) (k + 2) (Int32.toNatClampNeg (13 : Int32)) ((it_sv (it_sv (it_sv (it_sv m6 (k + 2) (Int32.toNatClampNeg (2 : Int32)) (m6 k 7)) (k + 2) (Int32.toNatClampNeg (10 : Int32)) (((it_sv m6 (k + 2) (Int32.toNatClampNeg (2 : Int32)) (m6 k 7)) (k + 1) 1) + ((it_sv m6 (k + 2) (Int32.toNatClampNeg (2 : Int32)) (m6 k 7)) (k + 1) 2))) (k + 2) (Int32.toNatClampNeg (11 : Int32)) ((it_sv (it_sv m6 (k + 2) (Int32.toNatClampNeg (2 : Int32)) (m6 k 7)) (k + 2) (Int32.toNatClampNeg (10 : Int32)) (((it_sv m6 (k + 2) (Int32.toNatClampNeg (2 : Int32)) (m6 k 7)) (k + 1) 1) + ((it_sv m6 (k + 2) (Int32.toNatClampNeg (2 : Int32)) (m6 k 7)) (k + 1) 2))) k 5)) (k + 2) (Int32.toNatClampNeg (12 : Int32)) ((it_sv (it_sv (it_sv m6 (k + 2) (Int32.toNatClampNeg (2 : Int32)) (m6 k 7)) (k + 2) (Int32.toNatClampNeg (10 : Int32)) (((it_sv m6 (k + 2) (Int32.toNatClampNeg (2 : Int32)) (m6 k 7)) (k + 1) 1) + ((it_sv m6 (k + 2) (Int32.toNatClampNeg (2 : Int32)) (m6 k 7)) (k + 1) 2))) (k + 2) (Int32.toNatClampNeg (11 : Int32)) ((it_sv (it_sv m6 (k + 2) (Int32.toNatClampNeg (2 : Int32)) (m6 k 7)) (k + 2) (Int32.toNatClampNeg (10 : Int32)) (((it_sv m6 (k + 2) (Int32.toNatClampNeg (2 : Int32)) (m6 k 7)) (k + 1) 1) + ((it_sv m6 (k + 2) (Int32.toNatClampNeg (2 : Int32)) (m6 k 7)) (k + 1) 2))) k 5)) k 6)) k 7)) (k + 2) (Int32.toNatClampNeg (10 : Int32)))), (.ref k)]) (mem1 := (it_sv (it_sv (it_sv (it_sv (it_sv m6 (k + 2) (Int32.toNatClampNeg (2 : Int32)) (m6 k 7)) (k + 2) (Int32.toNatClampNeg (10 : Int32)) (((it_sv m6 (k + 2) (Int32.toNatClampNeg (2 : Int32)) (m6 k 7)) (k + 1) 1) + ((it_sv m6 (k + 2) (Int32.toNatClampNeg (2 : Int32)) (m6 k 7)) (k + 1) 2))) (k + 2) (Int32.toNatClampNeg (11 : Int32)) ((it_sv (it_sv m6 (k + 2) (Int32.toNatClampNeg (2 : Int32)) (m6 k 7)) (k + 2) (Int32.toNatClampNeg (10 : Int32)) (((it_sv m6 (k + 2) (Int32.toNatClampNeg (2 : Int32)) (m6 k 7)) (k + 1) 1) + ((it_sv m6 (k + 2) (Int32.toNatClampNeg (2 : Int32)) (m6 k 7)) (k + 1) 2))) k 5)) (k + 2) (Int32.toNatClampNeg (12 : Int32)) ((it_sv (it_sv (it_sv m6 (k + 2) (Int32.toNatClampNeg (2 : Int32)) (m6 k 7)) (k + 2) (Int32.toNatClampNeg (10 : Int32)) (((it_sv m6 (k + 2) (Int32.toNatClampNeg (2 : Int32)) (m6 k 7)) (k + 1) 1) + ((it_sv m6 (k + 2) (Int32.toNatClampNeg (2 : Int32)) (m6 k 7)) (k + 1) 2))) (k + 2) (Int32.toNatClampNeg (11 : Int32)) ((it_sv (it_sv m6 (k + 2) (Int32.toNatClampNeg (2 : Int32)) (m6 k 7)) (k + 2) (Int32.toNatClampNeg (10 : Int32)) (((it_sv m6 (k + 2) (Int32.toNatClampNeg (2 : Int32)) (m6 k 7)) (k + 1) 1) + ((it_sv m6 (k + 2) (Int32.toNatClampNeg (2 : Int32)) (m6 k 7)) (k + 1) 2))) k 5)) k 6)) (k + 2) (Int32.toNatClampNeg (13 : Int32)) ((it_sv (it_sv (it_sv (it_sv m6 (k + 2) (Int32.toNatClampNeg (2 : Int32)) (m6 k 7)) (k + 2) (Int32.toNatClampNeg (10 : Int32)) (((it_sv m6 (k + 2) (Int32.toNatClampNeg (2 : Int32)) (m6 k 7)) (k + 1) 1) + ((it_sv m6 (k + 2) (Int32.toNatClampNeg (2 : Int32)) (m6 k 7)) (k + 1) 2))) (k + 2) (Int32.toNatClampNeg (11 : Int32)) ((it_sv (it_sv m6 (k + 2) (Int32.toNatClampNeg (2 : Int32)) (m6 k 7)) (k + 2) (Int32.toNatClampNeg (10 : Int32)) (((it_sv m6 (k + 2) (Int32.toNatClampNeg (2 : Int32)) (m6 k 7)) (k + 1) 1) + ((it_sv m6 (k + 2) (Int32.toNatClampNeg (2 : Int32)) (m6 k 7)) (k + 1) 2))) k 5)) (k + 2) (Int32.toNatClampNeg (12 : Int32)) ((it_sv (it_sv (it_sv m6 (k + 2) (Int32.toNatClampNeg (2 : Int32)) (m6 k 7)) (k + 2) (Int32.toNatClampNeg (10 : Int32)) (((it_sv m6 (k + 2) (Int32.toNatClampNeg (2 : Int32)) (m6 k 7)) (k + 1) 1) + ((it_sv m6 (k + 2) (Int32.toNatClampNeg (2 : Int32)) (m6 k 7)) (k + 1) 2))) (k + 2) (Int32.toNatClampNeg (11 : Int32)) ((it_sv (it_sv m6 (k + 2) (Int32.toNatClampNeg (2 : Int32)) (m6 k 7)) (k + 2) (Int32.toNatClampNeg (10 : Int32)) (((it_sv m6 (k + 2) (Int32.toNatClampNeg (2 : Int32)) (m6 k 7)) (k + 1) 1) + ((it_sv m6 (k + 2) (Int32.toNatClampNeg (2 : Int32)) (m6 k 7)) (k + 1) 2))) k 5)) k 6)) k 7))) rfl rfl rfl rfl ?_
  refine it_V.sN it_cd128 it_m128 3 (pc1 := 137) (ls1 := [some (.ref k)]) (st1 := [(.int ((((it_sv (it_sv (it_sv (it_sv (it_sv m6 (k + 2) (Int32.toNatClampNeg (2 : Int32)) (m6 k 7)) (k + 2) (Int32.toNatClampNeg (10 : Int32)) (((it_sv m6 (k + 2) (Int32.toNatClampNeg (2 : Int32)) (m6 k 7)) (k + 1) 1) + ((it_sv m6 (k + 2) (Int32.toNatClampNeg (2 : Int32)) (m6 k 7)) (k + 1) 2))) (k + 2) (Int32.toNatClampNeg (11 : Int32)) ((it_sv (it_sv m6 (k + 2) (Int32.toNatClampNeg (2 : Int32)) (m6 k 7)) (k + 2) (Int32.toNatClampNeg (10 : Int32)) (((it_sv m6 (k + 2) (Int32.toNatClampNeg (2 : Int32)) (m6 k 7)) (k + 1) 1) + ((it_sv m6 (k + 2) (Int32.toNatClampNeg (2 : Int32)) (m6 k 7)) (k + 1) 2))) k 5)) (k + 2) (Int32.toNatClampNeg (12 : Int32)) ((it_sv (it_sv (it_sv m6 (k + 2) (Int32.toNatClampNeg (2 : Int32)) (m6 k 7)) (k + 2) (Int32.toNatClampNeg (10 : Int32)) (((it_sv m6 (k + 2) (Int32.toNatClampNeg (2 : Int32)) (m6 k 7)) (k + 1) 1) + ((it_sv m6 (k + 2) (Int32.toNatClampNeg (2 : Int32)) (m6 k 7)) (k + 1) 2))) (k + 2) (Int32.toNatClampNeg (11 : Int32)) ((it_sv (it_sv m6 (k + 2) (Int32.toNatClampNeg (2 : Int32)) (m6 k 7)) (k + 2) (Int32.toNatClampNeg (10 : Int32)) (((it_sv m6 (k + 2) (Int32.toNatClampNeg (2 : Int32)) (m6 k 7)) (k + 1) 1) + ((it_sv m6 (k + 2) (Int32.toNatClampNeg (2 : Int32)) (m6 k 7)) (k + 1) 2))) k 5)) k 6)) (k + 2) (Int32.toNatClampNeg (13 : Int32)) ((it_sv (it_sv (it_sv (it_sv m6 (k + 2) (Int32.toNatClampNeg (2 : Int32)) (m6 k 7)) (k + 2) (Int32.toNatClampNeg (10 : Int32)) (((it_sv m6 (k + 2) (Int32.toNatClampNeg (2 : Int32)) (m6 k 7)) (k + 1) 1) + ((it_sv m6 (k + 2) (Int32.toNatClampNeg (2 : Int32)) (m6 k 7)) (k + 1) 2))) (k + 2) (Int32.toNatClampNeg (11 : Int32)) ((it_sv (it_sv m6 (k + 2) (Int32.toNatClampNeg (2 : Int32)) (m6 k 7)) (k + 2) (Int32.toNatClampNeg (10 : Int32)) (((it_sv m6 (k + 2) (Int32.toNatClampNeg (2 : Int32)) (m6 k 7)) (k + 1) 1) + ((it_sv m6 (k + 2) (Int32.toNatClampNeg (2 : Int32)) (m6 k 7)) (k + 1) 2))) k 5)) (k + 2) (Int32.toNatClampNeg (12 : Int32)) ((it_sv (it_sv (it_sv m6 (k + 2) (Int32.toNatClampNeg (2 : Int32)) (m6 k 7)) (k + 2) (Int32.toNatClampNeg (10 : Int32)) (((it_sv m6 (k + 2) (Int32.toNatClampNeg (2 : Int32)) (m6 k 7)) (k + 1) 1) + ((it_sv m6 (k + 2) (Int32.toNatClampNeg (2 : Int32)) (m6 k 7)) (k + 1) 2))) (k + 2) (Int32.toNatClampNeg (11 : Int32)) ((it_sv (it_sv m6 (k + 2) (Int32.toNatClampNeg (2 : Int32)) (m6 k 7)) (k + 2) (Int32.toNatClampNeg (10 : Int32)) (((it_sv m6 (k + 2) (Int32.toNatClampNeg (2 : Int32)) (m6 k 7)) (k + 1) 1) + ((it_sv m6 (k + 2) (Int32.toNatClampNeg (2 : Int32)) (m6 k 7)) (k + 1) 2))) k 5)) k 6)) k 7)) (k + 2) (Int32.toNatClampNeg (10 : Int32))) + ((it_sv (it_sv (it_sv (it_sv (it_sv m6 (k + 2) (Int32.toNatClampNeg (2 : Int32)) (m6 k 7)) (k + 2) (Int32.toNatClampNeg (10 : Int32)) (((it_sv m6 (k + 2) (Int32.toNatClampNeg (2 : Int32)) (m6 k 7)) (k + 1) 1) + ((it_sv m6 (k + 2) (Int32.toNatClampNeg (2 : Int32)) (m6 k 7)) (k + 1) 2))) (k + 2) (Int32.toNatClampNeg (11 : Int32)) ((it_sv (it_sv m6 (k + 2) (Int32.toNatClampNeg (2 : Int32)) (m6 k 7)) (k + 2) (Int32.toNatClampNeg (10 : Int32)) (((it_sv m6 (k + 2) (Int32.toNatClampNeg (2 : Int32)) (m6 k 7)) (k + 1) 1) + ((it_sv m6 (k + 2) (Int32.toNatClampNeg (2 : Int32)) (m6 k 7)) (k + 1) 2))) k 5)) (k + 2) (Int32.toNatClampNeg (12 : Int32)) ((it_sv (it_sv (it_sv m6 (k + 2) (Int32.toNatClampNeg (2 : Int32)) (m6 k 7)) (k + 2) (Int32.toNatClampNeg (10 : Int32)) (((it_sv m6 (k + 2) (Int32.toNatClampNeg (2 : Int32)) (m6 k 7)) (k + 1) 1) + ((it_sv m6 (k + 2) (Int32.toNatClampNeg (2 : Int32)) (m6 k 7)) (k + 1) 2))) (k + 2) (Int32.toNatClampNeg (11 : Int32)) ((it_sv (it_sv m6 (k + 2) (Int32.toNatClampNeg (2 : Int32)) (m6 k 7)) (k + 2) (Int32.toNatClampNeg (10 : Int32)) (((it_sv m6 (k + 2) (Int32.toNatClampNeg (2 : Int32)) (m6 k 7)) (k + 1) 1) + ((it_sv m6 (k + 2) (Int32.toNatClampNeg (2 : Int32)) (m6 k 7)) (k + 1) 2))) k 5)) k 6)) (k + 2) (Int32.toNatClampNeg (13 : Int32)) ((it_sv (it_sv (it_sv (it_sv m6 (k + 2) (Int32.toNatClampNeg (2 : Int32)) (m6 k 7)) (k + 2) (Int32.toNatClampNeg (10 : Int32)) (((it_sv m6 (k + 2) (Int32.toNatClampNeg (2 : Int32)) (m6 k 7)) (k + 1) 1) + ((it_sv m6 (k + 2) (Int32.toNatClampNeg (2 : Int32)) (m6 k 7)) (k + 1) 2))) (k + 2) (Int32.toNatClampNeg (11 : Int32)) ((it_sv (it_sv m6 (k + 2) (Int32.toNatClampNeg (2 : Int32)) (m6 k 7)) (k + 2) (Int32.toNatClampNeg (10 : Int32)) (((it_sv m6 (k + 2) (Int32.toNatClampNeg (2 : Int32)) (m6 k 7)) (k + 1) 1) + ((it_sv m6 (k + 2) (Int32.toNatClampNeg (2 : Int32)) (m6 k 7)) (k + 1) 2))) k 5)) (k + 2) (Int32.toNatClampNeg (12 : Int32)) ((it_sv (it_sv (it_sv m6 (k + 2) (Int32.toNatClampNeg (2 : Int32)) (m6 k 7)) (k + 2) (Int32.toNatClampNeg (10 : Int32)) (((it_sv m6 (k + 2) (Int32.toNatClampNeg (2 : Int32)) (m6 k 7)) (k + 1) 1) + ((it_sv m6 (k + 2) (Int32.toNatClampNeg (2 : Int32)) (m6 k 7)) (k + 1) 2))) (k + 2) (Int32.toNatClampNeg (11 : Int32)) ((it_sv (it_sv m6 (k + 2) (Int32.toNatClampNeg (2 : Int32)) (m6 k 7)) (k + 2) (Int32.toNatClampNeg (10 : Int32)) (((it_sv m6 (k + 2) (Int32.toNatClampNeg (2 : Int32)) (m6 k 7)) (k + 1) 1) + ((it_sv m6 (k + 2) (Int32.toNatClampNeg (2 : Int32)) (m6 k 7)) (k + 1) 2))) k 5)) k 6)) k 7)) (k + 1) 4)) &&& (-2 : Int32))), (.ref k)]) (mem1 := (it_sv (it_sv (it_sv (it_sv (it_sv m6 (k + 2) (Int32.toNatClampNeg (2 : Int32)) (m6 k 7)) (k + 2) (Int32.toNatClampNeg (10 : Int32)) (((it_sv m6 (k + 2) (Int32.toNatClampNeg (2 : Int32)) (m6 k 7)) (k + 1) 1) + ((it_sv m6 (k + 2) (Int32.toNatClampNeg (2 : Int32)) (m6 k 7)) (k + 1) 2))) (k + 2) (Int32.toNatClampNeg (11 : Int32)) ((it_sv (it_sv m6 (k + 2) (Int32.toNatClampNeg (2 : Int32)) (m6 k 7)) (k + 2) (Int32.toNatClampNeg (10 : Int32)) (((it_sv m6 (k + 2) (Int32.toNatClampNeg (2 : Int32)) (m6 k 7)) (k + 1) 1) + ((it_sv m6 (k + 2) (Int32.toNatClampNeg (2 : Int32)) (m6 k 7)) (k + 1) 2))) k 5)) (k + 2) (Int32.toNatClampNeg (12 : Int32)) ((it_sv (it_sv (it_sv m6 (k + 2) (Int32.toNatClampNeg (2 : Int32)) (m6 k 7)) (k + 2) (Int32.toNatClampNeg (10 : Int32)) (((it_sv m6 (k + 2) (Int32.toNatClampNeg (2 : Int32)) (m6 k 7)) (k + 1) 1) + ((it_sv m6 (k + 2) (Int32.toNatClampNeg (2 : Int32)) (m6 k 7)) (k + 1) 2))) (k + 2) (Int32.toNatClampNeg (11 : Int32)) ((it_sv (it_sv m6 (k + 2) (Int32.toNatClampNeg (2 : Int32)) (m6 k 7)) (k + 2) (Int32.toNatClampNeg (10 : Int32)) (((it_sv m6 (k + 2) (Int32.toNatClampNeg (2 : Int32)) (m6 k 7)) (k + 1) 1) + ((it_sv m6 (k + 2) (Int32.toNatClampNeg (2 : Int32)) (m6 k 7)) (k + 1) 2))) k 5)) k 6)) (k + 2) (Int32.toNatClampNeg (13 : Int32)) ((it_sv (it_sv (it_sv (it_sv m6 (k + 2) (Int32.toNatClampNeg (2 : Int32)) (m6 k 7)) (k + 2) (Int32.toNatClampNeg (10 : Int32)) (((it_sv m6 (k + 2) (Int32.toNatClampNeg (2 : Int32)) (m6 k 7)) (k + 1) 1) + ((it_sv m6 (k + 2) (Int32.toNatClampNeg (2 : Int32)) (m6 k 7)) (k + 1) 2))) (k + 2) (Int32.toNatClampNeg (11 : Int32)) ((it_sv (it_sv m6 (k + 2) (Int32.toNatClampNeg (2 : Int32)) (m6 k 7)) (k + 2) (Int32.toNatClampNeg (10 : Int32)) (((it_sv m6 (k + 2) (Int32.toNatClampNeg (2 : Int32)) (m6 k 7)) (k + 1) 1) + ((it_sv m6 (k + 2) (Int32.toNatClampNeg (2 : Int32)) (m6 k 7)) (k + 1) 2))) k 5)) (k + 2) (Int32.toNatClampNeg (12 : Int32)) ((it_sv (it_sv (it_sv m6 (k + 2) (Int32.toNatClampNeg (2 : Int32)) (m6 k 7)) (k + 2) (Int32.toNatClampNeg (10 : Int32)) (((it_sv m6 (k + 2) (Int32.toNatClampNeg (2 : Int32)) (m6 k 7)) (k + 1) 1) + ((it_sv m6 (k + 2) (Int32.toNatClampNeg (2 : Int32)) (m6 k 7)) (k + 1) 2))) (k + 2) (Int32.toNatClampNeg (11 : Int32)) ((it_sv (it_sv m6 (k + 2) (Int32.toNatClampNeg (2 : Int32)) (m6 k 7)) (k + 2) (Int32.toNatClampNeg (10 : Int32)) (((it_sv m6 (k + 2) (Int32.toNatClampNeg (2 : Int32)) (m6 k 7)) (k + 1) 1) + ((it_sv m6 (k + 2) (Int32.toNatClampNeg (2 : Int32)) (m6 k 7)) (k + 1) 2))) k 5)) k 6)) k 7))) rfl ?_
  refine it_V.putP it_cd128 it_m128 rfl (hk).1 rfl rfl rfl (Or.inl rfl) ?_
  refine it_V.at (pc1 := 140) (ls1 := [some (.ref k)]) (st1 := []) (mem1 := (it_sv (it_sv (it_sv (it_sv (it_sv (it_sv m6 (k + 2) (Int32.toNatClampNeg (2 : Int32)) (m6 k 7)) (k + 2) (Int32.toNatClampNeg (10 : Int32)) (((it_sv m6 (k + 2) (Int32.toNatClampNeg (2 : Int32)) (m6 k 7)) (k + 1) 1) + ((it_sv m6 (k + 2) (Int32.toNatClampNeg (2 : Int32)) (m6 k 7)) (k + 1) 2))) (k + 2) (Int32.toNatClampNeg (11 : Int32)) ((it_sv (it_sv m6 (k + 2) (Int32.toNatClampNeg (2 : Int32)) (m6 k 7)) (k + 2) (Int32.toNatClampNeg (10 : Int32)) (((it_sv m6 (k + 2) (Int32.toNatClampNeg (2 : Int32)) (m6 k 7)) (k + 1) 1) + ((it_sv m6 (k + 2) (Int32.toNatClampNeg (2 : Int32)) (m6 k 7)) (k + 1) 2))) k 5)) (k + 2) (Int32.toNatClampNeg (12 : Int32)) ((it_sv (it_sv (it_sv m6 (k + 2) (Int32.toNatClampNeg (2 : Int32)) (m6 k 7)) (k + 2) (Int32.toNatClampNeg (10 : Int32)) (((it_sv m6 (k + 2) (Int32.toNatClampNeg (2 : Int32)) (m6 k 7)) (k + 1) 1) + ((it_sv m6 (k + 2) (Int32.toNatClampNeg (2 : Int32)) (m6 k 7)) (k + 1) 2))) (k + 2) (Int32.toNatClampNeg (11 : Int32)) ((it_sv (it_sv m6 (k + 2) (Int32.toNatClampNeg (2 : Int32)) (m6 k 7)) (k + 2) (Int32.toNatClampNeg (10 : Int32)) (((it_sv m6 (k + 2) (Int32.toNatClampNeg (2 : Int32)) (m6 k 7)) (k + 1) 1) + ((it_sv m6 (k + 2) (Int32.toNatClampNeg (2 : Int32)) (m6 k 7)) (k + 1) 2))) k 5)) k 6)) (k + 2) (Int32.toNatClampNeg (13 : Int32)) ((it_sv (it_sv (it_sv (it_sv m6 (k + 2) (Int32.toNatClampNeg (2 : Int32)) (m6 k 7)) (k + 2) (Int32.toNatClampNeg (10 : Int32)) (((it_sv m6 (k + 2) (Int32.toNatClampNeg (2 : Int32)) (m6 k 7)) (k + 1) 1) + ((it_sv m6 (k + 2) (Int32.toNatClampNeg (2 : Int32)) (m6 k 7)) (k + 1) 2))) (k + 2) (Int32.toNatClampNeg (11 : Int32)) ((it_sv (it_sv m6 (k + 2) (Int32.toNatClampNeg (2 : Int32)) (m6 k 7)) (k + 2) (Int32.toNatClampNeg (10 : Int32)) (((it_sv m6 (k + 2) (Int32.toNatClampNeg (2 : Int32)) (m6 k 7)) (k + 1) 1) + ((it_sv m6 (k + 2) (Int32.toNatClampNeg (2 : Int32)) (m6 k 7)) (k + 1) 2))) k 5)) (k + 2) (Int32.toNatClampNeg (12 : Int32)) ((it_sv (it_sv (it_sv m6 (k + 2) (Int32.toNatClampNeg (2 : Int32)) (m6 k 7)) (k + 2) (Int32.toNatClampNeg (10 : Int32)) (((it_sv m6 (k + 2) (Int32.toNatClampNeg (2 : Int32)) (m6 k 7)) (k + 1) 1) + ((it_sv m6 (k + 2) (Int32.toNatClampNeg (2 : Int32)) (m6 k 7)) (k + 1) 2))) (k + 2) (Int32.toNatClampNeg (11 : Int32)) ((it_sv (it_sv m6 (k + 2) (Int32.toNatClampNeg (2 : Int32)) (m6 k 7)) (k + 2) (Int32.toNatClampNeg (10 : Int32)) (((it_sv m6 (k + 2) (Int32.toNatClampNeg (2 : Int32)) (m6 k 7)) (k + 1) 1) + ((it_sv m6 (k + 2) (Int32.toNatClampNeg (2 : Int32)) (m6 k 7)) (k + 1) 2))) k 5)) k 6)) k 7)) k 3 ((((it_sv (it_sv (it_sv (it_sv (it_sv m6 (k + 2) (Int32.toNatClampNeg (2 : Int32)) (m6 k 7)) (k + 2) (Int32.toNatClampNeg (10 : Int32)) (((it_sv m6 (k + 2) (Int32.toNatClampNeg (2 : Int32)) (m6 k 7)) (k + 1) 1) + ((it_sv m6 (k + 2) (Int32.toNatClampNeg (2 : Int32)) (m6 k 7)) (k + 1) 2))) (k + 2) (Int32.toNatClampNeg (11 : Int32)) ((it_sv (it_sv m6 (k + 2) (Int32.toNatClampNeg (2 : Int32)) (m6 k 7)) (k + 2) (Int32.toNatClampNeg (10 : Int32)) (((it_sv m6 (k + 2) (Int32.toNatClampNeg (2 : Int32)) (m6 k 7)) (k + 1) 1) + ((it_sv m6 (k + 2) (Int32.toNatClampNeg (2 : Int32)) (m6 k 7)) (k + 1) 2))) k 5)) (k + 2) (Int32.toNatClampNeg (12 : Int32)) ((it_sv (it_sv (it_sv m6 (k + 2) (Int32.toNatClampNeg (2 : Int32)) (m6 k 7)) (k + 2) (Int32.toNatClampNeg (10 : Int32)) (((it_sv m6 (k + 2) (Int32.toNatClampNeg (2 : Int32)) (m6 k 7)) (k + 1) 1) + ((it_sv m6 (k + 2) (Int32.toNatClampNeg (2 : Int32)) (m6 k 7)) (k + 1) 2))) (k + 2) (Int32.toNatClampNeg (11 : Int32)) ((it_sv (it_sv m6 (k + 2) (Int32.toNatClampNeg (2 : Int32)) (m6 k 7)) (k + 2) (Int32.toNatClampNeg (10 : Int32)) (((it_sv m6 (k + 2) (Int32.toNatClampNeg (2 : Int32)) (m6 k 7)) (k + 1) 1) + ((it_sv m6 (k + 2) (Int32.toNatClampNeg (2 : Int32)) (m6 k 7)) (k + 1) 2))) k 5)) k 6)) (k + 2) (Int32.toNatClampNeg (13 : Int32)) ((it_sv (it_sv (it_sv (it_sv m6 (k + 2) (Int32.toNatClampNeg (2 : Int32)) (m6 k 7)) (k + 2) (Int32.toNatClampNeg (10 : Int32)) (((it_sv m6 (k + 2) (Int32.toNatClampNeg (2 : Int32)) (m6 k 7)) (k + 1) 1) + ((it_sv m6 (k + 2) (Int32.toNatClampNeg (2 : Int32)) (m6 k 7)) (k + 1) 2))) (k + 2) (Int32.toNatClampNeg (11 : Int32)) ((it_sv (it_sv m6 (k + 2) (Int32.toNatClampNeg (2 : Int32)) (m6 k 7)) (k + 2) (Int32.toNatClampNeg (10 : Int32)) (((it_sv m6 (k + 2) (Int32.toNatClampNeg (2 : Int32)) (m6 k 7)) (k + 1) 1) + ((it_sv m6 (k + 2) (Int32.toNatClampNeg (2 : Int32)) (m6 k 7)) (k + 1) 2))) k 5)) (k + 2) (Int32.toNatClampNeg (12 : Int32)) ((it_sv (it_sv (it_sv m6 (k + 2) (Int32.toNatClampNeg (2 : Int32)) (m6 k 7)) (k + 2) (Int32.toNatClampNeg (10 : Int32)) (((it_sv m6 (k + 2) (Int32.toNatClampNeg (2 : Int32)) (m6 k 7)) (k + 1) 1) + ((it_sv m6 (k + 2) (Int32.toNatClampNeg (2 : Int32)) (m6 k 7)) (k + 1) 2))) (k + 2) (Int32.toNatClampNeg (11 : Int32)) ((it_sv (it_sv m6 (k + 2) (Int32.toNatClampNeg (2 : Int32)) (m6 k 7)) (k + 2) (Int32.toNatClampNeg (10 : Int32)) (((it_sv m6 (k + 2) (Int32.toNatClampNeg (2 : Int32)) (m6 k 7)) (k + 1) 1) + ((it_sv m6 (k + 2) (Int32.toNatClampNeg (2 : Int32)) (m6 k 7)) (k + 1) 2))) k 5)) k 6)) k 7)) (k + 2) (Int32.toNatClampNeg (10 : Int32))) + ((it_sv (it_sv (it_sv (it_sv (it_sv m6 (k + 2) (Int32.toNatClampNeg (2 : Int32)) (m6 k 7)) (k + 2) (Int32.toNatClampNeg (10 : Int32)) (((it_sv m6 (k + 2) (Int32.toNatClampNeg (2 : Int32)) (m6 k 7)) (k + 1) 1) + ((it_sv m6 (k + 2) (Int32.toNatClampNeg (2 : Int32)) (m6 k 7)) (k + 1) 2))) (k + 2) (Int32.toNatClampNeg (11 : Int32)) ((it_sv (it_sv m6 (k + 2) (Int32.toNatClampNeg (2 : Int32)) (m6 k 7)) (k + 2) (Int32.toNatClampNeg (10 : Int32)) (((it_sv m6 (k + 2) (Int32.toNatClampNeg (2 : Int32)) (m6 k 7)) (k + 1) 1) + ((it_sv m6 (k + 2) (Int32.toNatClampNeg (2 : Int32)) (m6 k 7)) (k + 1) 2))) k 5)) (k + 2) (Int32.toNatClampNeg (12 : Int32)) ((it_sv (it_sv (it_sv m6 (k + 2) (Int32.toNatClampNeg (2 : Int32)) (m6 k 7)) (k + 2) (Int32.toNatClampNeg (10 : Int32)) (((it_sv m6 (k + 2) (Int32.toNatClampNeg (2 : Int32)) (m6 k 7)) (k + 1) 1) + ((it_sv m6 (k + 2) (Int32.toNatClampNeg (2 : Int32)) (m6 k 7)) (k + 1) 2))) (k + 2) (Int32.toNatClampNeg (11 : Int32)) ((it_sv (it_sv m6 (k + 2) (Int32.toNatClampNeg (2 : Int32)) (m6 k 7)) (k + 2) (Int32.toNatClampNeg (10 : Int32)) (((it_sv m6 (k + 2) (Int32.toNatClampNeg (2 : Int32)) (m6 k 7)) (k + 1) 1) + ((it_sv m6 (k + 2) (Int32.toNatClampNeg (2 : Int32)) (m6 k 7)) (k + 1) 2))) k 5)) k 6)) (k + 2) (Int32.toNatClampNeg (13 : Int32)) ((it_sv (it_sv (it_sv (it_sv m6 (k + 2) (Int32.toNatClampNeg (2 : Int32)) (m6 k 7)) (k + 2) (Int32.toNatClampNeg (10 : Int32)) (((it_sv m6 (k + 2) (Int32.toNatClampNeg (2 : Int32)) (m6 k 7)) (k + 1) 1) + ((it_sv m6 (k + 2) (Int32.toNatClampNeg (2 : Int32)) (m6 k 7)) (k + 1) 2))) (k + 2) (Int32.toNatClampNeg (11 : Int32)) ((it_sv (it_sv m6 (k + 2) (Int32.toNatClampNeg (2 : Int32)) (m6 k 7)) (k + 2) (Int32.toNatClampNeg (10 : Int32)) (((it_sv m6 (k + 2) (Int32.toNatClampNeg (2 : Int32)) (m6 k 7)) (k + 1) 1) + ((it_sv m6 (k + 2) (Int32.toNatClampNeg (2 : Int32)) (m6 k 7)) (k + 1) 2))) k 5)) (k + 2) (Int32.toNatClampNeg (12 : Int32)) ((it_sv (it_sv (it_sv m6 (k + 2) (Int32.toNatClampNeg (2 : Int32)) (m6 k 7)) (k + 2) (Int32.toNatClampNeg (10 : Int32)) (((it_sv m6 (k + 2) (Int32.toNatClampNeg (2 : Int32)) (m6 k 7)) (k + 1) 1) + ((it_sv m6 (k + 2) (Int32.toNatClampNeg (2 : Int32)) (m6 k 7)) (k + 1) 2))) (k + 2) (Int32.toNatClampNeg (11 : Int32)) ((it_sv (it_sv m6 (k + 2) (Int32.toNatClampNeg (2 : Int32)) (m6 k 7)) (k + 2) (Int32.toNatClampNeg (10 : Int32)) (((it_sv m6 (k + 2) (Int32.toNatClampNeg (2 : Int32)) (m6 k 7)) (k + 1) 1) + ((it_sv m6 (k + 2) (Int32.toNatClampNeg (2 : Int32)) (m6 k 7)) (k + 1) 2))) k 5)) k 6)) k 7)) (k + 1) 4)) &&& (-2 : Int32)))) rfl rfl rfl rfl ?_
  refine it_V.sN it_cd128 it_m128 2 (pc1 := 142) (ls1 := [some (.ref k)]) (st1 := [(.int (1 : Int32)), (.ref k)]) (mem1 := (it_sv (it_sv (it_sv (it_sv (it_sv (it_sv m6 (k + 2) (Int32.toNatClampNeg (2 : Int32)) (m6 k 7)) (k + 2) (Int32.toNatClampNeg (10 : Int32)) (((it_sv m6 (k + 2) (Int32.toNatClampNeg (2 : Int32)) (m6 k 7)) (k + 1) 1) + ((it_sv m6 (k + 2) (Int32.toNatClampNeg (2 : Int32)) (m6 k 7)) (k + 1) 2))) (k + 2) (Int32.toNatClampNeg (11 : Int32)) ((it_sv (it_sv m6 (k + 2) (Int32.toNatClampNeg (2 : Int32)) (m6 k 7)) (k + 2) (Int32.toNatClampNeg (10 : Int32)) (((it_sv m6 (k + 2) (Int32.toNatClampNeg (2 : Int32)) (m6 k 7)) (k + 1) 1) + ((it_sv m6 (k + 2) (Int32.toNatClampNeg (2 : Int32)) (m6 k 7)) (k + 1) 2))) k 5)) (k + 2) (Int32.toNatClampNeg (12 : Int32)) ((it_sv (it_sv (it_sv m6 (k + 2) (Int32.toNatClampNeg (2 : Int32)) (m6 k 7)) (k + 2) (Int32.toNatClampNeg (10 : Int32)) (((it_sv m6 (k + 2) (Int32.toNatClampNeg (2 : Int32)) (m6 k 7)) (k + 1) 1) + ((it_sv m6 (k + 2) (Int32.toNatClampNeg (2 : Int32)) (m6 k 7)) (k + 1) 2))) (k + 2) (Int32.toNatClampNeg (11 : Int32)) ((it_sv (it_sv m6 (k + 2) (Int32.toNatClampNeg (2 : Int32)) (m6 k 7)) (k + 2) (Int32.toNatClampNeg (10 : Int32)) (((it_sv m6 (k + 2) (Int32.toNatClampNeg (2 : Int32)) (m6 k 7)) (k + 1) 1) + ((it_sv m6 (k + 2) (Int32.toNatClampNeg (2 : Int32)) (m6 k 7)) (k + 1) 2))) k 5)) k 6)) (k + 2) (Int32.toNatClampNeg (13 : Int32)) ((it_sv (it_sv (it_sv (it_sv m6 (k + 2) (Int32.toNatClampNeg (2 : Int32)) (m6 k 7)) (k + 2) (Int32.toNatClampNeg (10 : Int32)) (((it_sv m6 (k + 2) (Int32.toNatClampNeg (2 : Int32)) (m6 k 7)) (k + 1) 1) + ((it_sv m6 (k + 2) (Int32.toNatClampNeg (2 : Int32)) (m6 k 7)) (k + 1) 2))) (k + 2) (Int32.toNatClampNeg (11 : Int32)) ((it_sv (it_sv m6 (k + 2) (Int32.toNatClampNeg (2 : Int32)) (m6 k 7)) (k + 2) (Int32.toNatClampNeg (10 : Int32)) (((it_sv m6 (k + 2) (Int32.toNatClampNeg (2 : Int32)) (m6 k 7)) (k + 1) 1) + ((it_sv m6 (k + 2) (Int32.toNatClampNeg (2 : Int32)) (m6 k 7)) (k + 1) 2))) k 5)) (k + 2) (Int32.toNatClampNeg (12 : Int32)) ((it_sv (it_sv (it_sv m6 (k + 2) (Int32.toNatClampNeg (2 : Int32)) (m6 k 7)) (k + 2) (Int32.toNatClampNeg (10 : Int32)) (((it_sv m6 (k + 2) (Int32.toNatClampNeg (2 : Int32)) (m6 k 7)) (k + 1) 1) + ((it_sv m6 (k + 2) (Int32.toNatClampNeg (2 : Int32)) (m6 k 7)) (k + 1) 2))) (k + 2) (Int32.toNatClampNeg (11 : Int32)) ((it_sv (it_sv m6 (k + 2) (Int32.toNatClampNeg (2 : Int32)) (m6 k 7)) (k + 2) (Int32.toNatClampNeg (10 : Int32)) (((it_sv m6 (k + 2) (Int32.toNatClampNeg (2 : Int32)) (m6 k 7)) (k + 1) 1) + ((it_sv m6 (k + 2) (Int32.toNatClampNeg (2 : Int32)) (m6 k 7)) (k + 1) 2))) k 5)) k 6)) k 7)) k 3 ((((it_sv (it_sv (it_sv (it_sv (it_sv m6 (k + 2) (Int32.toNatClampNeg (2 : Int32)) (m6 k 7)) (k + 2) (Int32.toNatClampNeg (10 : Int32)) (((it_sv m6 (k + 2) (Int32.toNatClampNeg (2 : Int32)) (m6 k 7)) (k + 1) 1) + ((it_sv m6 (k + 2) (Int32.toNatClampNeg (2 : Int32)) (m6 k 7)) (k + 1) 2))) (k + 2) (Int32.toNatClampNeg (11 : Int32)) ((it_sv (it_sv m6 (k + 2) (Int32.toNatClampNeg (2 : Int32)) (m6 k 7)) (k + 2) (Int32.toNatClampNeg (10 : Int32)) (((it_sv m6 (k + 2) (Int32.toNatClampNeg (2 : Int32)) (m6 k 7)) (k + 1) 1) + ((it_sv m6 (k + 2) (Int32.toNatClampNeg (2 : Int32)) (m6 k 7)) (k + 1) 2))) k 5)) (k + 2) (Int32.toNatClampNeg (12 : Int32)) ((it_sv (it_sv (it_sv m6 (k + 2) (Int32.toNatClampNeg (2 : Int32)) (m6 k 7)) (k + 2) (Int32.toNatClampNeg (10 : Int32)) (((it_sv m6 (k + 2) (Int32.toNatClampNeg (2 : Int32)) (m6 k 7)) (k + 1) 1) + ((it_sv m6 (k + 2) (Int32.toNatClampNeg (2 : Int32)) (m6 k 7)) (k + 1) 2))) (k + 2) (Int32.toNatClampNeg (11 : Int32)) ((it_sv (it_sv m6 (k + 2) (Int32.toNatClampNeg (2 : Int32)) (m6 k 7)) (k + 2) (Int32.toNatClampNeg (10 : Int32)) (((it_sv m6 (k + 2) (Int32.toNatClampNeg (2 : Int32)) (m6 k 7)) (k + 1) 1) + ((it_sv m6 (k + 2) (Int32.toNatClampNeg (2 : Int32)) (m6 k 7)) (k + 1) 2))) k 5)) k 6)) (k + 2) (Int32.toNatClampNeg (13 : Int32)) ((it_sv (it_sv (it_sv (it_sv m6 (k + 2) (Int32.toNatClampNeg (2 : Int32)) (m6 k 7)) (k + 2) (Int32.toNatClampNeg (10 : Int32)) (((it_sv m6 (k + 2) (Int32.toNatClampNeg (2 : Int32)) (m6 k 7)) (k + 1) 1) + ((it_sv m6 (k + 2) (Int32.toNatClampNeg (2 : Int32)) (m6 k 7)) (k + 1) 2))) (k + 2) (Int32.toNatClampNeg (11 : Int32)) ((it_sv (it_sv m6 (k + 2) (Int32.toNatClampNeg (2 : Int32)) (m6 k 7)) (k + 2) (Int32.toNatClampNeg (10 : Int32)) (((it_sv m6 (k + 2) (Int32.toNatClampNeg (2 : Int32)) (m6 k 7)) (k + 1) 1) + ((it_sv m6 (k + 2) (Int32.toNatClampNeg (2 : Int32)) (m6 k 7)) (k + 1) 2))) k 5)) (k + 2) (Int32.toNatClampNeg (12 : Int32)) ((it_sv (it_sv (it_sv m6 (k + 2) (Int32.toNatClampNeg (2 : Int32)) (m6 k 7)) (k + 2) (Int32.toNatClampNeg (10 : Int32)) (((it_sv m6 (k + 2) (Int32.toNatClampNeg (2 : Int32)) (m6 k 7)) (k + 1) 1) + ((it_sv m6 (k + 2) (Int32.toNatClampNeg (2 : Int32)) (m6 k 7)) (k + 1) 2))) (k + 2) (Int32.toNatClampNeg (11 : Int32)) ((it_sv (it_sv m6 (k + 2) (Int32.toNatClampNeg (2 : Int32)) (m6 k 7)) (k + 2) (Int32.toNatClampNeg (10 : Int32)) (((it_sv m6 (k + 2) (Int32.toNatClampNeg (2 : Int32)) (m6 k 7)) (k + 1) 1) + ((it_sv m6 (k + 2) (Int32.toNatClampNeg (2 : Int32)) (m6 k 7)) (k + 1) 2))) k 5)) k 6)) k 7)) (k + 2) (Int32.toNatClampNeg (10 : Int32))) + ((it_sv (it_sv (it_sv (it_sv (it_sv m6 (k + 2) (Int32.toNatClampNeg (2 : Int32)) (m6 k 7)) (k + 2) (Int32.toNatClampNeg (10 : Int32)) (((it_sv m6 (k + 2) (Int32.toNatClampNeg (2 : Int32)) (m6 k 7)) (k + 1) 1) + ((it_sv m6 (k + 2) (Int32.toNatClampNeg (2 : Int32)) (m6 k 7)) (k + 1) 2))) (k + 2) (Int32.toNatClampNeg (11 : Int32)) ((it_sv (it_sv m6 (k + 2) (Int32.toNatClampNeg (2 : Int32)) (m6 k 7)) (k + 2) (Int32.toNatClampNeg (10 : Int32)) (((it_sv m6 (k + 2) (Int32.toNatClampNeg (2 : Int32)) (m6 k 7)) (k + 1) 1) + ((it_sv m6 (k + 2) (Int32.toNatClampNeg (2 : Int32)) (m6 k 7)) (k + 1) 2))) k 5)) (k + 2) (Int32.toNatClampNeg (12 : Int32)) ((it_sv (it_sv (it_sv m6 (k + 2) (Int32.toNatClampNeg (2 : Int32)) (m6 k 7)) (k + 2) (Int32.toNatClampNeg (10 : Int32)) (((it_sv m6 (k + 2) (Int32.toNatClampNeg (2 : Int32)) (m6 k 7)) (k + 1) 1) + ((it_sv m6 (k + 2) (Int32.toNatClampNeg (2 : Int32)) (m6 k 7)) (k + 1) 2))) (k + 2) (Int32.toNatClampNeg (11 : Int32)) ((it_sv (it_sv m6 (k + 2) (Int32.toNatClampNeg (2 : Int32)) (m6 k 7)) (k + 2) (Int32.toNatClampNeg (10 : Int32)) (((it_sv m6 (k + 2) (Int32.toNatClampNeg (2 : Int32)) (m6 k 7)) (k + 1) 1) + ((it_sv m6 (k + 2) (Int32.toNatClampNeg (2 : Int32)) (m6 k 7)) (k + 1) 2))) k 5)) k 6)) (k + 2) (Int32.toNatClampNeg (13 : Int32)) ((it_sv (it_sv (it_sv (it_sv m6 (k + 2) (Int32.toNatClampNeg (2 : Int32)) (m6 k 7)) (k + 2) (Int32.toNatClampNeg (10 : Int32)) (((it_sv m6 (k + 2) (Int32.toNatClampNeg (2 : Int32)) (m6 k 7)) (k + 1) 1) + ((it_sv m6 (k + 2) (Int32.toNatClampNeg (2 : Int32)) (m6 k 7)) (k + 1) 2))) (k + 2) (Int32.toNatClampNeg (11 : Int32)) ((it_sv (it_sv m6 (k + 2) (Int32.toNatClampNeg (2 : Int32)) (m6 k 7)) (k + 2) (Int32.toNatClampNeg (10 : Int32)) (((it_sv m6 (k + 2) (Int32.toNatClampNeg (2 : Int32)) (m6 k 7)) (k + 1) 1) + ((it_sv m6 (k + 2) (Int32.toNatClampNeg (2 : Int32)) (m6 k 7)) (k + 1) 2))) k 5)) (k + 2) (Int32.toNatClampNeg (12 : Int32)) ((it_sv (it_sv (it_sv m6 (k + 2) (Int32.toNatClampNeg (2 : Int32)) (m6 k 7)) (k + 2) (Int32.toNatClampNeg (10 : Int32)) (((it_sv m6 (k + 2) (Int32.toNatClampNeg (2 : Int32)) (m6 k 7)) (k + 1) 1) + ((it_sv m6 (k + 2) (Int32.toNatClampNeg (2 : Int32)) (m6 k 7)) (k + 1) 2))) (k + 2) (Int32.toNatClampNeg (11 : Int32)) ((it_sv (it_sv m6 (k + 2) (Int32.toNatClampNeg (2 : Int32)) (m6 k 7)) (k + 2) (Int32.toNatClampNeg (10 : Int32)) (((it_sv m6 (k + 2) (Int32.toNatClampNeg (2 : Int32)) (m6 k 7)) (k + 1) 1) + ((it_sv m6 (k + 2) (Int32.toNatClampNeg (2 : Int32)) (m6 k 7)) (k + 1) 2))) k 5)) k 6)) k 7)) (k + 1) 4)) &&& (-2 : Int32)))) rfl ?_
  refine it_V.putP it_cd128 it_m128 rfl (hk).1 rfl rfl rfl (Or.inl rfl) ?_
  refine it_V.at (pc1 := 145) (ls1 := [some (.ref k)]) (st1 := []) (mem1 := (it_sv (it_sv (it_sv (it_sv (it_sv (it_sv (it_sv m6 (k + 2) (Int32.toNatClampNeg (2 : Int32)) (m6 k 7)) (k + 2) (Int32.toNatClampNeg (10 : Int32)) (((it_sv m6 (k + 2) (Int32.toNatClampNeg (2 : Int32)) (m6 k 7)) (k + 1) 1) + ((it_sv m6 (k + 2) (Int32.toNatClampNeg (2 : Int32)) (m6 k 7)) (k + 1) 2))) (k + 2) (Int32.toNatClampNeg (11 : Int32)) ((it_sv (it_sv m6 (k + 2) (Int32.toNatClampNeg (2 : Int32)) (m6 k 7)) (k + 2) (Int32.toNatClampNeg (10 : Int32)) (((it_sv m6 (k + 2) (Int32.toNatClampNeg (2 : Int32)) (m6 k 7)) (k + 1) 1) + ((it_sv m6 (k + 2) (Int32.toNatClampNeg (2 : Int32)) (m6 k 7)) (k + 1) 2))) k 5)) (k + 2) (Int32.toNatClampNeg (12 : Int32)) ((it_sv (it_sv (it_sv m6 (k + 2) (Int32.toNatClampNeg (2 : Int32)) (m6 k 7)) (k + 2) (Int32.toNatClampNeg (10 : Int32)) (((it_sv m6 (k + 2) (Int32.toNatClampNeg (2 : Int32)) (m6 k 7)) (k + 1) 1) + ((it_sv m6 (k + 2) (Int32.toNatClampNeg (2 : Int32)) (m6 k 7)) (k + 1) 2))) (k + 2) (Int32.toNatClampNeg (11 : Int32)) ((it_sv (it_sv m6 (k + 2) (Int32.toNatClampNeg (2 : Int32)) (m6 k 7)) (k + 2) (Int32.toNatClampNeg (10 : Int32)) (((it_sv m6 (k + 2) (Int32.toNatClampNeg (2 : Int32)) (m6 k 7)) (k + 1) 1) + ((it_sv m6 (k + 2) (Int32.toNatClampNeg (2 : Int32)) (m6 k 7)) (k + 1) 2))) k 5)) k 6)) (k + 2) (Int32.toNatClampNeg (13 : Int32)) ((it_sv (it_sv (it_sv (it_sv m6 (k + 2) (Int32.toNatClampNeg (2 : Int32)) (m6 k 7)) (k + 2) (Int32.toNatClampNeg (10 : Int32)) (((it_sv m6 (k + 2) (Int32.toNatClampNeg (2 : Int32)) (m6 k 7)) (k + 1) 1) + ((it_sv m6 (k + 2) (Int32.toNatClampNeg (2 : Int32)) (m6 k 7)) (k + 1) 2))) (k + 2) (Int32.toNatClampNeg (11 : Int32)) ((it_sv (it_sv m6 (k + 2) (Int32.toNatClampNeg (2 : Int32)) (m6 k 7)) (k + 2) (Int32.toNatClampNeg (10 : Int32)) (((it_sv m6 (k + 2) (Int32.toNatClampNeg (2 : Int32)) (m6 k 7)) (k + 1) 1) + ((it_sv m6 (k + 2) (Int32.toNatClampNeg (2 : Int32)) (m6 k 7)) (k + 1) 2))) k 5)) (k + 2) (Int32.toNatClampNeg (12 : Int32)) ((it_sv (it_sv (it_sv m6 (k + 2) (Int32.toNatClampNeg (2 : Int32)) (m6 k 7)) (k + 2) (Int32.toNatClampNeg (10 : Int32)) (((it_sv m6 (k + 2) (Int32.toNatClampNeg (2 : Int32)) (m6 k 7)) (k + 1) 1) + ((it_sv m6 (k + 2) (Int32.toNatClampNeg (2 : Int32)) (m6 k 7)) (k + 1) 2))) (k + 2) (Int32.toNatClampNeg (11 : Int32)) ((it_sv (it_sv m6 (k + 2) (Int32.toNatClampNeg (2 : Int32)) (m6 k 7)) (k + 2) (Int32.toNatClampNeg (10 : Int32)) (((it_sv m6 (k + 2) (Int32.toNatClampNeg (2 : Int32)) (m6 k 7)) (k + 1) 1) + ((it_sv m6 (k + 2) (Int32.toNatClampNeg (2 : Int32)) (m6 k 7)) (k + 1) 2))) k 5)) k 6)) k 7)) k 3 ((((it_sv (it_sv (it_sv (it_sv (it_sv m6 (k + 2) (Int32.toNatClampNeg (2 : Int32)) (m6 k 7)) (k + 2) (Int32.toNatClampNeg (10 : Int32)) (((it_sv m6 (k + 2) (Int32.toNatClampNeg (2 : Int32)) (m6 k 7)) (k + 1) 1) + ((it_sv m6 (k + 2) (Int32.toNatClampNeg (2 : Int32)) (m6 k 7)) (k + 1) 2))) (k + 2) (Int32.toNatClampNeg (11 : Int32)) ((it_sv (it_sv m6 (k + 2) (Int32.toNatClampNeg (2 : Int32)) (m6 k 7)) (k + 2) (Int32.toNatClampNeg (10 : Int32)) (((it_sv m6 (k + 2) (Int32.toNatClampNeg (2 : Int32)) (m6 k 7)) (k + 1) 1) + ((it_sv m6 (k + 2) (Int32.toNatClampNeg (2 : Int32)) (m6 k 7)) (k + 1) 2))) k 5)) (k + 2) (Int32.toNatClampNeg (12 : Int32)) ((it_sv (it_sv (it_sv m6 (k + 2) (Int32.toNatClampNeg (2 : Int32)) (m6 k 7)) (k + 2) (Int32.toNatClampNeg (10 : Int32)) (((it_sv m6 (k + 2) (Int32.toNatClampNeg (2 : Int32)) (m6 k 7)) (k + 1) 1) + ((it_sv m6 (k + 2) (Int32.toNatClampNeg (2 : Int32)) (m6 k 7)) (k + 1) 2))) (k + 2) (Int32.toNatClampNeg (11 : Int32)) ((it_sv (it_sv m6 (k + 2) (Int32.toNatClampNeg (2 : Int32)) (m6 k 7)) (k + 2) (Int32.toNatClampNeg (10 : Int32)) (((it_sv m6 (k + 2) (Int32.toNatClampNeg (2 : Int32)) (m6 k 7)) (k + 1) 1) + ((it_sv m6 (k + 2) (Int32.toNatClampNeg (2 : Int32)) (m6 k 7)) (k + 1) 2))) k 5)) k 6)) (k + 2) (Int32.toNatClampNeg (13 : Int32)) ((it_sv (it_sv (it_sv (it_sv m6 (k + 2) (Int32.toNatClampNeg (2 : Int32)) (m6 k 7)) (k + 2) (Int32.toNatClampNeg (10 : Int32)) (((it_sv m6 (k + 2) (Int32.toNatClampNeg (2 : Int32)) (m6 k 7)) (k + 1) 1) + ((it_sv m6 (k + 2) (Int32.toNatClampNeg (2 : Int32)) (m6 k 7)) (k + 1) 2))) (k + 2) (Int32.toNatClampNeg (11 : Int32)) ((it_sv (it_sv m6 (k + 2) (Int32.toNatClampNeg (2 : Int32)) (m6 k 7)) (k + 2) (Int32.toNatClampNeg (10 : Int32)) (((it_sv m6 (k + 2) (Int32.toNatClampNeg (2 : Int32)) (m6 k 7)) (k + 1) 1) + ((it_sv m6 (k + 2) (Int32.toNatClampNeg (2 : Int32)) (m6 k 7)) (k + 1) 2))) k 5)) (k + 2) (Int32.toNatClampNeg (12 : Int32)) ((it_sv (it_sv (it_sv m6 (k + 2) (Int32.toNatClampNeg (2 : Int32)) (m6 k 7)) (k + 2) (Int32.toNatClampNeg (10 : Int32)) (((it_sv m6 (k + 2) (Int32.toNatClampNeg (2 : Int32)) (m6 k 7)) (k + 1) 1) + ((it_sv m6 (k + 2) (Int32.toNatClampNeg (2 : Int32)) (m6 k 7)) (k + 1) 2))) (k + 2) (Int32.toNatClampNeg (11 : Int32)) ((it_sv (it_sv m6 (k + 2) (Int32.toNatClampNeg (2 : Int32)) (m6 k 7)) (k + 2) (Int32.toNatClampNeg (10 : Int32)) (((it_sv m6 (k + 2) (Int32.toNatClampNeg (2 : Int32)) (m6 k 7)) (k + 1) 1) + ((it_sv m6 (k + 2) (Int32.toNatClampNeg (2 : Int32)) (m6 k 7)) (k + 1) 2))) k 5)) k 6)) k 7)) (k + 2) (Int32.toNatClampNeg (10 : Int32))) + ((it_sv (it_sv (it_sv (it_sv (it_sv m6 (k + 2) (Int32.toNatClampNeg (2 : Int32)) (m6 k 7)) (k + 2) (Int32.toNatClampNeg (10 : Int32)) (((it_sv m6 (k + 2) (Int32.toNatClampNeg (2 : Int32)) (m6 k 7)) (k + 1) 1) + ((it_sv m6 (k + 2) (Int32.toNatClampNeg (2 : Int32)) (m6 k 7)) (k + 1) 2))) (k + 2) (Int32.toNatClampNeg (11 : Int32)) ((it_sv (it_sv m6 (k + 2) (Int32.toNatClampNeg (2 : Int32)) (m6 k 7)) (k + 2) (Int32.toNatClampNeg (10 : Int32)) (((it_sv m6 (k + 2) (Int32.toNatClampNeg (2 : Int32)) (m6 k 7)) (k + 1) 1) + ((it_sv m6 (k + 2) (Int32.toNatClampNeg (2 : Int32)) (m6 k 7)) (k + 1) 2))) k 5)) (k + 2) (Int32.toNatClampNeg (12 : Int32)) ((it_sv (it_sv (it_sv m6 (k + 2) (Int32.toNatClampNeg (2 : Int32)) (m6 k 7)) (k + 2) (Int32.toNatClampNeg (10 : Int32)) (((it_sv m6 (k + 2) (Int32.toNatClampNeg (2 : Int32)) (m6 k 7)) (k + 1) 1) + ((it_sv m6 (k + 2) (Int32.toNatClampNeg (2 : Int32)) (m6 k 7)) (k + 1) 2))) (k + 2) (Int32.toNatClampNeg (11 : Int32)) ((it_sv (it_sv m6 (k + 2) (Int32.toNatClampNeg (2 : Int32)) (m6 k 7)) (k + 2) (Int32.toNatClampNeg (10 : Int32)) (((it_sv m6 (k + 2) (Int32.toNatClampNeg (2 : Int32)) (m6 k 7)) (k + 1) 1) + ((it_sv m6 (k + 2) (Int32.toNatClampNeg (2 : Int32)) (m6 k 7)) (k + 1) 2))) k 5)) k 6)) (k + 2) (Int32.toNatClampNeg (13 : Int32)) ((it_sv (it_sv (it_sv (it_sv m6 (k + 2) (Int32.toNatClampNeg (2 : Int32)) (m6 k 7)) (k + 2) (Int32.toNatClampNeg (10 : Int32)) (((it_sv m6 (k + 2) (Int32.toNatClampNeg (2 : Int32)) (m6 k 7)) (k + 1) 1) + ((it_sv m6 (k + 2) (Int32.toNatClampNeg (2 : Int32)) (m6 k 7)) (k + 1) 2))) (k + 2) (Int32.toNatClampNeg (11 : Int32)) ((it_sv (it_sv m6 (k + 2) (Int32.toNatClampNeg (2 : Int32)) (m6 k 7)) (k + 2) (Int32.toNatClampNeg (10 : Int32)) (((it_sv m6 (k + 2) (Int32.toNatClampNeg (2 : Int32)) (m6 k 7)) (k + 1) 1) + ((it_sv m6 (k + 2) (Int32.toNatClampNeg (2 : Int32)) (m6 k 7)) (k + 1) 2))) k 5)) (k + 2) (Int32.toNatClampNeg (12 : Int32)) ((it_sv (it_sv (it_sv m6 (k + 2) (Int32.toNatClampNeg (2 : Int32)) (m6 k 7)) (k + 2) (Int32.toNatClampNeg (10 : Int32)) (((it_sv m6 (k + 2) (Int32.toNatClampNeg (2 : Int32)) (m6 k 7)) (k + 1) 1) + ((it_sv m6 (k + 2) (Int32.toNatClampNeg (2 : Int32)) (m6 k 7)) (k + 1) 2))) (k + 2) (Int32.toNatClampNeg (11 : Int32)) ((it_sv (it_sv m6 (k + 2) (Int32.toNatClampNeg (2 : Int32)) (m6 k 7)) (k + 2) (Int32.toNatClampNeg (10 : Int32)) (((it_sv m6 (k + 2) (Int32.toNatClampNeg (2 : Int32)) (m6 k 7)) (k + 1) 1) + ((it_sv m6 (k + 2) (Int32.toNatClampNeg (2 : Int32)) (m6 k 7)) (k + 1) 2))) k 5)) k 6)) k 7)) (k + 1) 4)) &&& (-2 : Int32))) k 4 (1 : Int32))) rfl rfl rfl rfl ?_
  refine it_V.sN it_cd128 it_m128 2 (pc1 := 147) (ls1 := [some (.ref k)]) (st1 := [(.int (1 : Int32)), (.ref k)]) (mem1 := (it_sv (it_sv (it_sv (it_sv (it_sv (it_sv (it_sv m6 (k + 2) (Int32.toNatClampNeg (2 : Int32)) (m6 k 7)) (k + 2) (Int32.toNatClampNeg (10 : Int32)) (((it_sv m6 (k + 2) (Int32.toNatClampNeg (2 : Int32)) (m6 k 7)) (k + 1) 1) + ((it_sv m6 (k + 2) (Int32.toNatClampNeg (2 : Int32)) (m6 k 7)) (k + 1) 2))) (k + 2) (Int32.toNatClampNeg (11 : Int32)) ((it_sv (it_sv m6 (k + 2) (Int32.toNatClampNeg (2 : Int32)) (m6 k 7)) (k + 2) (Int32.toNatClampNeg (10 : Int32)) (((it_sv m6 (k + 2) (Int32.toNatClampNeg (2 : Int32)) (m6 k 7)) (k + 1) 1) + ((it_sv m6 (k + 2) (Int32.toNatClampNeg (2 : Int32)) (m6 k 7)) (k + 1) 2))) k 5)) (k + 2) (Int32.toNatClampNeg (12 : Int32)) ((it_sv (it_sv (it_sv m6 (k + 2) (Int32.toNatClampNeg (2 : Int32)) (m6 k 7)) (k + 2) (Int32.toNatClampNeg (10 : Int32)) (((it_sv m6 (k + 2) (Int32.toNatClampNeg (2 : Int32)) (m6 k 7)) (k + 1) 1) + ((it_sv m6 (k + 2) (Int32.toNatClampNeg (2 : Int32)) (m6 k 7)) (k + 1) 2))) (k + 2) (Int32.toNatClampNeg (11 : Int32)) ((it_sv (it_sv m6 (k + 2) (Int32.toNatClampNeg (2 : Int32)) (m6 k 7)) (k + 2) (Int32.toNatClampNeg (10 : Int32)) (((it_sv m6 (k + 2) (Int32.toNatClampNeg (2 : Int32)) (m6 k 7)) (k + 1) 1) + ((it_sv m6 (k + 2) (Int32.toNatClampNeg (2 : Int32)) (m6 k 7)) (k + 1) 2))) k 5)) k 6)) (k + 2) (Int32.toNatClampNeg (13 : Int32)) ((it_sv (it_sv (it_sv (it_sv m6 (k + 2) (Int32.toNatClampNeg (2 : Int32)) (m6 k 7)) (k + 2) (Int32.toNatClampNeg (10 : Int32)) (((it_sv m6 (k + 2) (Int32.toNatClampNeg (2 : Int32)) (m6 k 7)) (k + 1) 1) + ((it_sv m6 (k + 2) (Int32.toNatClampNeg (2 : Int32)) (m6 k 7)) (k + 1) 2))) (k + 2) (Int32.toNatClampNeg (11 : Int32)) ((it_sv (it_sv m6 (k + 2) (Int32.toNatClampNeg (2 : Int32)) (m6 k 7)) (k + 2) (Int32.toNatClampNeg (10 : Int32)) (((it_sv m6 (k + 2) (Int32.toNatClampNeg (2 : Int32)) (m6 k 7)) (k + 1) 1) + ((it_sv m6 (k + 2) (Int32.toNatClampNeg (2 : Int32)) (m6 k 7)) (k + 1) 2))) k 5)) (k + 2) (Int32.toNatClampNeg (12 : Int32)) ((it_sv (it_sv (it_sv m6 (k + 2) (Int32.toNatClampNeg (2 : Int32)) (m6 k 7)) (k + 2) (Int32.toNatClampNeg (10 : Int32)) (((it_sv m6 (k + 2) (Int32.toNatClampNeg (2 : Int32)) (m6 k 7)) (k + 1) 1) + ((it_sv m6 (k + 2) (Int32.toNatClampNeg (2 : Int32)) (m6 k 7)) (k + 1) 2))) (k + 2) (Int32.toNatClampNeg (11 : Int32)) ((it_sv (it_sv m6 (k + 2) (Int32.toNatClampNeg (2 : Int32)) (m6 k 7)) (k + 2) (Int32.toNatClampNeg (10 : Int32)) (((it_sv m6 (k + 2) (Int32.toNatClampNeg (2 : Int32)) (m6 k 7)) (k + 1) 1) + ((it_sv m6 (k + 2) (Int32.toNatClampNeg (2 : Int32)) (m6 k 7)) (k + 1) 2))) k 5)) k 6)) k 7)) k 3 ((((it_sv (it_sv (it_sv (it_sv (it_sv m6 (k + 2) (Int32.toNatClampNeg (2 : Int32)) (m6 k 7)) (k + 2) (Int32.toNatClampNeg (10 : Int32)) (((it_sv m6 (k + 2) (Int32.toNatClampNeg (2 : Int32)) (m6 k 7)) (k + 1) 1) + ((it_sv m6 (k + 2) (Int32.toNatClampNeg (2 : Int32)) (m6 k 7)) (k + 1) 2))) (k + 2) (Int32.toNatClampNeg (11 : Int32)) ((it_sv (it_sv m6 (k + 2) (Int32.toNatClampNeg (2 : Int32)) (m6 k 7)) (k + 2) (Int32.toNatClampNeg (10 : Int32)) (((it_sv m6 (k + 2) (Int32.toNatClampNeg (2 : Int32)) (m6 k 7)) (k + 1) 1) + ((it_sv m6 (k + 2) (Int32.toNatClampNeg (2 : Int32)) (m6 k 7)) (k + 1) 2))) k 5)) (k + 2) (Int32.toNatClampNeg (12 : Int32)) ((it_sv (it_sv (it_sv m6 (k + 2) (Int32.toNatClampNeg (2 : Int32)) (m6 k 7)) (k + 2) (Int32.toNatClampNeg (10 : Int32)) (((it_sv m6 (k + 2) (Int32.toNatClampNeg (2 : Int32)) (m6 k 7)) (k + 1) 1) + ((it_sv m6 (k + 2) (Int32.toNatClampNeg (2 : Int32)) (m6 k 7)) (k + 1) 2))) (k + 2) (Int32.toNatClampNeg (11 : Int32)) ((it_sv (it_sv m6 (k + 2) (Int32.toNatClampNeg (2 : Int32)) (m6 k 7)) (k + 2) (Int32.toNatClampNeg (10 : Int32)) (((it_sv m6 (k + 2) (Int32.toNatClampNeg (2 : Int32)) (m6 k 7)) (k + 1) 1) + ((it_sv m6 (k + 2) (Int32.toNatClampNeg (2 : Int32)) (m6 k 7)) (k + 1) 2))) k 5)) k 6)) (k + 2) (Int32.toNatClampNeg (13 : Int32)) ((it_sv (it_sv (it_sv (it_sv m6 (k + 2) (Int32.toNatClampNeg (2 : Int32)) (m6 k 7)) (k + 2) (Int32.toNatClampNeg (10 : Int32)) (((it_sv m6 (k + 2) (Int32.toNatClampNeg (2 : Int32)) (m6 k 7)) (k + 1) 1) + ((it_sv m6 (k + 2) (Int32.toNatClampNeg (2 : Int32)) (m6 k 7)) (k + 1) 2))) (k + 2) (Int32.toNatClampNeg (11 : Int32)) ((it_sv (it_sv m6 (k + 2) (Int32.toNatClampNeg (2 : Int32)) (m6 k 7)) (k + 2) (Int32.toNatClampNeg (10 : Int32)) (((it_sv m6 (k + 2) (Int32.toNatClampNeg (2 : Int32)) (m6 k 7)) (k + 1) 1) + ((it_sv m6 (k + 2) (Int32.toNatClampNeg (2 : Int32)) (m6 k 7)) (k + 1) 2))) k 5)) (k + 2) (Int32.toNatClampNeg (12 : Int32)) ((it_sv (it_sv (it_sv m6 (k + 2) (Int32.toNatClampNeg (2 : Int32)) (m6 k 7)) (k + 2) (Int32.toNatClampNeg (10 : Int32)) (((it_sv m6 (k + 2) (Int32.toNatClampNeg (2 : Int32)) (m6 k 7)) (k + 1) 1) + ((it_sv m6 (k + 2) (Int32.toNatClampNeg (2 : Int32)) (m6 k 7)) (k + 1) 2))) (k + 2) (Int32.toNatClampNeg (11 : Int32)) ((it_sv (it_sv m6 (k + 2) (Int32.toNatClampNeg (2 : Int32)) (m6 k 7)) (k + 2) (Int32.toNatClampNeg (10 : Int32)) (((it_sv m6 (k + 2) (Int32.toNatClampNeg (2 : Int32)) (m6 k 7)) (k + 1) 1) + ((it_sv m6 (k + 2) (Int32.toNatClampNeg (2 : Int32)) (m6 k 7)) (k + 1) 2))) k 5)) k 6)) k 7)) (k + 2) (Int32.toNatClampNeg (10 : Int32))) + ((it_sv (it_sv (it_sv (it_sv (it_sv m6 (k + 2) (Int32.toNatClampNeg (2 : Int32)) (m6 k 7)) (k + 2) (Int32.toNatClampNeg (10 : Int32)) (((it_sv m6 (k + 2) (Int32.toNatClampNeg (2 : Int32)) (m6 k 7)) (k + 1) 1) + ((it_sv m6 (k + 2) (Int32.toNatClampNeg (2 : Int32)) (m6 k 7)) (k + 1) 2))) (k + 2) (Int32.toNatClampNeg (11 : Int32)) ((it_sv (it_sv m6 (k + 2) (Int32.toNatClampNeg (2 : Int32)) (m6 k 7)) (k + 2) (Int32.toNatClampNeg (10 : Int32)) (((it_sv m6 (k + 2) (Int32.toNatClampNeg (2 : Int32)) (m6 k 7)) (k + 1) 1) + ((it_sv m6 (k + 2) (Int32.toNatClampNeg (2 : Int32)) (m6 k 7)) (k + 1) 2))) k 5)) (k + 2) (Int32.toNatClampNeg (12 : Int32)) ((it_sv (it_sv (it_sv m6 (k + 2) (Int32.toNatClampNeg (2 : Int32)) (m6 k 7)) (k + 2) (Int32.toNatClampNeg (10 : Int32)) (((it_sv m6 (k + 2) (Int32.toNatClampNeg (2 : Int32)) (m6 k 7)) (k + 1) 1) + ((it_sv m6 (k + 2) (Int32.toNatClampNeg (2 : Int32)) (m6 k 7)) (k + 1) 2))) (k + 2) (Int32.toNatClampNeg (11 : Int32)) ((it_sv (it_sv m6 (k + 2) (Int32.toNatClampNeg (2 : Int32)) (m6 k 7)) (k + 2) (Int32.toNatClampNeg (10 : Int32)) (((it_sv m6 (k + 2) (Int32.toNatClampNeg (2 : Int32)) (m6 k 7)) (k + 1) 1) + ((it_sv m6 (k + 2) (Int32.toNatClampNeg (2 : Int32)) (m6 k 7)) (k + 1) 2))) k 5)) k 6)) (k + 2) (Int32.toNatClampNeg (13 : Int32)) ((it_sv (it_sv (it_sv (it_sv m6 (k + 2) (Int32.toNatClampNeg (2 : Int32)) (m6 k 7)) (k + 2) (Int32.toNatClampNeg (10 : Int32)) (((it_sv m6 (k + 2) (Int32.toNatClampNeg (2 : Int32)) (m6 k 7)) (k + 1) 1) + ((it_sv m6 (k + 2) (Int32.toNatClampNeg (2 : Int32)) (m6 k 7)) (k + 1) 2))) (k + 2) (Int32.toNatClampNeg (11 : Int32)) ((it_sv (it_sv m6 (k + 2) (Int32.toNatClampNeg (2 : Int32)) (m6 k 7)) (k + 2) (Int32.toNatClampNeg (10 : Int32)) (((it_sv m6 (k + 2) (Int32.toNatClampNeg (2 : Int32)) (m6 k 7)) (k + 1) 1) + ((it_sv m6 (k + 2) (Int32.toNatClampNeg (2 : Int32)) (m6 k 7)) (k + 1) 2))) k 5)) (k + 2) (Int32.toNatClampNeg (12 : Int32)) ((it_sv (it_sv (it_sv m6 (k + 2) (Int32.toNatClampNeg (2 : Int32)) (m6 k 7)) (k + 2) (Int32.toNatClampNeg (10 : Int32)) (((it_sv m6 (k + 2) (Int32.toNatClampNeg (2 : Int32)) (m6 k 7)) (k + 1) 1) + ((it_sv m6 (k + 2) (Int32.toNatClampNeg (2 : Int32)) (m6 k 7)) (k + 1) 2))) (k + 2) (Int32.toNatClampNeg (11 : Int32)) ((it_sv (it_sv m6 (k + 2) (Int32.toNatClampNeg (2 : Int32)) (m6 k 7)) (k + 2) (Int32.toNatClampNeg (10 : Int32)) (((it_sv m6 (k + 2) (Int32.toNatClampNeg (2 : Int32)) (m6 k 7)) (k + 1) 1) + ((it_sv m6 (k + 2) (Int32.toNatClampNeg (2 : Int32)) (m6 k 7)) (k + 1) 2))) k 5)) k 6)) k 7)) (k + 1) 4)) &&& (-2 : Int32))) k 4 (1 : Int32))) rfl ?_
  refine it_V.putP it_cd128 it_m128 rfl (hk).1 rfl rfl rfl (Or.inl rfl) ?_
  refine it_V.at (pc1 := 150) (ls1 := [some (.ref k)]) (st1 := []) (mem1 := (it_sv (it_sv (it_sv (it_sv (it_sv (it_sv (it_sv (it_sv m6 (k + 2) (Int32.toNatClampNeg (2 : Int32)) (m6 k 7)) (k + 2) (Int32.toNatClampNeg (10 : Int32)) (((it_sv m6 (k + 2) (Int32.toNatClampNeg (2 : Int32)) (m6 k 7)) (k + 1) 1) + ((it_sv m6 (k + 2) (Int32.toNatClampNeg (2 : Int32)) (m6 k 7)) (k + 1) 2))) (k + 2) (Int32.toNatClampNeg (11 : Int32)) ((it_sv (it_sv m6 (k + 2) (Int32.toNatClampNeg (2 : Int32)) (m6 k 7)) (k + 2) (Int32.toNatClampNeg (10 : Int32)) (((it_sv m6 (k + 2) (Int32.toNatClampNeg (2 : Int32)) (m6 k 7)) (k + 1) 1) + ((it_sv m6 (k + 2) (Int32.toNatClampNeg (2 : Int32)) (m6 k 7)) (k + 1) 2))) k 5)) (k + 2) (Int32.toNatClampNeg (12 : Int32)) ((it_sv (it_sv (it_sv m6 (k + 2) (Int32.toNatClampNeg (2 : Int32)) (m6 k 7)) (k + 2) (Int32.toNatClampNeg (10 : Int32)) (((it_sv m6 (k + 2) (Int32.toNatClampNeg (2 : Int32)) (m6 k 7)) (k + 1) 1) + ((it_sv m6 (k + 2) (Int32.toNatClampNeg (2 : Int32)) (m6 k 7)) (k + 1) 2))) (k + 2) (Int32.toNatClampNeg (11 : Int32)) ((it_sv (it_sv m6 (k + 2) (Int32.toNatClampNeg (2 : Int32)) (m6 k 7)) (k + 2) (Int32.toNatClampNeg (10 : Int32)) (((it_sv m6 (k + 2) (Int32.toNatClampNeg (2 : Int32)) (m6 k 7)) (k + 1) 1) + ((it_sv m6 (k + 2) (Int32.toNatClampNeg (2 : Int32)) (m6 k 7)) (k + 1) 2))) k 5)) k 6)) (k + 2) (Int32.toNatClampNeg (13 : Int32)) ((it_sv (it_sv (it_sv (it_sv m6 (k + 2) (Int32.toNatClampNeg (2 : Int32)) (m6 k 7)) (k + 2) (Int32.toNatClampNeg (10 : Int32)) (((it_sv m6 (k + 2) (Int32.toNatClampNeg (2 : Int32)) (m6 k 7)) (k + 1) 1) + ((it_sv m6 (k + 2) (Int32.toNatClampNeg (2 : Int32)) (m6 k 7)) (k + 1) 2))) (k + 2) (Int32.toNatClampNeg (11 : Int32)) ((it_sv (it_sv m6 (k + 2) (Int32.toNatClampNeg (2 : Int32)) (m6 k 7)) (k + 2) (Int32.toNatClampNeg (10 : Int32)) (((it_sv m6 (k + 2) (Int32.toNatClampNeg (2 : Int32)) (m6 k 7)) (k + 1) 1) + ((it_sv m6 (k + 2) (Int32.toNatClampNeg (2 : Int32)) (m6 k 7)) (k + 1) 2))) k 5)) (k + 2) (Int32.toNatClampNeg (12 : Int32)) ((it_sv (it_sv (it_sv m6 (k + 2) (Int32.toNatClampNeg (2 : Int32)) (m6 k 7)) (k + 2) (Int32.toNatClampNeg (10 : Int32)) (((it_sv m6 (k + 2) (Int32.toNatClampNeg (2 : Int32)) (m6 k 7)) (k + 1) 1) + ((it_sv m6 (k + 2) (Int32.toNatClampNeg (2 : Int32)) (m6 k 7)) (k + 1) 2))) (k + 2) (Int32.toNatClampNeg (11 : Int32)) ((it_sv (it_sv m6 (k + 2) (Int32.toNatClampNeg (2 : Int32)) (m6 k 7)) (k + 2) (Int32.toNatClampNeg (10 : Int32)) (((it_sv m6 (k + 2) (Int32.toNatClampNeg (2 : Int32)) (m6 k 7)) (k + 1) 1) + ((it_sv m6 (k + 2) (Int32.toNatClampNeg (2 : Int32)) (m6 k 7)) (k + 1) 2))) k 5)) k 6)) k 7)) k 3 ((((it_sv (it_sv (it_sv (it_sv (it_sv m6 (k + 2) (Int32.toNatClampNeg (2 : Int32)) (m6 k 7)) (k + 2) (Int32.toNatClampNeg (10 : Int32)) (((it_sv m6 (k + 2) (Int32.toNatClampNeg (2 : Int32)) (m6 k 7)) (k + 1) 1) + ((it_sv m6 (k + 2) (Int32.toNatClampNeg (2 : Int32)) (m6 k 7)) (k + 1) 2))) (k + 2) (Int32.toNatClampNeg (11 : Int32)) ((it_sv (it_sv m6 (k + 2) (Int32.toNatClampNeg (2 : Int32)) (m6 k 7)) (k + 2) (Int32.toNatClampNeg (10 : Int32)) (((it_sv m6 (k + 2) (Int32.toNatClampNeg (2 : Int32)) (m6 k 7)) (k + 1) 1) + ((it_sv m6 (k + 2) (Int32.toNatClampNeg (2 : Int32)) (m6 k 7)) (k + 1) 2))) k 5)) (k + 2) (Int32.toNatClampNeg (12 : Int32)) ((it_sv (it_sv (it_sv m6 (k + 2) (Int32.toNatClampNeg (2 : Int32)) (m6 k 7)) (k + 2) (Int32.toNatClampNeg (10 : Int32)) (((it_sv m6 (k + 2) (Int32.toNatClampNeg (2 : Int32)) (m6 k 7)) (k + 1) 1) + ((it_sv m6 (k + 2) (Int32.toNatClampNeg (2 : Int32)) (m6 k 7)) (k + 1) 2))) (k + 2) (Int32.toNatClampNeg (11 : Int32)) ((it_sv (it_sv m6 (k + 2) (Int32.toNatClampNeg (2 : Int32)) (m6 k 7)) (k + 2) (Int32.toNatClampNeg (10 : Int32)) (((it_sv m6 (k + 2) (Int32.toNatClampNeg (2 : Int32)) (m6 k 7)) (k + 1) 1) + ((it_sv m6 (k + 2) (Int32.toNatClampNeg (2 : Int32)) (m6 k 7)) (k + 1) 2))) k 5)) k 6)) (k + 2) (Int32.toNatClampNeg (13 : Int32)) ((it_sv (it_sv (it_sv (it_sv m6 (k + 2) (Int32.toNatClampNeg (2 : Int32)) (m6 k 7)) (k + 2) (Int32.toNatClampNeg (10 : Int32)) (((it_sv m6 (k + 2) (Int32.toNatClampNeg (2 : Int32)) (m6 k 7)) (k + 1) 1) + ((it_sv m6 (k + 2) (Int32.toNatClampNeg (2 : Int32)) (m6 k 7)) (k + 1) 2))) (k + 2) (Int32.toNatClampNeg (11 : Int32)) ((it_sv (it_sv m6 (k + 2) (Int32.toNatClampNeg (2 : Int32)) (m6 k 7)) (k + 2) (Int32.toNatClampNeg (10 : Int32)) (((it_sv m6 (k + 2) (Int32.toNatClampNeg (2 : Int32)) (m6 k 7)) (k + 1) 1) + ((it_sv m6 (k + 2) (Int32.toNatClampNeg (2 : Int32)) (m6 k 7)) (k + 1) 2))) k 5)) (k + 2) (Int32.toNatClampNeg (12 : Int32)) ((it_sv (it_sv (it_sv m6 (k + 2) (Int32.toNatClampNeg (2 : Int32)) (m6 k 7)) (k + 2) (Int32.toNatClampNeg (10 : Int32)) (((it_sv m6 (k + 2) (Int32.toNatClampNeg (2 : Int32)) (m6 k 7)) (k + 1) 1) + ((it_sv m6 (k + 2) (Int32.toNatClampNeg (2 : Int32)) (m6 k 7)) (k + 1) 2))) (k + 2) (Int32.toNatClampNeg (11 : Int32)) ((it_sv (it_sv m6 (k + 2) (Int32.toNatClampNeg (2 : Int32)) (m6 k 7)) (k + 2) (Int32.toNatClampNeg (10 : Int32)) (((it_sv m6 (k + 2) (Int32.toNatClampNeg (2 : Int32)) (m6 k 7)) (k + 1) 1) + ((it_sv m6 (k + 2) (Int32.toNatClampNeg (2 : Int32)) (m6 k 7)) (k + 1) 2))) k 5)) k 6)) k 7)) (k + 2) (Int32.toNatClampNeg (10 : Int32))) + ((it_sv (it_sv (it_sv (it_sv (it_sv m6 (k + 2) (Int32.toNatClampNeg (2 : Int32)) (m6 k 7)) (k + 2) (Int32.toNatClampNeg (10 : Int32)) (((it_sv m6 (k + 2) (Int32.toNatClampNeg (2 : Int32)) (m6 k 7)) (k + 1) 1) + ((it_sv m6 (k + 2) (Int32.toNatClampNeg (2 : Int32)) (m6 k 7)) (k + 1) 2))) (k + 2) (Int32.toNatClampNeg (11 : Int32)) ((it_sv (it_sv m6 (k + 2) (Int32.toNatClampNeg (2 : Int32)) (m6 k 7)) (k + 2) (Int32.toNatClampNeg (10 : Int32)) (((it_sv m6 (k + 2) (Int32.toNatClampNeg (2 : Int32)) (m6 k 7)) (k + 1) 1) + ((it_sv m6 (k + 2) (Int32.toNatClampNeg (2 : Int32)) (m6 k 7)) (k + 1) 2))) k 5)) (k + 2) (Int32.toNatClampNeg (12 : Int32)) ((it_sv (it_sv (it_sv m6 (k + 2) (Int32.toNatClampNeg (2 : Int32)) (m6 k 7)) (k + 2) (Int32.toNatClampNeg (10 : Int32)) (((it_sv m6 (k + 2) (Int32.toNatClampNeg (2 : Int32)) (m6 k 7)) (k + 1) 1) + ((it_sv m6 (k + 2) (Int32.toNatClampNeg (2 : Int32)) (m6 k 7)) (k + 1) 2))) (k + 2) (Int32.toNatClampNeg (11 : Int32)) ((it_sv (it_sv m6 (k + 2) (Int32.toNatClampNeg (2 : Int32)) (m6 k 7)) (k + 2) (Int32.toNatClampNeg (10 : Int32)) (((it_sv m6 (k + 2) (Int32.toNatClampNeg (2 : Int32)) (m6 k 7)) (k + 1) 1) + ((it_sv m6 (k + 2) (Int32.toNatClampNeg (2 : Int32)) (m6 k 7)) (k + 1) 2))) k 5)) k 6)) (k + 2) (Int32.toNatClampNeg (13 : Int32)) ((it_sv (it_sv (it_sv (it_sv m6 (k + 2) (Int32.toNatClampNeg (2 : Int32)) (m6 k 7)) (k + 2) (Int32.toNatClampNeg (10 : Int32)) (((it_sv m6 (k + 2) (Int32.toNatClampNeg (2 : Int32)) (m6 k 7)) (k + 1) 1) + ((it_sv m6 (k + 2) (Int32.toNatClampNeg (2 : Int32)) (m6 k 7)) (k + 1) 2))) (k + 2) (Int32.toNatClampNeg (11 : Int32)) ((it_sv (it_sv m6 (k + 2) (Int32.toNatClampNeg (2 : Int32)) (m6 k 7)) (k + 2) (Int32.toNatClampNeg (10 : Int32)) (((it_sv m6 (k + 2) (Int32.toNatClampNeg (2 : Int32)) (m6 k 7)) (k + 1) 1) + ((it_sv m6 (k + 2) (Int32.toNatClampNeg (2 : Int32)) (m6 k 7)) (k + 1) 2))) k 5)) (k + 2) (Int32.toNatClampNeg (12 : Int32)) ((it_sv (it_sv (it_sv m6 (k + 2) (Int32.toNatClampNeg (2 : Int32)) (m6 k 7)) (k + 2) (Int32.toNatClampNeg (10 : Int32)) (((it_sv m6 (k + 2) (Int32.toNatClampNeg (2 : Int32)) (m6 k 7)) (k + 1) 1) + ((it_sv m6 (k + 2) (Int32.toNatClampNeg (2 : Int32)) (m6 k 7)) (k + 1) 2))) (k + 2) (Int32.toNatClampNeg (11 : Int32)) ((it_sv (it_sv m6 (k + 2) (Int32.toNatClampNeg (2 : Int32)) (m6 k 7)) (k + 2) (Int32.toNatClampNeg (10 : Int32)) (((it_sv m6 (k + 2) (Int32.toNatClampNeg (2 : Int32)) (m6 k 7)) (k + 1) 1) + ((it_sv m6 (k + 2) (Int32.toNatClampNeg (2 : Int32)) (m6 k 7)) (k + 1) 2))) k 5)) k 6)) k 7)) (k + 1) 4)) &&& (-2 : Int32))) k 4 (1 : Int32)) k 9 (1 : Int32))) rfl rfl rfl rfl ?_
  refine it_V.sN it_cd128 it_m128 2 (pc1 := 152) (ls1 := [some (.ref k)]) (st1 := [(.int (0 : Int32)), (.ref k)]) (mem1 := (it_sv (it_sv (it_sv (it_sv (it_sv (it_sv (it_sv (it_sv m6 (k + 2) (Int32.toNatClampNeg (2 : Int32)) (m6 k 7)) (k + 2) (Int32.toNatClampNeg (10 : Int32)) (((it_sv m6 (k + 2) (Int32.toNatClampNeg (2 : Int32)) (m6 k 7)) (k + 1) 1) + ((it_sv m6 (k + 2) (Int32.toNatClampNeg (2 : Int32)) (m6 k 7)) (k + 1) 2))) (k + 2) (Int32.toNatClampNeg (11 : Int32)) ((it_sv (it_sv m6 (k + 2) (Int32.toNatClampNeg (2 : Int32)) (m6 k 7)) (k + 2) (Int32.toNatClampNeg (10 : Int32)) (((it_sv m6 (k + 2) (Int32.toNatClampNeg (2 : Int32)) (m6 k 7)) (k + 1) 1) + ((it_sv m6 (k + 2) (Int32.toNatClampNeg (2 : Int32)) (m6 k 7)) (k + 1) 2))) k 5)) (k + 2) (Int32.toNatClampNeg (12 : Int32)) ((it_sv (it_sv (it_sv m6 (k + 2) (Int32.toNatClampNeg (2 : Int32)) (m6 k 7)) (k + 2) (Int32.toNatClampNeg (10 : Int32)) (((it_sv m6 (k + 2) (Int32.toNatClampNeg (2 : Int32)) (m6 k 7)) (k + 1) 1) + ((it_sv m6 (k + 2) (Int32.toNatClampNeg (2 : Int32)) (m6 k 7)) (k + 1) 2))) (k + 2) (Int32.toNatClampNeg (11 : Int32)) ((it_sv (it_sv m6 (k + 2) (Int32.toNatClampNeg (2 : Int32)) (m6 k 7)) (k + 2) (Int32.toNatClampNeg (10 : Int32)) (((it_sv m6 (k + 2) (Int32.toNatClampNeg (2 : Int32)) (m6 k 7)) (k + 1) 1) + ((it_sv m6 (k + 2) (Int32.toNatClampNeg (2 : Int32)) (m6 k 7)) (k + 1) 2))) k 5)) k 6)) (k + 2) (Int32.toNatClampNeg (13 : Int32)) ((it_sv (it_sv (it_sv (it_sv m6 (k + 2) (Int32.toNatClampNeg (2 : Int32)) (m6 k 7)) (k + 2) (Int32.toNatClampNeg (10 : Int32)) (((it_sv m6 (k + 2) (Int32.toNatClampNeg (2 : Int32)) (m6 k 7)) (k + 1) 1) + ((it_sv m6 (k + 2) (Int32.toNatClampNeg (2 : Int32)) (m6 k 7)) (k + 1) 2))) (k + 2) (Int32.toNatClampNeg (11 : Int32)) ((it_sv (it_sv m6 (k + 2) (Int32.toNatClampNeg (2 : Int32)) (m6 k 7)) (k + 2) (Int32.toNatClampNeg (10 : Int32)) (((it_sv m6 (k + 2) (Int32.toNatClampNeg (2 : Int32)) (m6 k 7)) (k + 1) 1) + ((it_sv m6 (k + 2) (Int32.toNatClampNeg (2 : Int32)) (m6 k 7)) (k + 1) 2))) k 5)) (k + 2) (Int32.toNatClampNeg (12 : Int32)) ((it_sv (it_sv (it_sv m6 (k + 2) (Int32.toNatClampNeg (2 : Int32)) (m6 k 7)) (k + 2) (Int32.toNatClampNeg (10 : Int32)) (((it_sv m6 (k + 2) (Int32.toNatClampNeg (2 : Int32)) (m6 k 7)) (k + 1) 1) + ((it_sv m6 (k + 2) (Int32.toNatClampNeg (2 : Int32)) (m6 k 7)) (k + 1) 2))) (k + 2) (Int32.toNatClampNeg (11 : Int32)) ((it_sv (it_sv m6 (k + 2) (Int32.toNatClampNeg (2 : Int32)) (m6 k 7)) (k + 2) (Int32.toNatClampNeg (10 : Int32)) (((it_sv m6 (k + 2) (Int32.toNatClampNeg (2 : Int32)) (m6 k 7)) (k + 1) 1) + ((it_sv m6 (k + 2) (Int32.toNatClampNeg (2 : Int32)) (m6 k 7)) (k + 1) 2))) k 5)) k 6)) k 7)) k 3 ((((it_sv (it_sv (it_sv (it_sv (it_sv m6 (k + 2) (Int32.toNatClampNeg (2 : Int32)) (m6 k 7)) (k + 2) (Int32.toNatClampNeg (10 : Int32)) (((it_sv m6 (k + 2) (Int32.toNatClampNeg (2 : Int32)) (m6 k 7)) (k + 1) 1) + ((it_sv m6 (k + 2) (Int32.toNatClampNeg (2 : Int32)) (m6 k 7)) (k + 1) 2))) (k + 2) (Int32.toNatClampNeg (11 : Int32)) ((it_sv (it_sv m6 (k + 2) (Int32.toNatClampNeg (2 : Int32)) (m6 k 7)) (k + 2) (Int32.toNatClampNeg (10 : Int32)) (((it_sv m6 (k + 2) (Int32.toNatClampNeg (2 : Int32)) (m6 k 7)) (k + 1) 1) + ((it_sv m6 (k + 2) (Int32.toNatClampNeg (2 : Int32)) (m6 k 7)) (k + 1) 2))) k 5)) (k + 2) (Int32.toNatClampNeg (12 : Int32)) ((it_sv (it_sv (it_sv m6 (k + 2) (Int32.toNatClampNeg (2 : Int32)) (m6 k 7)) (k + 2) (Int32.toNatClampNeg (10 : Int32)) (((it_sv m6 (k + 2) (Int32.toNatClampNeg (2 : Int32)) (m6 k 7)) (k + 1) 1) + ((it_sv m6 (k + 2) (Int32.toNatClampNeg (2 : Int32)) (m6 k 7)) (k + 1) 2))) (k + 2) (Int32.toNatClampNeg (11 : Int32)) ((it_sv (it_sv m6 (k + 2) (Int32.toNatClampNeg (2 : Int32)) (m6 k 7)) (k + 2) (Int32.toNatClampNeg (10 : Int32)) (((it_sv m6 (k + 2) (Int32.toNatClampNeg (2 : Int32)) (m6 k 7)) (k + 1) 1) + ((it_sv m6 (k + 2) (Int32.toNatClampNeg (2 : Int32)) (m6 k 7)) (k + 1) 2))) k 5)) k 6)) (k + 2) (Int32.toNatClampNeg (13 : Int32)) ((it_sv (it_sv (it_sv (it_sv m6 (k + 2) (Int32.toNatClampNeg (2 : Int32)) (m6 k 7)) (k + 2) (Int32.toNatClampNeg (10 : Int32)) (((it_sv m6 (k + 2) (Int32.toNatClampNeg (2 : Int32)) (m6 k 7)) (k + 1) 1) + ((it_sv m6 (k + 2) (Int32.toNatClampNeg (2 : Int32)) (m6 k 7)) (k + 1) 2))) (k + 2) (Int32.toNatClampNeg (11 : Int32)) ((it_sv (it_sv m6 (k + 2) (Int32.toNatClampNeg (2 : Int32)) (m6 k 7)) (k + 2) (Int32.toNatClampNeg (10 : Int32)) (((it_sv m6 (k + 2) (Int32.toNatClampNeg (2 : Int32)) (m6 k 7)) (k + 1) 1) + ((it_sv m6 (k + 2) (Int32.toNatClampNeg (2 : Int32)) (m6 k 7)) (k + 1) 2))) k 5)) (k + 2) (Int32.toNatClampNeg (12 : Int32)) ((it_sv (it_sv (it_sv m6 (k + 2) (Int32.toNatClampNeg (2 : Int32)) (m6 k 7)) (k + 2) (Int32.toNatClampNeg (10 : Int32)) (((it_sv m6 (k + 2) (Int32.toNatClampNeg (2 : Int32)) (m6 k 7)) (k + 1) 1) + ((it_sv m6 (k + 2) (Int32.toNatClampNeg (2 : Int32)) (m6 k 7)) (k + 1) 2))) (k + 2) (Int32.toNatClampNeg (11 : Int32)) ((it_sv (it_sv m6 (k + 2) (Int32.toNatClampNeg (2 : Int32)) (m6 k 7)) (k + 2) (Int32.toNatClampNeg (10 : Int32)) (((it_sv m6 (k + 2) (Int32.toNatClampNeg (2 : Int32)) (m6 k 7)) (k + 1) 1) + ((it_sv m6 (k + 2) (Int32.toNatClampNeg (2 : Int32)) (m6 k 7)) (k + 1) 2))) k 5)) k 6)) k 7)) (k + 2) (Int32.toNatClampNeg (10 : Int32))) + ((it_sv (it_sv (it_sv (it_sv (it_sv m6 (k + 2) (Int32.toNatClampNeg (2 : Int32)) (m6 k 7)) (k + 2) (Int32.toNatClampNeg (10 : Int32)) (((it_sv m6 (k + 2) (Int32.toNatClampNeg (2 : Int32)) (m6 k 7)) (k + 1) 1) + ((it_sv m6 (k + 2) (Int32.toNatClampNeg (2 : Int32)) (m6 k 7)) (k + 1) 2))) (k + 2) (Int32.toNatClampNeg (11 : Int32)) ((it_sv (it_sv m6 (k + 2) (Int32.toNatClampNeg (2 : Int32)) (m6 k 7)) (k + 2) (Int32.toNatClampNeg (10 : Int32)) (((it_sv m6 (k + 2) (Int32.toNatClampNeg (2 : Int32)) (m6 k 7)) (k + 1) 1) + ((it_sv m6 (k + 2) (Int32.toNatClampNeg (2 : Int32)) (m6 k 7)) (k + 1) 2))) k 5)) (k + 2) (Int32.toNatClampNeg (12 : Int32)) ((it_sv (it_sv (it_sv m6 (k + 2) (Int32.toNatClampNeg (2 : Int32)) (m6 k 7)) (k + 2) (Int32.toNatClampNeg (10 : Int32)) (((it_sv m6 (k + 2) (Int32.toNatClampNeg (2 : Int32)) (m6 k 7)) (k + 1) 1) + ((it_sv m6 (k + 2) (Int32.toNatClampNeg (2 : Int32)) (m6 k 7)) (k + 1) 2))) (k + 2) (Int32.toNatClampNeg (11 : Int32)) ((it_sv (it_sv m6 (k + 2) (Int32.toNatClampNeg (2 : Int32)) (m6 k 7)) (k + 2) (Int32.toNatClampNeg (10 : Int32)) (((it_sv m6 (k + 2) (Int32.toNatClampNeg (2 : Int32)) (m6 k 7)) (k + 1) 1) + ((it_sv m6 (k + 2) (Int32.toNatClampNeg (2 : Int32)) (m6 k 7)) (k + 1) 2))) k 5)) k 6)) (k + 2) (Int32.toNatClampNeg (13 : Int32)) ((it_sv (it_sv (it_sv (it_sv m6 (k + 2) (Int32.toNatClampNeg (2 : Int32)) (m6 k 7)) (k + 2) (Int32.toNatClampNeg (10 : Int32)) (((it_sv m6 (k + 2) (Int32.toNatClampNeg (2 : Int32)) (m6 k 7)) (k + 1) 1) + ((it_sv m6 (k + 2) (Int32.toNatClampNeg (2 : Int32)) (m6 k 7)) (k + 1) 2))) (k + 2) (Int32.toNatClampNeg (11 : Int32)) ((it_sv (it_sv m6 (k + 2) (Int32.toNatClampNeg (2 : Int32)) (m6 k 7)) (k + 2) (Int32.toNatClampNeg (10 : Int32)) (((it_sv m6 (k + 2) (Int32.toNatClampNeg (2 : Int32)) (m6 k 7)) (k + 1) 1) + ((it_sv m6 (k + 2) (Int32.toNatClampNeg (2 : Int32)) (m6 k 7)) (k + 1) 2))) k 5)) (k + 2) (Int32.toNatClampNeg (12 : Int32)) ((it_sv (it_sv (it_sv m6 (k + 2) (Int32.toNatClampNeg (2 : Int32)) (m6 k 7)) (k + 2) (Int32.toNatClampNeg (10 : Int32)) (((it_sv m6 (k + 2) (Int32.toNatClampNeg (2 : Int32)) (m6 k 7)) (k + 1) 1) + ((it_sv m6 (k + 2) (Int32.toNatClampNeg (2 : Int32)) (m6 k 7)) (k + 1) 2))) (k + 2) (Int32.toNatClampNeg (11 : Int32)) ((it_sv (it_sv m6 (k + 2) (Int32.toNatClampNeg (2 : Int32)) (m6 k 7)) (k + 2) (Int32.toNatClampNeg (10 : Int32)) (((it_sv m6 (k + 2) (Int32.toNatClampNeg (2 : Int32)) (m6 k 7)) (k + 1) 1) + ((it_sv m6 (k + 2) (Int32.toNatClampNeg (2 : Int32)) (m6 k 7)) (k + 1) 2))) k 5)) k 6)) k 7)) (k + 1) 4)) &&& (-2 : Int32))) k 4 (1 : Int32)) k 9 (1 : Int32))) rfl ?_
  refine it_V.putP it_cd128 it_m128 rfl (hk).1 rfl rfl rfl (Or.inl rfl) ?_
  refine it_V.at (pc1 := 155) (ls1 := [some (.ref k)]) (st1 := []) (mem1 := (it_sv (it_sv (it_sv (it_sv (it_sv (it_sv (it_sv (it_sv (it_sv m6 (k + 2) (Int32.toNatClampNeg (2 : Int32)) (m6 k 7)) (k + 2) (Int32.toNatClampNeg (10 : Int32)) (((it_sv m6 (k + 2) (Int32.toNatClampNeg (2 : Int32)) (m6 k 7)) (k + 1) 1) + ((it_sv m6 (k + 2) (Int32.toNatClampNeg (2 : Int32)) (m6 k 7)) (k + 1) 2))) (k + 2) (Int32.toNatClampNeg (11 : Int32)) ((it_sv (it_sv m6 (k + 2) (Int32.toNatClampNeg (2 : Int32)) (m6 k 7)) (k + 2) (Int32.toNatClampNeg (10 : Int32)) (((it_sv m6 (k + 2) (Int32.toNatClampNeg (2 : Int32)) (m6 k 7)) (k + 1) 1) + ((it_sv m6 (k + 2) (Int32.toNatClampNeg (2 : Int32)) (m6 k 7)) (k + 1) 2))) k 5)) (k + 2) (Int32.toNatClampNeg (12 : Int32)) ((it_sv (it_sv (it_sv m6 (k + 2) (Int32.toNatClampNeg (2 : Int32)) (m6 k 7)) (k + 2) (Int32.toNatClampNeg (10 : Int32)) (((it_sv m6 (k + 2) (Int32.toNatClampNeg (2 : Int32)) (m6 k 7)) (k + 1) 1) + ((it_sv m6 (k + 2) (Int32.toNatClampNeg (2 : Int32)) (m6 k 7)) (k + 1) 2))) (k + 2) (Int32.toNatClampNeg (11 : Int32)) ((it_sv (it_sv m6 (k + 2) (Int32.toNatClampNeg (2 : Int32)) (m6 k 7)) (k + 2) (Int32.toNatClampNeg (10 : Int32)) (((it_sv m6 (k + 2) (Int32.toNatClampNeg (2 : Int32)) (m6 k 7)) (k + 1) 1) + ((it_sv m6 (k + 2) (Int32.toNatClampNeg (2 : Int32)) (m6 k 7)) (k + 1) 2))) k 5)) k 6)) (k + 2) (Int32.toNatClampNeg (13 : Int32)) ((it_sv (it_sv (it_sv (it_sv m6 (k + 2) (Int32.toNatClampNeg (2 : Int32)) (m6 k 7)) (k + 2) (Int32.toNatClampNeg (10 : Int32)) (((it_sv m6 (k + 2) (Int32.toNatClampNeg (2 : Int32)) (m6 k 7)) (k + 1) 1) + ((it_sv m6 (k + 2) (Int32.toNatClampNeg (2 : Int32)) (m6 k 7)) (k + 1) 2))) (k + 2) (Int32.toNatClampNeg (11 : Int32)) ((it_sv (it_sv m6 (k + 2) (Int32.toNatClampNeg (2 : Int32)) (m6 k 7)) (k + 2) (Int32.toNatClampNeg (10 : Int32)) (((it_sv m6 (k + 2) (Int32.toNatClampNeg (2 : Int32)) (m6 k 7)) (k + 1) 1) + ((it_sv m6 (k + 2) (Int32.toNatClampNeg (2 : Int32)) (m6 k 7)) (k + 1) 2))) k 5)) (k + 2) (Int32.toNatClampNeg (12 : Int32)) ((it_sv (it_sv (it_sv m6 (k + 2) (Int32.toNatClampNeg (2 : Int32)) (m6 k 7)) (k + 2) (Int32.toNatClampNeg (10 : Int32)) (((it_sv m6 (k + 2) (Int32.toNatClampNeg (2 : Int32)) (m6 k 7)) (k + 1) 1) + ((it_sv m6 (k + 2) (Int32.toNatClampNeg (2 : Int32)) (m6 k 7)) (k + 1) 2))) (k + 2) (Int32.toNatClampNeg (11 : Int32)) ((it_sv (it_sv m6 (k + 2) (Int32.toNatClampNeg (2 : Int32)) (m6 k 7)) (k + 2) (Int32.toNatClampNeg (10 : Int32)) (((it_sv m6 (k + 2) (Int32.toNatClampNeg (2 : Int32)) (m6 k 7)) (k + 1) 1) + ((it_sv m6 (k + 2) (Int32.toNatClampNeg (2 : Int32)) (m6 k 7)) (k + 1) 2))) k 5)) k 6)) k 7)) k 3 ((((it_sv (it_sv (it_sv (it_sv (it_sv m6 (k + 2) (Int32.toNatClampNeg (2 : Int32)) (m6 k 7)) (k + 2) (Int32.toNatClampNeg (10 : Int32)) (((it_sv m6 (k + 2) (Int32.toNatClampNeg (2 : Int32)) (m6 k 7)) (k + 1) 1) + ((it_sv m6 (k + 2) (Int32.toNatClampNeg (2 : Int32)) (m6 k 7)) (k + 1) 2))) (k + 2) (Int32.toNatClampNeg (11 : Int32)) ((it_sv (it_sv m6 (k + 2) (Int32.toNatClampNeg (2 : Int32)) (m6 k 7)) (k + 2) (Int32.toNatClampNeg (10 : Int32)) (((it_sv m6 (k + 2) (Int32.toNatClampNeg (2 : Int32)) (m6 k 7)) (k + 1) 1) + ((it_sv m6 (k + 2) (Int32.toNatClampNeg (2 : Int32)) (m6 k 7)) (k + 1) 2))) k 5)) (k + 2) (Int32.toNatClampNeg (12 : Int32)) ((it_sv (it_sv (it_sv m6 (k + 2) (Int32.toNatClampNeg (2 : Int32)) (m6 k 7)) (k + 2) (Int32.toNatClampNeg (10 : Int32)) (((it_sv m6 (k + 2) (Int32.toNatClampNeg (2 : Int32)) (m6 k 7)) (k + 1) 1) + ((it_sv m6 (k + 2) (Int32.toNatClampNeg (2 : Int32)) (m6 k 7)) (k + 1) 2))) (k + 2) (Int32.toNatClampNeg (11 : Int32)) ((it_sv (it_sv m6 (k + 2) (Int32.toNatClampNeg (2 : Int32)) (m6 k 7)) (k + 2) (Int32.toNatClampNeg (10 : Int32)) (((it_sv m6 (k + 2) (Int32.toNatClampNeg (2 : Int32)) (m6 k 7)) (k + 1) 1) + ((it_sv m6 (k + 2) (Int32.toNatClampNeg (2 : Int32)) (m6 k 7)) (k + 1) 2))) k 5)) k 6)) (k + 2) (Int32.toNatClampNeg (13 : Int32)) ((it_sv (it_sv (it_sv (it_sv m6 (k + 2) (Int32.toNatClampNeg (2 : Int32)) (m6 k 7)) (k + 2) (Int32.toNatClampNeg (10 : Int32)) (((it_sv m6 (k + 2) (Int32.toNatClampNeg (2 : Int32)) (m6 k 7)) (k + 1) 1) + ((it_sv m6 (k + 2) (Int32.toNatClampNeg (2 : Int32)) (m6 k 7)) (k + 1) 2))) (k + 2) (Int32.toNatClampNeg (11 : Int32)) ((it_sv (it_sv m6 (k + 2) (Int32.toNatClampNeg (2 : Int32)) (m6 k 7)) (k + 2) (Int32.toNatClampNeg (10 : Int32)) (((it_sv m6 (k + 2) (Int32.toNatClampNeg (2 : Int32)) (m6 k 7)) (k + 1) 1) + ((it_sv m6 (k + 2) (Int32.toNatClampNeg (2 : Int32)) (m6 k 7)) (k + 1) 2))) k 5)) (k + 2) (Int32.toNatClampNeg (12 : Int32)) ((it_sv (it_sv (it_sv m6 (k + 2) (Int32.toNatClampNeg (2 : Int32)) (m6 k 7)) (k + 2) (Int32.toNatClampNeg (10 : Int32)) (((it_sv m6 (k + 2) (Int32.toNatClampNeg (2 : Int32)) (m6 k 7)) (k + 1) 1) + ((it_sv m6 (k + 2) (Int32.toNatClampNeg (2 : Int32)) (m6 k 7)) (k + 1) 2))) (k + 2) (Int32.toNatClampNeg (11 : Int32)) ((it_sv (it_sv m6 (k + 2) (Int32.toNatClampNeg (2 : Int32)) (m6 k 7)) (k + 2) (Int32.toNatClampNeg (10 : Int32)) (((it_sv m6 (k + 2) (Int32.toNatClampNeg (2 : Int32)) (m6 k 7)) (k + 1) 1) + ((it_sv m6 (k + 2) (Int32.toNatClampNeg (2 : Int32)) (m6 k 7)) (k + 1) 2))) k 5)) k 6)) k 7)) (k + 2) (Int32.toNatClampNeg (10 : Int32))) + ((it_sv (it_sv (it_sv (it_sv (it_sv m6 (k + 2) (Int32.toNatClampNeg (2 : Int32)) (m6 k 7)) (k + 2) (Int32.toNatClampNeg (10 : Int32)) (((it_sv m6 (k + 2) (Int32.toNatClampNeg (2 : Int32)) (m6 k 7)) (k + 1) 1) + ((it_sv m6 (k + 2) (Int32.toNatClampNeg (2 : Int32)) (m6 k 7)) (k + 1) 2))) (k + 2) (Int32.toNatClampNeg (11 : Int32)) ((it_sv (it_sv m6 (k + 2) (Int32.toNatClampNeg (2 : Int32)) (m6 k 7)) (k + 2) (Int32.toNatClampNeg (10 : Int32)) (((it_sv m6 (k + 2) (Int32.toNatClampNeg (2 : Int32)) (m6 k 7)) (k + 1) 1) + ((it_sv m6 (k + 2) (Int32.toNatClampNeg (2 : Int32)) (m6 k 7)) (k + 1) 2))) k 5)) (k + 2) (Int32.toNatClampNeg (12 : Int32)) ((it_sv (it_sv (it_sv m6 (k + 2) (Int32.toNatClampNeg (2 : Int32)) (m6 k 7)) (k + 2) (Int32.toNatClampNeg (10 : Int32)) (((it_sv m6 (k + 2) (Int32.toNatClampNeg (2 : Int32)) (m6 k 7)) (k + 1) 1) + ((it_sv m6 (k + 2) (Int32.toNatClampNeg (2 : Int32)) (m6 k 7)) (k + 1) 2))) (k + 2) (Int32.toNatClampNeg (11 : Int32)) ((it_sv (it_sv m6 (k + 2) (Int32.toNatClampNeg (2 : Int32)) (m6 k 7)) (k + 2) (Int32.toNatClampNeg (10 : Int32)) (((it_sv m6 (k + 2) (Int32.toNatClampNeg (2 : Int32)) (m6 k 7)) (k + 1) 1) + ((it_sv m6 (k + 2) (Int32.toNatClampNeg (2 : Int32)) (m6 k 7)) (k + 1) 2))) k 5)) k 6)) (k + 2) (Int32.toNatClampNeg (13 : Int32)) ((it_sv (it_sv (it_sv (it_sv m6 (k + 2) (Int32.toNatClampNeg (2 : Int32)) (m6 k 7)) (k + 2) (Int32.toNatClampNeg (10 : Int32)) (((it_sv m6 (k + 2) (Int32.toNatClampNeg (2 : Int32)) (m6 k 7)) (k + 1) 1) + ((it_sv m6 (k + 2) (Int32.toNatClampNeg (2 : Int32)) (m6 k 7)) (k + 1) 2))) (k + 2) (Int32.toNatClampNeg (11 : Int32)) ((it_sv (it_sv m6 (k + 2) (Int32.toNatClampNeg (2 : Int32)) (m6 k 7)) (k + 2) (Int32.toNatClampNeg (10 : Int32)) (((it_sv m6 (k + 2) (Int32.toNatClampNeg (2 : Int32)) (m6 k 7)) (k + 1) 1) + ((it_sv m6 (k + 2) (Int32.toNatClampNeg (2 : Int32)) (m6 k 7)) (k + 1) 2))) k 5)) (k + 2) (Int32.toNatClampNeg (12 : Int32)) ((it_sv (it_sv (it_sv m6 (k + 2) (Int32.toNatClampNeg (2 : Int32)) (m6 k 7)) (k + 2) (Int32.toNatClampNeg (10 : Int32)) (((it_sv m6 (k + 2) (Int32.toNatClampNeg (2 : Int32)) (m6 k 7)) (k + 1) 1) + ((it_sv m6 (k + 2) (Int32.toNatClampNeg (2 : Int32)) (m6 k 7)) (k + 1) 2))) (k + 2) (Int32.toNatClampNeg (11 : Int32)) ((it_sv (it_sv m6 (k + 2) (Int32.toNatClampNeg (2 : Int32)) (m6 k 7)) (k + 2) (Int32.toNatClampNeg (10 : Int32)) (((it_sv m6 (k + 2) (Int32.toNatClampNeg (2 : Int32)) (m6 k 7)) (k + 1) 1) + ((it_sv m6 (k + 2) (Int32.toNatClampNeg (2 : Int32)) (m6 k 7)) (k + 1) 2))) k 5)) k 6)) k 7)) (k + 1) 4)) &&& (-2 : Int32))) k 4 (1 : Int32)) k 9 (1 : Int32)) k 11 (0 : Int32))) rfl rfl rfl rfl ?_
  exact it_V.ret it_cd128 it_m128 rfl rfl ⟨rfl, h⟩
set_option maxRecDepth 100000 in
set_option maxHeartbeats 4000000 in
theorem s_75 (kc : it_Kc) (x0 : Nat) (hx0 : it_isP x0) (m : it_Me) (Φ : it_Me → Prop) (h : w_75 kc x0 m Φ) : it_V kc it_sh0 75 0 (it_loc0 [(.ref 9), (.ref x0)] 2) [] m (it_Pv Φ) := by
  rw [w_75] at h
  refine it_V.at (pc1 := 0) (ls1 := [some (.ref 9), some (.ref x0)]) (st1 := []) (mem1 := m) rfl rfl rfl rfl ?_
  refine it_V.sN it_cd75 it_m75 3 (pc1 := 5) (ls1 := [some (.ref 9), some (.ref x0)]) (st1 := [(.ref x0), (.ref 1)]) (mem1 := m) rfl ?_
  refine it_V.getP it_cd75 it_m75 rfl (hx0).1 rfl ?_
  refine it_V.at (pc1 := 8) (ls1 := [some (.ref 9), some (.ref x0)]) (st1 := [(.int (m x0 5)), (.ref 1)]) (mem1 := m) rfl rfl rfl rfl ?_
  refine it_V.sN it_cd75 it_m75 1 (pc1 := 9) (ls1 := [some (.ref 9), some (.ref x0)]) (st1 := [(.ref x0), (.int (m x0 5)), (.ref 1)]) (mem1 := m) rfl ?_
  refine it_V.getP it_cd75 it_m75 rfl (hx0).1 rfl ?_
  refine it_V.at (pc1 := 12) (ls1 := [some (.ref 9), some (.ref x0)]) (st1 := [(.int (m x0 6)), (.int (m x0 5)), (.ref 1)]) (mem1 := m) rfl rfl rfl rfl ?_
  refine it_V.sN it_cd75 it_m75 3 (pc1 := 16) (ls1 := [some (.ref 9), some (.ref x0)]) (st1 := [(.int (0 : Int32)), (.int ((m x0 6) - (64 : Int32))), (.int (m x0 5)), (.ref 1)]) (mem1 := m) rfl ?_
  refine it_V.call it_cd75 it_m75 rfl it_m18 [(.ref 1), (.int (m x0 5)), (.int ((m x0 6) - (64 : Int32))), (.int (0 : Int32))] [] rfl rfl ⟨Nat.le_of_ble_eq_true rfl, Nat.le_of_ble_eq_true rfl, Nat.le_of_ble_eq_true rfl, Nat.le_of_ble_eq_true rfl, rfl⟩ (s_18 kc (m x0 5) ((m x0 6) - (64 : Int32)) (0 : Int32) m _ h) ?_
  rintro _ m1 ⟨rfl, h⟩
  refine it_V.at (pc1 := 19) (ls1 := [some (.ref 9), some (.ref x0)]) (st1 := []) (mem1 := m1) rfl rfl rfl rfl ?_
  refine it_V.sN it_cd75 it_m75 1 (pc1 := 20) (ls1 := [some (.ref 9), some (.ref x0)]) (st1 := [(.ref x0)]) (mem1 := m1) rfl ?_
  refine it_V.call it_cd75 it_m75 rfl it_m128 [(.ref x0)] [] rfl rfl ⟨Nat.le_of_ble_eq_true rfl, Nat.le_of_ble_eq_true rfl, Nat.le_of_ble_eq_true rfl, Nat.le_of_ble_eq_true rfl, (it_recvP (hx0).1)⟩ (s_128 kc x0 (hx0) m1 _ h) ?_
  rintro _ m2 ⟨rfl, h⟩
  refine it_V.at (pc1 := 23) (ls1 := [some (.ref 9), some (.ref x0)]) (st1 := []) (mem1 := m2) rfl rfl rfl rfl ?_
  exact it_V.ret it_cd75 it_m75 rfl rfl ⟨rfl, h⟩
set_option maxRecDepth 100000 in
set_option maxHeartbeats 4000000 in
theorem s_127 (kc : it_Kc) (k : Nat) (x0 : Int32) (x1 : Int32) (hk : it_isP k) (m : it_Me) (Φ : it_Me → Prop) (h : w_127 kc k x0 x1 m Φ) : it_V kc it_sh0 127 0 (it_loc0 [(.ref k), (.int x0), (.int x1)] 3) [] m (it_Pv Φ) := by
  rw [w_127] at h
  refine it_V.at (pc1 := 0) (ls1 := [some (.ref k), some (.int x0), some (.int x1)]) (st1 := []) (mem1 := m) rfl rfl rfl rfl ?_
  refine it_V.sN it_cd127 it_m127 2 (pc1 := 2) (ls1 := [some (.ref k), some (.int x0), some (.int x1)]) (st1 := [(.int x0), (.ref k)]) (mem1 := m) rfl ?_
  refine it_V.putP it_cd127 it_m127 rfl (hk).1 rfl rfl rfl (Or.inl rfl) ?_
  refine it_V.at (pc1 := 5) (ls1 := [some (.ref k), some (.int x0), some (.int x1)]) (st1 := []) (mem1 := (it_sv m k 5 x0)) rfl rfl rfl rfl ?_
  refine it_V.sN it_cd127 it_m127 2 (pc1 := 7) (ls1 := [some (.ref k), some (.int x0), some (.int x1)]) (st1 := [(.int x1), (.ref k)]) (mem1 := (it_sv m k 5 x0)) rfl ?_
  refine it_V.putP it_cd127 it_m127 rfl (hk).1 rfl rfl rfl (Or.inl rfl) ?_
  refine it_V.at (pc1 := 10) (ls1 := [some (.ref k), some (.int x0), some (.int x1)]) (st1 := []) (mem1 := (it_sv (it_sv m k 5 x0) k 6 x1)) rfl rfl rfl rfl ?_
  refine it_V.sN it_cd127 it_m127 2 (pc1 := 12) (ls1 := [some (.ref k), some (.int x0), some (.int x1)]) (st1 := [(.int (0 : Int32)), (.ref k)]) (mem1 := (it_sv (it_sv m k 5 x0) k 6 x1)) rfl ?_
  refine it_V.putP it_cd127 it_m127 rfl (hk).1 rfl rfl rfl (Or.inr (by decide)) ?_
  refine it_V.at (pc1 := 15) (ls1 := [some (.ref k), some (.int x0), some (.int x1)]) (st1 := []) (mem1 := (it_sv (it_sv (it_sv m k 5 x0) k 6 x1) k 10 (0 : Int32))) rfl rfl rfl rfl ?_
  refine it_V.sN it_cd127 it_m127 2 (pc1 := 17) (ls1 := [some (.ref k), some (.int x0), some (.int x1)]) (st1 := [(.int (0 : Int32)), (.ref k)]) (mem1 := (it_sv (it_sv (it_sv m k 5 x0) k 6 x1) k 10 (0 : Int32))) rfl ?_
  refine it_V.putP it_cd127 it_m127 rfl (hk).1 rfl rfl rfl (Or.inl rfl) ?_
  refine it_V.at (pc1 := 20) (ls1 := [some (.ref k), some (.int x0), some (.int x1)]) (st1 := []) (mem1 := (it_sv (it_sv (it_sv (it_sv m k 5 x0) k 6 x1) k 10 (0 : Int32)) k 12 (0 : Int32))) rfl rfl rfl rfl ?_
  exact it_V.ret it_cd127 it_m127 rfl rfl ⟨rfl, h⟩
set_option maxRecDepth 100000 in
set_option maxHeartbeats 4000000 in
theorem s_73_149 (kc : it_Kc) (Φ : it_Me → Prop) (K9 : Int32 → Int32 → Int32 → Int32 → it_Me → Prop) (K53 : it_Me → Prop) (K155 : it_Me → Prop) (hK9 : ∀ (v1 : Int32) (v2 : Int32) (v3 : Int32) (v4 : Int32) (m : it_Me), K9 v1 v2 v3 v4 m → it_V kc it_sh0 73 9 [some (.ref 9), some (.int v1), some (.int v2), some (.int v3), some (.int v4), none, none, none, none] [] m (it_Pv Φ)) (hK53 : ∀ (m : it_Me), K53 m → it_V kc it_sh0 73 53 [none, none, none, none, none, none, none, none, none] [] m (it_Pv Φ)) (hK155 : ∀ (m : it_Me), K155 m → it_V kc it_sh0 73 155 [none, none, none, none, none, none, none, none, none] [] m (it_Pv Φ)) (v1 : Int32) (v2 : Int32) (v3 : Int32) (v4 : Int32) (m : it_Me) (h : w_73_149 kc Φ K9 K53 K155 v1 v2 v3 v4 m) : it_V kc it_sh0 73 149 [some (.ref 9), some (.int v1), some (.int v2), some (.int v3), some (.int v4), none, none, none, none] [] m (it_Pv Φ) := by
  rw [w_73_149] at h
  refine it_V.sN it_cd73 it_m73 2 (pc1 := 9) (ls1 := [some (.ref 9), some (.int v1), some (.int v2), some (.int v3), some (.int (v4 + (1 : Int32))), none, none, none, none]) (st1 := []) (mem1 := m) rfl ?_
  refine it_V.weak (l := [some (.ref 9), some (.int v1), some (.int v2), some (.int v3), some (.int (v4 + (1 : Int32))), none, none, none, none]) ⟨rfl, ⟨rfl, ⟨rfl, ⟨rfl, ⟨rfl, trivial⟩⟩⟩⟩⟩ ?_
  exact hK9 v1 v2 v3 (v4 + (1 : Int32)) m h
set_option maxRecDepth 100000 in
set_option maxHeartbeats 4000000 in
theorem s_73_9 (kc : it_Kc) (Φ : it_Me → Prop) (K53 : it_Me → Prop) (K155 : it_Me → Prop) (hK53 : ∀ (m : it_Me), K53 m → it_V kc it_sh0 73 53 [none, none, none, none, none, none, none, none, none] [] m (it_Pv Φ)) (hK155 : ∀ (m : it_Me), K155 m → it_V kc it_sh0 73 155 [none, none, none, none, none, none, none, none, none] [] m (it_Pv Φ)) : ∀ (n : Nat) (v1 : Int32) (v2 : Int32) (v3 : Int32) (v4 : Int32) (m : it_Me) (h : w_73_9 kc Φ K53 K155 n v1 v2 v3 v4 m), it_V kc it_sh0 73 9 [some (.ref 9), some (.int v1), some (.int v2), some (.int v3), some (.int v4), none, none, none, none] [] m (it_Pv Φ) := by
  intro n
  induction n with
  | zero => intro v1 v2 v3 v4 m h; exact absurd h id
  | succ n ih =>
    intro v1 v2 v3 v4 m h
    rw [w_73_9] at h
    refine it_V.sN it_cd73 it_m73 3 (pc1 := (if (3840 : Int32) ≤ v4 then 155 else 17)) (ls1 := [some (.ref 9), some (.int v1), some (.int v2), some (.int v3), some (.int v4), none, none, none, none]) (st1 := []) (mem1 := m) rfl ?_
    refine it_V.ite (fun c1 => ?_) (fun c1 => ?_)
    · have h := h.1 c1
      refine it_V.weak (l := [none, none, none, none, none, none, none, none, none]) trivial ?_
      exact hK155 m h
    · have h := h.2 c1
      refine it_V.sN it_cd73 it_m73 4 (pc1 := (if (8 : Int32) ≤ (m 9 7) then 155 else 26)) (ls1 := [some (.ref 9), some (.int v1), some (.int v2), some (.int v3), some (.int v4), none, none, none, none]) (st1 := []) (mem1 := m) rfl ?_
      refine it_V.ite (fun c2 => ?_) (fun c2 => ?_)
      · have h := h.1 c2
        refine it_V.weak (l := [none, none, none, none, none, none, none, none, none]) trivial ?_
        exact hK155 m h
      · have h := h.2 c2
        refine it_V.sN it_cd73 it_m73 4 (pc1 := 34) (ls1 := [some (.ref 9), some (.int v1), some (.int v2), some (.int v3), some (.int v4), none, none, none, none]) (st1 := [(.int (m 9 7)), (.ref 10)]) (mem1 := m) rfl ?_
        obtain ⟨g3, h⟩ := h
        refine it_V.aald it_cd73 it_m73 rfl g3 ?_
        refine it_V.at (pc1 := 35) (ls1 := [some (.ref 9), some (.int v1), some (.int v2), some (.int v3), some (.int v4), none, none, none, none]) (st1 := [(.ref (14 + 5 * Int32.toNatClampNeg (m 9 7)))]) (mem1 := m) rfl rfl rfl rfl ?_
        refine it_V.sN it_cd73 it_m73 2 (pc1 := 39) (ls1 := [some (.ref 9), some (.int v1), some (.int v2), some (.int v3), some (.int v4), some (.ref (14 + 5 * Int32.toNatClampNeg (m 9 7))), none, none, none]) (st1 := [(.ref (14 + 5 * Int32.toNatClampNeg (m 9 7)))]) (mem1 := m) rfl ?_
        refine it_V.getP it_cd73 it_m73 rfl (it_isP_of g3).1 rfl ?_
        refine it_V.at (pc1 := 42) (ls1 := [some (.ref 9), some (.int v1), some (.int v2), some (.int v3), some (.int v4), some (.ref (14 + 5 * Int32.toNatClampNeg (m 9 7))), none, none, none]) (st1 := [(.ref ((14 + 5 * Int32.toNatClampNeg (m 9 7)) + 1))]) (mem1 := m) rfl rfl rfl rfl ?_
        refine it_V.sN it_cd73 it_m73 3 (pc1 := 47) (ls1 := [some (.ref 9), some (.int v1), some (.int v2), some (.int v3), some (.int v4), some (.ref (14 + 5 * Int32.toNatClampNeg (m 9 7))), some (.ref ((14 + 5 * Int32.toNatClampNeg (m 9 7)) + 1)), none, none]) (st1 := [(.int v2), (.ref ((14 + 5 * Int32.toNatClampNeg (m 9 7)) + 1))]) (mem1 := m) rfl ?_
        refine it_V.call it_cd73 it_m73 rfl it_m1 [(.ref ((14 + 5 * Int32.toNatClampNeg (m 9 7)) + 1)), (.int v2)] [] rfl rfl ⟨Nat.le_of_ble_eq_true rfl, Nat.le_of_ble_eq_true rfl, Nat.le_of_ble_eq_true rfl, Nat.le_of_ble_eq_true rfl, (it_recvP ((it_isP_of g3).2.1))⟩ (s_1 kc ((14 + 5 * Int32.toNatClampNeg (m 9 7)) + 1) v2 ((it_isP_of g3).2.1) m _ h) ?_
        rintro _ m5 ⟨r4, rfl, h⟩
        refine it_V.at (pc1 := 50) (ls1 := [some (.ref 9), some (.int v1), some (.int v2), some (.int v3), some (.int v4), some (.ref (14 + 5 * Int32.toNatClampNeg (m 9 7))), some (.ref ((14 + 5 * Int32.toNatClampNeg (m 9 7)) + 1)), none, none]) (st1 := [(.int r4)]) (mem1 := m5) rfl rfl rfl rfl ?_
        refine it_V.sN it_cd73 it_m73 1 (pc1 := (if r4 = 0 then 53 else 54)) (ls1 := [some (.ref 9), some (.int v1), some (.int v2), some (.int v3), some (.int v4), some (.ref (14 + 5 * Int32.toNatClampNeg (m 9 7))), some (.ref ((14 + 5 * Int32.toNatClampNeg (m 9 7)) + 1)), none, none]) (st1 := []) (mem1 := m5) rfl ?_
        refine it_V.ite (fun c6 => ?_) (fun c6 => ?_)
        · have h := h.1 c6
          refine it_V.weak (l := [none, none, none, none, none, none, none, none, none]) trivial ?_
          exact hK53 m5 h
        · have h := h.2 c6
          refine it_V.sN it_cd73 it_m73 2 (pc1 := 57) (ls1 := [some (.ref 9), some (.int v1), some (.int v2), some (.int v3), some (.int v4), some (.ref (14 + 5 * Int32.toNatClampNeg (m 9 7))), some (.ref ((14 + 5 * Int32.toNatClampNeg (m 9 7)) + 1)), none, none]) (st1 := [(.ref ((14 + 5 * Int32.toNatClampNeg (m 9 7)) + 1)), (.int v2)]) (mem1 := m5) rfl ?_
          refine it_V.getP it_cd73 it_m73 rfl (it_isP_of g3).2.1 rfl ?_
          refine it_V.at (pc1 := 60) (ls1 := [some (.ref 9), some (.int v1), some (.int v2), some (.int v3), some (.int v4), some (.ref (14 + 5 * Int32.toNatClampNeg (m 9 7))), some (.ref ((14 + 5 * Int32.toNatClampNeg (m 9 7)) + 1)), none, none]) (st1 := [(.int (m5 ((14 + 5 * Int32.toNatClampNeg (m 9 7)) + 1) 3)), (.int v2)]) (mem1 := m5) rfl rfl rfl rfl ?_
          refine it_V.sN it_cd73 it_m73 3 (pc1 := 64) (ls1 := [some (.ref 9), some (.int v1), some (.int (v2 + (m5 ((14 + 5 * Int32.toNatClampNeg (m 9 7)) + 1) 3))), some (.int v3), some (.int v4), some (.ref (14 + 5 * Int32.toNatClampNeg (m 9 7))), some (.ref ((14 + 5 * Int32.toNatClampNeg (m 9 7)) + 1)), none, none]) (st1 := [(.ref ((14 + 5 * Int32.toNatClampNeg (m 9 7)) + 1))]) (mem1 := m5) rfl ?_
          refine it_V.call it_cd73 it_m73 rfl it_m2 [(.ref ((14 + 5 * Int32.toNatClampNeg (m 9 7)) + 1))] [] rfl rfl ⟨Nat.le_of_ble_eq_true rfl, Nat.le_of_ble_eq_true rfl, Nat.le_of_ble_eq_true rfl, Nat.le_of_ble_eq_true rfl, (it_recvP ((it_isP_of g3).2.1))⟩ (s_2 kc ((14 + 5 * Int32.toNatClampNeg (m 9 7)) + 1) ((it_isP_of g3).2.1) m5 _ h) ?_
          rintro _ m8 ⟨r7, rfl, h⟩
          refine it_V.at (pc1 := 67) (ls1 := [some (.ref 9), some (.int v1), some (.int (v2 + (m5 ((14 + 5 * Int32.toNatClampNeg (m 9 7)) + 1) 3))), some (.int v3), some (.int v4), some (.ref (14 + 5 * Int32.toNatClampNeg (m 9 7))), some (.ref ((14 + 5 * Int32.toNatClampNeg (m 9 7)) + 1)), none, none]) (st1 := [(.int r7)]) (mem1 := m8) rfl rfl rfl rfl ?_
          refine it_V.sN it_cd73 it_m73 1 (pc1 := (if r7 = 0 then 149 else 70)) (ls1 := [some (.ref 9), some (.int v1), some (.int (v2 + (m5 ((14 + 5 * Int32.toNatClampNeg (m 9 7)) + 1) 3))), some (.int v3), some (.int v4), some (.ref (14 + 5 * Int32.toNatClampNeg (m 9 7))), some (.ref ((14 + 5 * Int32.toNatClampNeg (m 9 7)) + 1)), none, none]) (st1 := []) (mem1 := m8) rfl ?_
          refine it_V.ite (fun c9 => ?_) (fun c9 => ?_)
          · have h := h.1 c9
            refine it_V.weak (l := [some (.ref 9), some (.int v1), some (.int (v2 + (m5 ((14 + 5 * Int32.toNatClampNeg (m 9 7)) + 1) 3))), some (.int v3), some (.int v4), none, none, none, none]) ⟨rfl, ⟨rfl, ⟨rfl, ⟨rfl, ⟨rfl, trivial⟩⟩⟩⟩⟩ ?_
            exact s_73_149 kc Φ _ _ _ ih hK53 hK155 v1 (v2 + (m5 ((14 + 5 * Int32.toNatClampNeg (m 9 7)) + 1) 3)) v3 v4 m8 h
          · have h := h.2 c9
            refine it_V.sN it_cd73 it_m73 2 (pc1 := 73) (ls1 := [some (.ref 9), some (.int v1), some (.int (v2 + (m5 ((14 + 5 * Int32.toNatClampNeg (m 9 7)) + 1) 3))), some (.int v3), some (.int v4), some (.ref (14 + 5 * Int32.toNatClampNeg (m 9 7))), some (.ref ((14 + 5 * Int32.toNatClampNeg (m 9 7)) + 1)), none, none]) (st1 := [(.int v1), (.ref ((14 + 5 * Int32.toNatClampNeg (m 9 7)) + 1))]) (mem1 := m8) rfl ?_
            refine it_V.call it_cd73 it_m73 rfl it_m6 [(.ref ((14 + 5 * Int32.toNatClampNeg (m 9 7)) + 1)), (.int v1)] [] rfl rfl ⟨Nat.le_of_ble_eq_true rfl, Nat.le_of_ble_eq_true rfl, Nat.le_of_ble_eq_true rfl, Nat.le_of_ble_eq_true rfl, (it_recvP ((it_isP_of g3).2.1))⟩ (s_6 kc ((14 + 5 * Int32.toNatClampNeg (m 9 7)) + 1) v1 ((it_isP_of g3).2.1) m8 _ h) ?_
            rintro _ m11 ⟨r10, rfl, h⟩
            refine it_V.at (pc1 := 76) (ls1 := [some (.ref 9), some (.int v1), some (.int (v2 + (m5 ((14 + 5 * Int32.toNatClampNeg (m 9 7)) + 1) 3))), some (.int v3), some (.int v4), some (.ref (14 + 5 * Int32.toNatClampNeg (m 9 7))), some (.ref ((14 + 5 * Int32.toNatClampNeg (m 9 7)) + 1)), none, none]) (st1 := [(.int r10)]) (mem1 := m11) rfl rfl rfl rfl ?_
            refine it_V.sN it_cd73 it_m73 1 (pc1 := (if r10 = 0 then 149 else 79)) (ls1 := [some (.ref 9), some (.int v1), some (.int (v2 + (m5 ((14 + 5 * Int32.toNatClampNeg (m 9 7)) + 1) 3))), some (.int v3), some (.int v4), some (.ref (14 + 5 * Int32.toNatClampNeg (m 9 7))), some (.ref ((14 + 5 * Int32.toNatClampNeg (m 9 7)) + 1)), none, none]) (st1 := []) (mem1 := m11) rfl ?_
            refine it_V.ite (fun c12 => ?_) (fun c12 => ?_)
            · have h := h.1 c12
              refine it_V.weak (l := [some (.ref 9), some (.int v1), some (.int (v2 + (m5 ((14 + 5 * Int32.toNatClampNeg (m 9 7)) + 1) 3))), some (.int v3), some (.int v4), none, none, none, none]) ⟨rfl, ⟨rfl, ⟨rfl, ⟨rfl, ⟨rfl, trivial⟩⟩⟩⟩⟩ ?_
              exact s_73_149 kc Φ _ _ _ ih hK53 hK155 v1 (v2 + (m5 ((14 + 5 * Int32.toNatClampNeg (m 9 7)) + 1) 3)) v3 v4 m11 h
            · have h := h.2 c12
              refine it_V.sN it_cd73 it_m73 3 (pc1 := 83) (ls1 := [some (.ref 9), some (.int v1), some (.int (v2 + (m5 ((14 + 5 * Int32.toNatClampNeg (m 9 7)) + 1) 3))), some (.int v3), some (.int v4), some (.ref (14 + 5 * Int32.toNatClampNeg (m 9 7))), some (.ref ((14 + 5 * Int32.toNatClampNeg (m 9 7)) + 1)), none, none]) (st1 := [(.int v1), (.ref ((14 + 5 * Int32.toNatClampNeg (m 9 7)) + 1)), (.ref 9)]) (mem1 := m11) rfl ?_
              refine it_V.call it_cd73 it_m73 rfl it_m74 [(.ref 9), (.ref ((14 + 5 * Int32.toNatClampNeg (m 9 7)) + 1)), (.int v1)] [] rfl rfl ⟨Nat.le_of_ble_eq_true rfl, Nat.le_of_ble_eq_true rfl, Nat.le_of_ble_eq_true rfl, Nat.le_of_ble_eq_true rfl, rfl⟩ (s_74 kc ((14 + 5 * Int32.toNatClampNeg (m 9 7)) + 1) v1 ((it_isP_of g3).2.1) m11 _ h) ?_
              rintro _ m14 ⟨r13, rfl, h⟩
              refine it_V.at (pc1 := 86) (ls1 := [some (.ref 9), some (.int v1), some (.int (v2 + (m5 ((14 + 5 * Int32.toNatClampNeg (m 9 7)) + 1) 3))), some (.int v3), some (.int v4), some (.ref (14 + 5 * Int32.toNatClampNeg (m 9 7))), some (.ref ((14 + 5 * Int32.toNatClampNeg (m 9 7)) + 1)), none, none]) (st1 := [(.int r13)]) (mem1 := m14) rfl rfl rfl rfl ?_
              refine it_V.sN it_cd73 it_m73 1 (pc1 := (if r13 = 0 then 89 else 149)) (ls1 := [some (.ref 9), some (.int v1), some (.int (v2 + (m5 ((14 + 5 * Int32.toNatClampNeg (m 9 7)) + 1) 3))), some (.int v3), some (.int v4), some (.ref (14 + 5 * Int32.toNatClampNeg (m 9 7))), some (.ref ((14 + 5 * Int32.toNatClampNeg (m 9 7)) + 1)), none, none]) (st1 := []) (mem1 := m14) rfl ?_
              refine it_V.ite (fun c15 => ?_) (fun c15 => ?_)
              · have h := h.1 c15
                refine it_V.sN it_cd73 it_m73 1 (pc1 := 91) (ls1 := [some (.ref 9), some (.int v1), some (.int (v2 + (m5 ((14 + 5 * Int32.toNatClampNeg (m 9 7)) + 1) 3))), some (.int v3), some (.int v4), some (.ref (14 + 5 * Int32.toNatClampNeg (m 9 7))), some (.ref ((14 + 5 * Int32.toNatClampNeg (m 9 7)) + 1)), none, none]) (st1 := [(.ref ((14 + 5 * Int32.toNatClampNeg (m 9 7)) + 1))]) (mem1 := m14) rfl ?_
                refine it_V.call it_cd73 it_m73 rfl it_m10 [(.ref ((14 + 5 * Int32.toNatClampNeg (m 9 7)) + 1))] [] rfl rfl ⟨Nat.le_of_ble_eq_true rfl, Nat.le_of_ble_eq_true rfl, Nat.le_of_ble_eq_true rfl, Nat.le_of_ble_eq_true rfl, (it_recvP ((it_isP_of g3).2.1))⟩ (s_10 kc ((14 + 5 * Int32.toNatClampNeg (m 9 7)) + 1) ((it_isP_of g3).2.1) m14 _ h) ?_
                rintro _ m17 ⟨r16, rfl, h⟩
                refine it_V.at (pc1 := 94) (ls1 := [some (.ref 9), some (.int v1), some (.int (v2 + (m5 ((14 + 5 * Int32.toNatClampNeg (m 9 7)) + 1) 3))), some (.int v3), some (.int v4), some (.ref (14 + 5 * Int32.toNatClampNeg (m 9 7))), some (.ref ((14 + 5 * Int32.toNatClampNeg (m 9 7)) + 1)), none, none]) (st1 := [(.int r16)]) (mem1 := m17) rfl rfl rfl rfl ?_
                refine it_V.sN it_cd73 it_m73 15 (pc1 := (if ((196608 : Int32) - (((v3 + r16) - (1 : Int32)) &&& (-r16))) < r16 then 149 else 118)) (ls1 := [some (.ref 9), some (.int v1), some (.int (v2 + (m5 ((14 + 5 * Int32.toNatClampNeg (m 9 7)) + 1) 3))), some (.int v3), some (.int v4), some (.ref (14 + 5 * Int32.toNatClampNeg (m 9 7))), some (.ref ((14 + 5 * Int32.toNatClampNeg (m 9 7)) + 1)), some (.int r16), some (.int (((v3 + r16) - (1 : Int32)) &&& (-r16)))]) (st1 := []) (mem1 := m17) rfl ?_
                refine it_V.ite (fun c18 => ?_) (fun c18 => ?_)
                · have h := h.1 c18
                  refine it_V.weak (l := [some (.ref 9), some (.int v1), some (.int (v2 + (m5 ((14 + 5 * Int32.toNatClampNeg (m 9 7)) + 1) 3))), some (.int v3), some (.int v4), none, none, none, none]) ⟨rfl, ⟨rfl, ⟨rfl, ⟨rfl, ⟨rfl, trivial⟩⟩⟩⟩⟩ ?_
                  exact s_73_149 kc Φ _ _ _ ih hK53 hK155 v1 (v2 + (m5 ((14 + 5 * Int32.toNatClampNeg (m 9 7)) + 1) 3)) v3 v4 m17 h
                · have h := h.2 c18
                  refine it_V.sN it_cd73 it_m73 3 (pc1 := 124) (ls1 := [some (.ref 9), some (.int v1), some (.int (v2 + (m5 ((14 + 5 * Int32.toNatClampNeg (m 9 7)) + 1) 3))), some (.int v3), some (.int v4), some (.ref (14 + 5 * Int32.toNatClampNeg (m 9 7))), some (.ref ((14 + 5 * Int32.toNatClampNeg (m 9 7)) + 1)), some (.int r16), some (.int (((v3 + r16) - (1 : Int32)) &&& (-r16)))]) (st1 := [(.int r16), (.int (((v3 + r16) - (1 : Int32)) &&& (-r16))), (.ref (14 + 5 * Int32.toNatClampNeg (m 9 7)))]) (mem1 := m17) rfl ?_
                  refine it_V.call it_cd73 it_m73 rfl it_m127 [(.ref (14 + 5 * Int32.toNatClampNeg (m 9 7))), (.int (((v3 + r16) - (1 : Int32)) &&& (-r16))), (.int r16)] [] rfl rfl ⟨Nat.le_of_ble_eq_true rfl, Nat.le_of_ble_eq_true rfl, Nat.le_of_ble_eq_true rfl, Nat.le_of_ble_eq_true rfl, (it_recvP (it_isP_of g3).1)⟩ (s_127 kc (14 + 5 * Int32.toNatClampNeg (m 9 7)) (((v3 + r16) - (1 : Int32)) &&& (-r16)) r16 (it_isP_of g3) m17 _ h) ?_
                  rintro _ m19 ⟨rfl, h⟩
                  refine it_V.at (pc1 := 127) (ls1 := [some (.ref 9), some (.int v1), some (.int (v2 + (m5 ((14 + 5 * Int32.toNatClampNeg (m 9 7)) + 1) 3))), some (.int v3), some (.int v4), some (.ref (14 + 5 * Int32.toNatClampNeg (m 9 7))), some (.ref ((14 + 5 * Int32.toNatClampNeg (m 9 7)) + 1)), some (.int r16), some (.int (((v3 + r16) - (1 : Int32)) &&& (-r16)))]) (st1 := []) (mem1 := m19) rfl rfl rfl rfl ?_
                  refine it_V.sN it_cd73 it_m73 2 (pc1 := 130) (ls1 := [some (.ref 9), some (.int v1), some (.int (v2 + (m5 ((14 + 5 * Int32.toNatClampNeg (m 9 7)) + 1) 3))), some (.int v3), some (.int v4), some (.ref (14 + 5 * Int32.toNatClampNeg (m 9 7))), some (.ref ((14 + 5 * Int32.toNatClampNeg (m 9 7)) + 1)), some (.int r16), some (.int (((v3 + r16) - (1 : Int32)) &&& (-r16)))]) (st1 := [(.ref (14 + 5 * Int32.toNatClampNeg (m 9 7))), (.ref 9)]) (mem1 := m19) rfl ?_
                  refine it_V.call it_cd73 it_m73 rfl it_m75 [(.ref 9), (.ref (14 + 5 * Int32.toNatClampNeg (m 9 7)))] [] rfl rfl ⟨Nat.le_of_ble_eq_true rfl, Nat.le_of_ble_eq_true rfl, Nat.le_of_ble_eq_true rfl, Nat.le_of_ble_eq_true rfl, rfl⟩ (s_75 kc (14 + 5 * Int32.toNatClampNeg (m 9 7)) (it_isP_of g3) m19 _ h) ?_
                  rintro _ m20 ⟨rfl, h⟩
                  refine it_V.at (pc1 := 133) (ls1 := [some (.ref 9), some (.int v1), some (.int (v2 + (m5 ((14 + 5 * Int32.toNatClampNeg (m 9 7)) + 1) 3))), some (.int v3), some (.int v4), some (.ref (14 + 5 * Int32.toNatClampNeg (m 9 7))), some (.ref ((14 + 5 * Int32.toNatClampNeg (m 9 7)) + 1)), some (.int r16), some (.int (((v3 + r16) - (1 : Int32)) &&& (-r16)))]) (st1 := []) (mem1 := m20) rfl rfl rfl rfl ?_
                  refine it_V.sN it_cd73 it_m73 10 (pc1 := 149) (ls1 := [some (.ref 9), some (.int v1), some (.int (v2 + (m5 ((14 + 5 * Int32.toNatClampNeg (m 9 7)) + 1) 3))), some (.int ((((v3 + r16) - (1 : Int32)) &&& (-r16)) + r16)), some (.int v4), some (.ref (14 + 5 * Int32.toNatClampNeg (m 9 7))), some (.ref ((14 + 5 * Int32.toNatClampNeg (m 9 7)) + 1)), some (.int r16), some (.int (((v3 + r16) - (1 : Int32)) &&& (-r16)))]) (st1 := []) (mem1 := (it_sv m20 9 7 ((m20 9 7) + (1 : Int32)))) rfl ?_
                  refine it_V.weak (l := [some (.ref 9), some (.int v1), some (.int (v2 + (m5 ((14 + 5 * Int32.toNatClampNeg (m 9 7)) + 1) 3))), some (.int ((((v3 + r16) - (1 : Int32)) &&& (-r16)) + r16)), some (.int v4), none, none, none, none]) ⟨rfl, ⟨rfl, ⟨rfl, ⟨rfl, ⟨rfl, trivial⟩⟩⟩⟩⟩ ?_
                  exact s_73_149 kc Φ _ _ _ ih hK53 hK155 v1 (v2 + (m5 ((14 + 5 * Int32.toNatClampNeg (m 9 7)) + 1) 3)) ((((v3 + r16) - (1 : Int32)) &&& (-r16)) + r16) v4 (it_sv m20 9 7 ((m20 9 7) + (1 : Int32))) h
              · have h := h.2 c15
                refine it_V.weak (l := [some (.ref 9), some (.int v1), some (.int (v2 + (m5 ((14 + 5 * Int32.toNatClampNeg (m 9 7)) + 1) 3))), some (.int v3), some (.int v4), none, none, none, none]) ⟨rfl, ⟨rfl, ⟨rfl, ⟨rfl, ⟨rfl, trivial⟩⟩⟩⟩⟩ ?_
                exact s_73_149 kc Φ _ _ _ ih hK53 hK155 v1 (v2 + (m5 ((14 + 5 * Int32.toNatClampNeg (m 9 7)) + 1) 3)) v3 v4 m14 h
set_option maxRecDepth 100000 in
set_option maxHeartbeats 4000000 in
theorem s_73_53 (kc : it_Kc) (Φ : it_Me → Prop) (m : it_Me) (h : w_73_53 kc Φ m) : it_V kc it_sh0 73 53 [none, none, none, none, none, none, none, none, none] [] m (it_Pv Φ) := by
  rw [w_73_53] at h
  exact it_V.ret it_cd73 it_m73 rfl rfl ⟨rfl, h⟩
set_option maxRecDepth 100000 in
set_option maxHeartbeats 4000000 in
theorem s_73_155 (kc : it_Kc) (Φ : it_Me → Prop) (m : it_Me) (h : w_73_155 kc Φ m) : it_V kc it_sh0 73 155 [none, none, none, none, none, none, none, none, none] [] m (it_Pv Φ) := by
  rw [w_73_155] at h
  exact it_V.ret it_cd73 it_m73 rfl rfl ⟨rfl, h⟩
set_option maxRecDepth 100000 in
set_option maxHeartbeats 4000000 in
theorem s_73 (kc : it_Kc) (x0 : Int32) (m : it_Me) (Φ : it_Me → Prop) (h : w_73 kc x0 m Φ) : it_V kc it_sh0 73 0 (it_loc0 [(.ref 9), (.int x0)] 9) [] m (it_Pv Φ) := by
  rw [w_73] at h
  refine it_V.at (pc1 := 0) (ls1 := [some (.ref 9), some (.int x0), none, none, none, none, none, none, none]) (st1 := []) (mem1 := m) rfl rfl rfl rfl ?_
  refine it_V.sN it_cd73 it_m73 6 (pc1 := 9) (ls1 := [some (.ref 9), some (.int x0), some (.int (65536 : Int32)), some (.int (131072 : Int32)), some (.int (0 : Int32)), none, none, none, none]) (st1 := []) (mem1 := m) rfl ?_
  obtain ⟨n, h⟩ := h
  exact s_73_9 kc Φ _ _ (fun m h => s_73_53 kc Φ m h) (fun m h => s_73_155 kc Φ m h) n x0 (65536 : Int32) (131072 : Int32) (0 : Int32) m h
set_option maxRecDepth 100000 in
set_option maxHeartbeats 4000000 in
theorem s_76 (kc : it_Kc) (x0 : Nat) (hx0 : it_isP x0) (m : it_Me) (Φ : it_Me → Prop) (h : w_76 kc x0 m Φ) : it_V kc it_sh0 76 0 (it_loc0 [(.ref 9), (.ref x0)] 2) [] m (it_Pv Φ) := by
  rw [w_76] at h
  refine it_V.at (pc1 := 0) (ls1 := [some (.ref 9), some (.ref x0)]) (st1 := []) (mem1 := m) rfl rfl rfl rfl ?_
  refine it_V.sN it_cd76 it_m76 2 (pc1 := 2) (ls1 := [some (.ref 9), some (.ref x0)]) (st1 := [(.ref x0), (.ref 9)]) (mem1 := m) rfl ?_
  refine it_V.call it_cd76 it_m76 rfl it_m75 [(.ref 9), (.ref x0)] [] rfl rfl ⟨Nat.le_of_ble_eq_true rfl, Nat.le_of_ble_eq_true rfl, Nat.le_of_ble_eq_true rfl, Nat.le_of_ble_eq_true rfl, rfl⟩ (s_75 kc x0 (hx0) m _ h) ?_
  rintro _ m1 ⟨rfl, h⟩
  refine it_V.at (pc1 := 5) (ls1 := [some (.ref 9), some (.ref x0)]) (st1 := []) (mem1 := m1) rfl rfl rfl rfl ?_
  refine it_V.sN it_cd76 it_m76 2 (pc1 := 7) (ls1 := [some (.ref 9), some (.ref x0)]) (st1 := [(.ref x0), (.ref x0)]) (mem1 := m1) rfl ?_
  refine it_V.getP it_cd76 it_m76 rfl (hx0).1 rfl ?_
  refine it_V.at (pc1 := 10) (ls1 := [some (.ref 9), some (.ref x0)]) (st1 := [(.int (m1 x0 12)), (.ref x0)]) (mem1 := m1) rfl rfl rfl rfl ?_
  refine it_V.sN it_cd76 it_m76 2 (pc1 := 12) (ls1 := [some (.ref 9), some (.ref x0)]) (st1 := [(.int ((m1 x0 12) + (1 : Int32))), (.ref x0)]) (mem1 := m1) rfl ?_
  refine it_V.putP it_cd76 it_m76 rfl (hx0).1 rfl rfl rfl (Or.inl rfl) ?_
  refine it_V.at (pc1 := 15) (ls1 := [some (.ref 9), some (.ref x0)]) (st1 := []) (mem1 := (it_sv m1 x0 12 ((m1 x0 12) + (1 : Int32)))) rfl rfl rfl rfl ?_
  refine it_V.sN it_cd76 it_m76 3 (pc1 := 20) (ls1 := [some (.ref 9), some (.ref x0)]) (st1 := [(.ref x0), (.ref 4)]) (mem1 := (it_sv m1 x0 12 ((m1 x0 12) + (1 : Int32)))) rfl ?_
  refine it_V.getP it_cd76 it_m76 rfl (hx0).1 rfl ?_
  refine it_V.at (pc1 := 23) (ls1 := [some (.ref 9), some (.ref x0)]) (st1 := [(.int ((it_sv m1 x0 12 ((m1 x0 12) + (1 : Int32))) x0 0)), (.ref 4)]) (mem1 := (it_sv m1 x0 12 ((m1 x0 12) + (1 : Int32)))) rfl rfl rfl rfl ?_
  refine it_V.sN it_cd76 it_m76 2 (pc1 := 25) (ls1 := [some (.ref 9), some (.ref x0)]) (st1 := [(.ref x0), (.int (3 : Int32)), (.int ((it_sv m1 x0 12 ((m1 x0 12) + (1 : Int32))) x0 0)), (.ref 4)]) (mem1 := (it_sv m1 x0 12 ((m1 x0 12) + (1 : Int32)))) rfl ?_
  refine it_V.getP it_cd76 it_m76 rfl (hx0).1 rfl ?_
  refine it_V.at (pc1 := 28) (ls1 := [some (.ref 9), some (.ref x0)]) (st1 := [(.int ((it_sv m1 x0 12 ((m1 x0 12) + (1 : Int32))) x0 12)), (.int (3 : Int32)), (.int ((it_sv m1 x0 12 ((m1 x0 12) + (1 : Int32))) x0 0)), (.ref 4)]) (mem1 := (it_sv m1 x0 12 ((m1 x0 12) + (1 : Int32)))) rfl rfl rfl rfl ?_
  refine it_V.call it_cd76 it_m76 rfl it_m69 [(.ref 4), (.int ((it_sv m1 x0 12 ((m1 x0 12) + (1 : Int32))) x0 0)), (.int (3 : Int32)), (.int ((it_sv m1 x0 12 ((m1 x0 12) + (1 : Int32))) x0 12))] [] rfl rfl ⟨Nat.le_of_ble_eq_true rfl, Nat.le_of_ble_eq_true rfl, Nat.le_of_ble_eq_true rfl, Nat.le_of_ble_eq_true rfl, rfl⟩ (s_69 kc ((it_sv m1 x0 12 ((m1 x0 12) + (1 : Int32))) x0 0) (3 : Int32) ((it_sv m1 x0 12 ((m1 x0 12) + (1 : Int32))) x0 12) (it_sv m1 x0 12 ((m1 x0 12) + (1 : Int32))) _ h) ?_
  rintro _ m2 ⟨rfl, h⟩
  refine it_V.at (pc1 := 31) (ls1 := [some (.ref 9), some (.ref x0)]) (st1 := []) (mem1 := m2) rfl rfl rfl rfl ?_
  exact it_V.ret it_cd76 it_m76 rfl rfl ⟨rfl, h⟩
set_option maxRecDepth 100000 in
set_option maxHeartbeats 4000000 in
theorem s_79_12 (kc : it_Kc) (Φ : it_Me → Prop) (K45 : it_Me → Prop) (hK45 : ∀ (m : it_Me), K45 m → it_V kc it_sh0 79 45 [none, none, none, none] [] m (it_Pv Φ)) : ∀ (n : Nat) (v1 : Nat) (v3 : Int32) (hv1 : it_isP v1) (m : it_Me) (h : w_79_12 kc Φ K45 n v1 v3 m), it_V kc it_sh0 79 12 [some (.ref 9), some (.ref v1), none, some (.int v3)] [] m (it_Pv Φ) := by
  intro n
  induction n with
  | zero => intro v1 v3 hv1 m h; exact absurd h id
  | succ n ih =>
    intro v1 v3 hv1 m h
    rw [w_79_12] at h
    refine it_V.sN it_cd79 it_m79 3 (pc1 := (if (9 : Int32) ≤ v3 then 45 else 18)) (ls1 := [some (.ref 9), some (.ref v1), none, some (.int v3)]) (st1 := []) (mem1 := m) rfl ?_
    refine it_V.ite (fun c1 => ?_) (fun c1 => ?_)
    · have h := h.1 c1
      refine it_V.weak (l := [none, none, none, none]) trivial ?_
      exact hK45 m h
    · have h := h.2 c1
      refine it_V.sN it_cd79 it_m79 5 (pc1 := 25) (ls1 := [some (.ref 9), some (.ref v1), none, some (.int v3)]) (st1 := [(.int v3), (.ref v1), (.ref 9), (.ref 1)]) (mem1 := m) rfl ?_
      refine it_V.call it_cd79 it_m79 rfl it_m90 [(.ref 9), (.ref v1), (.int v3)] [(.ref 1)] rfl rfl ⟨Nat.le_of_ble_eq_true rfl, Nat.le_of_ble_eq_true rfl, Nat.le_of_ble_eq_true rfl, Nat.le_of_ble_eq_true rfl, rfl⟩ (s_90 kc v1 v3 (hv1) m _ h) ?_
      rintro _ m3 ⟨r2, rfl, h⟩
      refine it_V.at (pc1 := 28) (ls1 := [some (.ref 9), some (.ref v1), none, some (.int v3)]) (st1 := [(.int r2), (.ref 1)]) (mem1 := m3) rfl rfl rfl rfl ?_
      refine it_V.sN it_cd79 it_m79 2 (pc1 := 32) (ls1 := [some (.ref 9), some (.ref v1), none, some (.int v3)]) (st1 := [(.int v3), (.ref (it_K + 1)), (.int r2), (.ref 1)]) (mem1 := m3) rfl ?_
      obtain ⟨g4, h⟩ := h
      refine it_V.kald it_cd79 it_m79 rfl (by decide) g4 ?_
      refine it_V.at (pc1 := 33) (ls1 := [some (.ref 9), some (.ref v1), none, some (.int v3)]) (st1 := [(.int ((kc 1).2 (Int32.toNatClampNeg v3))), (.int r2), (.ref 1)]) (mem1 := m3) rfl rfl rfl rfl ?_
      refine it_V.sN it_cd79 it_m79 3 (pc1 := 36) (ls1 := [some (.ref 9), some (.ref v1), none, some (.int v3)]) (st1 := [(.int (0 : Int32)), (.int (((kc 1).2 (Int32.toNatClampNeg v3)) * (4 : Int32))), (.int r2), (.ref 1)]) (mem1 := m3) rfl ?_
      refine it_V.call it_cd79 it_m79 rfl it_m18 [(.ref 1), (.int r2), (.int (((kc 1).2 (Int32.toNatClampNeg v3)) * (4 : Int32))), (.int (0 : Int32))] [] rfl rfl ⟨Nat.le_of_ble_eq_true rfl, Nat.le_of_ble_eq_true rfl, Nat.le_of_ble_eq_true rfl, Nat.le_of_ble_eq_true rfl, rfl⟩ (s_18 kc r2 (((kc 1).2 (Int32.toNatClampNeg v3)) * (4 : Int32)) (0 : Int32) m3 _ h) ?_
      rintro _ m5 ⟨rfl, h⟩
      refine it_V.at (pc1 := 39) (ls1 := [some (.ref 9), some (.ref v1), none, some (.int v3)]) (st1 := []) (mem1 := m5) rfl rfl rfl rfl ?_
      refine it_V.sN it_cd79 it_m79 2 (pc1 := 12) (ls1 := [some (.ref 9), some (.ref v1), none, some (.int (v3 + (1 : Int32)))]) (st1 := []) (mem1 := m5) rfl ?_
      refine it_V.weak (l := [some (.ref 9), some (.ref v1), none, some (.int (v3 + (1 : Int32)))]) ⟨rfl, ⟨rfl, ⟨rfl, trivial⟩⟩⟩ ?_
      exact ih v1 (v3 + (1 : Int32)) (hv1) m5 h
set_option maxRecDepth 100000 in
set_option maxHeartbeats 4000000 in
theorem s_79_45 (kc : it_Kc) (Φ : it_Me → Prop) (m : it_Me) (h : w_79_45 kc Φ m) : it_V kc it_sh0 79 45 [none, none, none, none] [] m (it_Pv Φ) := by
  rw [w_79_45] at h
  exact it_V.ret it_cd79 it_m79 rfl rfl ⟨rfl, h⟩
set_option maxRecDepth 100000 in
set_option maxHeartbeats 4000000 in
theorem s_79 (kc : it_Kc) (x0 : Nat) (x1 : Int32) (hx0 : it_isP x0) (m : it_Me) (Φ : it_Me → Prop) (h : w_79 kc x0 x1 m Φ) : it_V kc it_sh0 79 0 (it_loc0 [(.ref 9), (.ref x0), (.int x1)] 4) [] m (it_Pv Φ) := by
  rw [w_79] at h
  refine it_V.at (pc1 := 0) (ls1 := [some (.ref 9), some (.ref x0), some (.int x1), none]) (st1 := []) (mem1 := m) rfl rfl rfl rfl ?_
  refine it_V.sN it_cd79 it_m79 2 (pc1 := 2) (ls1 := [some (.ref 9), some (.ref x0), some (.int x1), none]) (st1 := [(.int x1), (.ref x0)]) (mem1 := m) rfl ?_
  refine it_V.putP it_cd79 it_m79 rfl (hx0).1 rfl rfl rfl (Or.inl rfl) ?_
  refine it_V.at (pc1 := 5) (ls1 := [some (.ref 9), some (.ref x0), some (.int x1), none]) (st1 := []) (mem1 := (it_sv m x0 9 x1)) rfl rfl rfl rfl ?_
  refine it_V.sN it_cd79 it_m79 2 (pc1 := 7) (ls1 := [some (.ref 9), some (.ref x0), some (.int x1), none]) (st1 := [(.int (0 : Int32)), (.ref x0)]) (mem1 := (it_sv m x0 9 x1)) rfl ?_
  refine it_V.putP it_cd79 it_m79 rfl (hx0).1 rfl rfl rfl (Or.inl rfl) ?_
  refine it_V.at (pc1 := 10) (ls1 := [some (.ref 9), some (.ref x0), some (.int x1), none]) (st1 := []) (mem1 := (it_sv (it_sv m x0 9 x1) x0 14 (0 : Int32))) rfl rfl rfl rfl ?_
  refine it_V.sN it_cd79 it_m79 2 (pc1 := 12) (ls1 := [some (.ref 9), some (.ref x0), some (.int x1), some (.int (0 : Int32))]) (st1 := []) (mem1 := (it_sv (it_sv m x0 9 x1) x0 14 (0 : Int32))) rfl ?_
  refine it_V.weak (l := [some (.ref 9), some (.ref x0), none, some (.int (0 : Int32))]) ⟨rfl, ⟨rfl, ⟨rfl, trivial⟩⟩⟩ ?_
  obtain ⟨n, h⟩ := h
  exact s_79_12 kc Φ _ (fun m h => s_79_45 kc Φ m h) n x0 (0 : Int32) (hx0) (it_sv (it_sv m x0 9 x1) x0 14 (0 : Int32)) h
set_option maxRecDepth 100000 in
set_option maxHeartbeats 4000000 in
theorem s_77_87 (kc : it_Kc) (Φ : it_Me → Prop) (m : it_Me) (h : w_77_87 kc Φ m) : it_V kc it_sh0 77 87 [none, none, none, none, none] [] m (it_Pv Φ) := by
  rw [w_77_87] at h
  exact it_V.ret it_cd77 it_m77 rfl rfl ⟨rfl, h⟩
set_option maxRecDepth 100000 in
set_option maxHeartbeats 4000000 in
theorem s_77 (kc : it_Kc) (x0 : Nat) (x1 : Int32) (x2 : Int32) (hx0 : it_isP x0) (m : it_Me) (Φ : it_Me → Prop) (h : w_77 kc x0 x1 x2 m Φ) : it_V kc it_sh0 77 0 (it_loc0 [(.ref 9), (.ref x0), (.int x1), (.int x2)] 5) [] m (it_Pv Φ) := by
  rw [w_77] at h
  refine it_V.at (pc1 := 0) (ls1 := [some (.ref 9), some (.ref x0), some (.int x1), some (.int x2), none]) (st1 := []) (mem1 := m) rfl rfl rfl rfl ?_
  refine it_V.sN it_cd77 it_m77 1 (pc1 := 1) (ls1 := [some (.ref 9), some (.ref x0), some (.int x1), some (.int x2), none]) (st1 := [(.ref x0)]) (mem1 := m) rfl ?_
  refine it_V.call it_cd77 it_m77 rfl it_m129 [(.ref x0)] [] rfl rfl ⟨Nat.le_of_ble_eq_true rfl, Nat.le_of_ble_eq_true rfl, Nat.le_of_ble_eq_true rfl, Nat.le_of_ble_eq_true rfl, (it_recvP (hx0).1)⟩ (s_129 kc x0 (hx0) m _ h) ?_
  rintro _ m2 ⟨r1, rfl, h⟩
  refine it_V.at (pc1 := 4) (ls1 := [some (.ref 9), some (.ref x0), some (.int x1), some (.int x2), none]) (st1 := [(.int r1)]) (mem1 := m2) rfl rfl rfl rfl ?_
  refine it_V.sN it_cd77 it_m77 9 (pc1 := 18) (ls1 := [some (.ref 9), some (.ref x0), some (.int x1), some (.int x2), some (.int (r1 + (24 : Int32)))]) (st1 := [(.int ((1 : Int32) + x1)), (.int (r1 + (24 : Int32))), (.ref 1)]) (mem1 := m2) rfl ?_
  refine it_V.call it_cd77 it_m77 rfl it_m13 [(.ref 1), (.int (r1 + (24 : Int32))), (.int ((1 : Int32) + x1))] [] rfl rfl ⟨Nat.le_of_ble_eq_true rfl, Nat.le_of_ble_eq_true rfl, Nat.le_of_ble_eq_true rfl, Nat.le_of_ble_eq_true rfl, rfl⟩ (s_13 kc (r1 + (24 : Int32)) ((1 : Int32) + x1) m2 _ h) ?_
  rintro _ m3 ⟨rfl, h⟩
  refine it_V.at (pc1 := 21) (ls1 := [some (.ref 9), some (.ref x0), some (.int x1), some (.int x2), some (.int (r1 + (24 : Int32)))]) (st1 := []) (mem1 := m3) rfl rfl rfl rfl ?_
  refine it_V.sN it_cd77 it_m77 6 (pc1 := 30) (ls1 := [some (.ref 9), some (.ref x0), some (.int x1), some (.int x2), some (.int (r1 + (24 : Int32)))]) (st1 := [(.int x2), (.int ((r1 + (24 : Int32)) + (4 : Int32))), (.ref 1)]) (mem1 := m3) rfl ?_
  refine it_V.call it_cd77 it_m77 rfl it_m13 [(.ref 1), (.int ((r1 + (24 : Int32)) + (4 : Int32))), (.int x2)] [] rfl rfl ⟨Nat.le_of_ble_eq_true rfl, Nat.le_of_ble_eq_true rfl, Nat.le_of_ble_eq_true rfl, Nat.le_of_ble_eq_true rfl, rfl⟩ (s_13 kc ((r1 + (24 : Int32)) + (4 : Int32)) x2 m3 _ h) ?_
  rintro _ m4 ⟨rfl, h⟩
  refine it_V.at (pc1 := 33) (ls1 := [some (.ref 9), some (.ref x0), some (.int x1), some (.int x2), some (.int (r1 + (24 : Int32)))]) (st1 := []) (mem1 := m4) rfl rfl rfl rfl ?_
  refine it_V.sN it_cd77 it_m77 6 (pc1 := 43) (ls1 := [some (.ref 9), some (.ref x0), some (.int x1), some (.int x2), some (.int (r1 + (24 : Int32)))]) (st1 := [(.ref x0), (.int ((r1 + (24 : Int32)) + (8 : Int32))), (.ref 1)]) (mem1 := m4) rfl ?_
  refine it_V.getP it_cd77 it_m77 rfl (hx0).1 rfl ?_
  refine it_V.at (pc1 := 46) (ls1 := [some (.ref 9), some (.ref x0), some (.int x1), some (.int x2), some (.int (r1 + (24 : Int32)))]) (st1 := [(.int (m4 x0 3)), (.int ((r1 + (24 : Int32)) + (8 : Int32))), (.ref 1)]) (mem1 := m4) rfl rfl rfl rfl ?_
  refine it_V.call it_cd77 it_m77 rfl it_m13 [(.ref 1), (.int ((r1 + (24 : Int32)) + (8 : Int32))), (.int (m4 x0 3))] [] rfl rfl ⟨Nat.le_of_ble_eq_true rfl, Nat.le_of_ble_eq_true rfl, Nat.le_of_ble_eq_true rfl, Nat.le_of_ble_eq_true rfl, rfl⟩ (s_13 kc ((r1 + (24 : Int32)) + (8 : Int32)) (m4 x0 3) m4 _ h) ?_
  rintro _ m5 ⟨rfl, h⟩
  refine it_V.at (pc1 := 49) (ls1 := [some (.ref 9), some (.ref x0), some (.int x1), some (.int x2), some (.int (r1 + (24 : Int32)))]) (st1 := []) (mem1 := m5) rfl rfl rfl rfl ?_
  refine it_V.sN it_cd77 it_m77 3 (pc1 := 54) (ls1 := [some (.ref 9), some (.ref x0), some (.int x1), some (.int x2), some (.int (r1 + (24 : Int32)))]) (st1 := [(.ref x0), (.ref 4)]) (mem1 := m5) rfl ?_
  refine it_V.getP it_cd77 it_m77 rfl (hx0).1 rfl ?_
  refine it_V.at (pc1 := 57) (ls1 := [some (.ref 9), some (.ref x0), some (.int x1), some (.int x2), some (.int (r1 + (24 : Int32)))]) (st1 := [(.int (m5 x0 0)), (.ref 4)]) (mem1 := m5) rfl rfl rfl rfl ?_
  refine it_V.sN it_cd77 it_m77 2 (pc1 := 59) (ls1 := [some (.ref 9), some (.ref x0), some (.int x1), some (.int x2), some (.int (r1 + (24 : Int32)))]) (st1 := [(.int x1), (.int (2 : Int32)), (.int (m5 x0 0)), (.ref 4)]) (mem1 := m5) rfl ?_
  refine it_V.call it_cd77 it_m77 rfl it_m69 [(.ref 4), (.int (m5 x0 0)), (.int (2 : Int32)), (.int x1)] [] rfl rfl ⟨Nat.le_of_ble_eq_true rfl, Nat.le_of_ble_eq_true rfl, Nat.le_of_ble_eq_true rfl, Nat.le_of_ble_eq_true rfl, rfl⟩ (s_69 kc (m5 x0 0) (2 : Int32) x1 m5 _ h) ?_
  rintro _ m6 ⟨rfl, h⟩
  refine it_V.at (pc1 := 62) (ls1 := [some (.ref 9), some (.ref x0), some (.int x1), some (.int x2), some (.int (r1 + (24 : Int32)))]) (st1 := []) (mem1 := m6) rfl rfl rfl rfl ?_
  refine it_V.sN it_cd77 it_m77 1 (pc1 := 63) (ls1 := [some (.ref 9), some (.ref x0), some (.int x1), some (.int x2), some (.int (r1 + (24 : Int32)))]) (st1 := [(.ref x0)]) (mem1 := m6) rfl ?_
  refine it_V.getP it_cd77 it_m77 rfl (hx0).1 rfl ?_
  refine it_V.at (pc1 := 66) (ls1 := [some (.ref 9), some (.ref x0), some (.int x1), some (.int x2), some (.int (r1 + (24 : Int32)))]) (st1 := [(.int (m6 x0 12))]) (mem1 := m6) rfl rfl rfl rfl ?_
  refine it_V.sN it_cd77 it_m77 3 (pc1 := (if (m6 9 8) ≤ (m6 x0 12) then 81 else 73)) (ls1 := [some (.ref 9), some (.ref x0), some (.int x1), some (.int x2), some (.int (r1 + (24 : Int32)))]) (st1 := []) (mem1 := m6) rfl ?_
  refine it_V.ite (fun c7 => ?_) (fun c7 => ?_)
  · have h := h.1 c7
    refine it_V.sN it_cd77 it_m77 3 (pc1 := 84) (ls1 := [some (.ref 9), some (.ref x0), some (.int x1), some (.int x2), some (.int (r1 + (24 : Int32)))]) (st1 := [(.int (5 : Int32)), (.ref x0), (.ref 9)]) (mem1 := m6) rfl ?_
    refine it_V.call it_cd77 it_m77 rfl it_m79 [(.ref 9), (.ref x0), (.int (5 : Int32))] [] rfl rfl ⟨Nat.le_of_ble_eq_true rfl, Nat.le_of_ble_eq_true rfl, Nat.le_of_ble_eq_true rfl, Nat.le_of_ble_eq_true rfl, rfl⟩ (s_79 kc x0 (5 : Int32) (hx0) m6 _ h) ?_
    rintro _ m8 ⟨rfl, h⟩
    refine it_V.at (pc1 := 87) (ls1 := [some (.ref 9), some (.ref x0), some (.int x1), some (.int x2), some (.int (r1 + (24 : Int32)))]) (st1 := []) (mem1 := m8) rfl rfl rfl rfl ?_
    refine it_V.weak (l := [none, none, none, none, none]) trivial ?_
    exact s_77_87 kc Φ m8 h
  · have h := h.2 c7
    refine it_V.sN it_cd77 it_m77 2 (pc1 := 75) (ls1 := [some (.ref 9), some (.ref x0), some (.int x1), some (.int x2), some (.int (r1 + (24 : Int32)))]) (st1 := [(.ref x0), (.ref 9)]) (mem1 := m6) rfl ?_
    refine it_V.call it_cd77 it_m77 rfl it_m76 [(.ref 9), (.ref x0)] [] rfl rfl ⟨Nat.le_of_ble_eq_true rfl, Nat.le_of_ble_eq_true rfl, Nat.le_of_ble_eq_true rfl, Nat.le_of_ble_eq_true rfl, rfl⟩ (s_76 kc x0 (hx0) m6 _ h) ?_
    rintro _ m9 ⟨rfl, h⟩
    refine it_V.at (pc1 := 78) (ls1 := [some (.ref 9), some (.ref x0), some (.int x1), some (.int x2), some (.int (r1 + (24 : Int32)))]) (st1 := []) (mem1 := m9) rfl rfl rfl rfl ?_
    refine it_V.sN it_cd77 it_m77 1 (pc1 := 87) (ls1 := [some (.ref 9), some (.ref x0), some (.int x1), some (.int x2), some (.int (r1 + (24 : Int32)))]) (st1 := []) (mem1 := m9) rfl ?_
    refine it_V.weak (l := [none, none, none, none, none]) trivial ?_
    exact s_77_87 kc Φ m9 h
set_option maxRecDepth 100000 in
set_option maxHeartbeats 4000000 in
theorem s_78 (kc : it_Kc) (x0 : Nat) (x1 : Int32) (hx0 : it_isP x0) (m : it_Me) (Φ : it_Me → Prop) (h : w_78 kc x0 x1 m Φ) : it_V kc it_sh0 78 0 (it_loc0 [(.ref 9), (.ref x0), (.int x1)] 3) [] m (it_Pv Φ) := by
  rw [w_78] at h
  refine it_V.at (pc1 := 0) (ls1 := [some (.ref 9), some (.ref x0), some (.int x1)]) (st1 := []) (mem1 := m) rfl rfl rfl rfl ?_
  refine it_V.sN it_cd78 it_m78 2 (pc1 := 2) (ls1 := [some (.ref 9), some (.ref x0), some (.int x1)]) (st1 := [(.int x1), (.ref x0)]) (mem1 := m) rfl ?_
  refine it_V.putP it_cd78 it_m78 rfl (hx0).1 rfl rfl rfl (Or.inl rfl) ?_
  refine it_V.at (pc1 := 5) (ls1 := [some (.ref 9), some (.ref x0), some (.int x1)]) (st1 := []) (mem1 := (it_sv m x0 11 x1)) rfl rfl rfl rfl ?_
  refine it_V.sN it_cd78 it_m78 3 (pc1 := 10) (ls1 := [some (.ref 9), some (.ref x0), some (.int x1)]) (st1 := [(.ref x0), (.ref 4)]) (mem1 := (it_sv m x0 11 x1)) rfl ?_
  refine it_V.getP it_cd78 it_m78 rfl (hx0).1 rfl ?_
  refine it_V.at (pc1 := 13) (ls1 := [some (.ref 9), some (.ref x0), some (.int x1)]) (st1 := [(.int ((it_sv m x0 11 x1) x0 0)), (.ref 4)]) (mem1 := (it_sv m x0 11 x1)) rfl rfl rfl rfl ?_
  refine it_V.sN it_cd78 it_m78 2 (pc1 := 15) (ls1 := [some (.ref 9), some (.ref x0), some (.int x1)]) (st1 := [(.int x1), (.int (4 : Int32)), (.int ((it_sv m x0 11 x1) x0 0)), (.ref 4)]) (mem1 := (it_sv m x0 11 x1)) rfl ?_
  refine it_V.call it_cd78 it_m78 rfl it_m69 [(.ref 4), (.int ((it_sv m x0 11 x1) x0 0)), (.int (4 : Int32)), (.int x1)] [] rfl rfl ⟨Nat.le_of_ble_eq_true rfl, Nat.le_of_ble_eq_true rfl, Nat.le_of_ble_eq_true rfl, Nat.le_of_ble_eq_true rfl, rfl⟩ (s_69 kc ((it_sv m x0 11 x1) x0 0) (4 : Int32) x1 (it_sv m x0 11 x1) _ h) ?_
  rintro _ m1 ⟨rfl, h⟩
  refine it_V.at (pc1 := 18) (ls1 := [some (.ref 9), some (.ref x0), some (.int x1)]) (st1 := []) (mem1 := m1) rfl rfl rfl rfl ?_
  refine it_V.sN it_cd78 it_m78 3 (pc1 := 21) (ls1 := [some (.ref 9), some (.ref x0), some (.int x1)]) (st1 := [(.int (4 : Int32)), (.ref x0), (.ref 9)]) (mem1 := m1) rfl ?_
  refine it_V.call it_cd78 it_m78 rfl it_m79 [(.ref 9), (.ref x0), (.int (4 : Int32))] [] rfl rfl ⟨Nat.le_of_ble_eq_true rfl, Nat.le_of_ble_eq_true rfl, Nat.le_of_ble_eq_true rfl, Nat.le_of_ble_eq_true rfl, rfl⟩ (s_79 kc x0 (4 : Int32) (hx0) m1 _ h) ?_
  rintro _ m2 ⟨rfl, h⟩
  refine it_V.at (pc1 := 24) (ls1 := [some (.ref 9), some (.ref x0), some (.int x1)]) (st1 := []) (mem1 := m2) rfl rfl rfl rfl ?_
  exact it_V.ret it_cd78 it_m78 rfl rfl ⟨rfl, h⟩
set_option maxRecDepth 100000 in
set_option maxHeartbeats 4000000 in
theorem s_143_51 (kc : it_Kc) (Φ : it_Me → Prop) (m : it_Me) (h : w_143_51 kc Φ m) : it_V kc it_sh0 143 51 [none, none, none, none] [] m (it_Pv Φ) := by
  rw [w_143_51] at h
  exact it_V.ret it_cd143 it_m143 rfl rfl ⟨rfl, h⟩
set_option maxRecDepth 100000 in
set_option maxHeartbeats 4000000 in
theorem s_143 (kc : it_Kc) (k : Nat) (x0 : Int32) (hk : it_isP k) (m : it_Me) (Φ : it_Me → Prop) (h : w_143 kc k x0 m Φ) : it_V kc it_sh0 143 0 (it_loc0 [(.ref k), (.int x0)] 4) [] m (it_Pv Φ) := by
  rw [w_143] at h
  refine it_V.at (pc1 := 0) (ls1 := [some (.ref k), some (.int x0), none, none]) (st1 := []) (mem1 := m) rfl rfl rfl rfl ?_
  refine it_V.sN it_cd143 it_m143 2 (pc1 := (if x0 < 0 then 51 else 4)) (ls1 := [some (.ref k), some (.int x0), none, none]) (st1 := []) (mem1 := m) rfl ?_
  refine it_V.ite (fun c1 => ?_) (fun c1 => ?_)
  · have h := h.1 c1
    refine it_V.weak (l := [none, none, none, none]) trivial ?_
    exact s_143_51 kc Φ m h
  · have h := h.2 c1
    refine it_V.sN it_cd143 it_m143 2 (pc1 := 6) (ls1 := [some (.ref k), some (.int x0), none, none]) (st1 := [(.ref k), (.int x0)]) (mem1 := m) rfl ?_
    refine it_V.getP it_cd143 it_m143 rfl (hk).1 rfl ?_
    refine it_V.at (pc1 := 9) (ls1 := [some (.ref k), some (.int x0), none, none]) (st1 := [(.int (m k 14)), (.int x0)]) (mem1 := m) rfl rfl rfl rfl ?_
    refine it_V.sN it_cd143 it_m143 1 (pc1 := (if (m k 14) ≤ x0 then 51 else 12)) (ls1 := [some (.ref k), some (.int x0), none, none]) (st1 := []) (mem1 := m) rfl ?_
    refine it_V.ite (fun c2 => ?_) (fun c2 => ?_)
    · have h := h.1 c2
      refine it_V.weak (l := [none, none, none, none]) trivial ?_
      exact s_143_51 kc Φ m h
    · have h := h.2 c2
      refine it_V.sN it_cd143 it_m143 9 (pc1 := 21) (ls1 := [some (.ref k), some (.int x0), some (.int (x0 * (5 : Int32))), some (.int ((x0 * (5 : Int32)) + (5 : Int32)))]) (st1 := [(.ref k)]) (mem1 := m) rfl ?_
      refine it_V.getP it_cd143 it_m143 rfl (hk).1 rfl ?_
      refine it_V.at (pc1 := 24) (ls1 := [some (.ref k), some (.int x0), some (.int (x0 * (5 : Int32))), some (.int ((x0 * (5 : Int32)) + (5 : Int32)))]) (st1 := [(.ref (k + 3))]) (mem1 := m) rfl rfl rfl rfl ?_
      refine it_V.sN it_cd143 it_m143 2 (pc1 := 26) (ls1 := [some (.ref k), some (.int x0), some (.int (x0 * (5 : Int32))), some (.int ((x0 * (5 : Int32)) + (5 : Int32)))]) (st1 := [(.ref k), (.int ((x0 * (5 : Int32)) + (5 : Int32))), (.ref (k + 3))]) (mem1 := m) rfl ?_
      refine it_V.getP it_cd143 it_m143 rfl (hk).1 rfl ?_
      refine it_V.at (pc1 := 29) (ls1 := [some (.ref k), some (.int x0), some (.int (x0 * (5 : Int32))), some (.int ((x0 * (5 : Int32)) + (5 : Int32)))]) (st1 := [(.ref (k + 3)), (.int ((x0 * (5 : Int32)) + (5 : Int32))), (.ref (k + 3))]) (mem1 := m) rfl rfl rfl rfl ?_
      refine it_V.sN it_cd143 it_m143 2 (pc1 := 31) (ls1 := [some (.ref k), some (.int x0), some (.int (x0 * (5 : Int32))), some (.int ((x0 * (5 : Int32)) + (5 : Int32)))]) (st1 := [(.ref k), (.int (x0 * (5 : Int32))), (.ref (k + 3)), (.int ((x0 * (5 : Int32)) + (5 : Int32))), (.ref (k + 3))]) (mem1 := m) rfl ?_
      refine it_V.getP it_cd143 it_m143 rfl (hk).1 rfl ?_
      refine it_V.at (pc1 := 34) (ls1 := [some (.ref k), some (.int x0), some (.int (x0 * (5 : Int32))), some (.int ((x0 * (5 : Int32)) + (5 : Int32)))]) (st1 := [(.int (m k 14)), (.int (x0 * (5 : Int32))), (.ref (k + 3)), (.int ((x0 * (5 : Int32)) + (5 : Int32))), (.ref (k + 3))]) (mem1 := m) rfl rfl rfl rfl ?_
      refine it_V.sN it_cd143 it_m143 4 (pc1 := 38) (ls1 := [some (.ref k), some (.int x0), some (.int (x0 * (5 : Int32))), some (.int ((x0 * (5 : Int32)) + (5 : Int32)))]) (st1 := [(.int (((m k 14) * (5 : Int32)) - ((x0 * (5 : Int32)) + (5 : Int32)))), (.int (x0 * (5 : Int32))), (.ref (k + 3)), (.int ((x0 * (5 : Int32)) + (5 : Int32))), (.ref (k + 3))]) (mem1 := m) rfl ?_
      obtain ⟨g3, h⟩ := h
      refine it_V.cpy it_cd143 it_m143 rfl ((hk).2.2.2.1).1 rfl (Nat.le_of_ble_eq_true rfl) (Nat.le_of_ble_eq_true rfl) g3 ?_
      refine it_V.at (pc1 := 41) (ls1 := [some (.ref k), some (.int x0), some (.int (x0 * (5 : Int32))), some (.int ((x0 * (5 : Int32)) + (5 : Int32)))]) (st1 := []) (mem1 := (it_up m (k + 3) (va_cpy (m (k + 3)) (m (k + 3)) (Int32.toNatClampNeg ((x0 * (5 : Int32)) + (5 : Int32))) (Int32.toNatClampNeg (x0 * (5 : Int32))) (Int32.toNatClampNeg (((m k 14) * (5 : Int32)) - ((x0 * (5 : Int32)) + (5 : Int32))))))) rfl rfl rfl rfl ?_
      refine it_V.sN it_cd143 it_m143 2 (pc1 := 43) (ls1 := [some (.ref k), some (.int x0), some (.int (x0 * (5 : Int32))), some (.int ((x0 * (5 : Int32)) + (5 : Int32)))]) (st1 := [(.ref k), (.ref k)]) (mem1 := (it_up m (k + 3) (va_cpy (m (k + 3)) (m (k + 3)) (Int32.toNatClampNeg ((x0 * (5 : Int32)) + (5 : Int32))) (Int32.toNatClampNeg (x0 * (5 : Int32))) (Int32.toNatClampNeg (((m k 14) * (5 : Int32)) - ((x0 * (5 : Int32)) + (5 : Int32))))))) rfl ?_
      refine it_V.getP it_cd143 it_m143 rfl (hk).1 rfl ?_
      refine it_V.at (pc1 := 46) (ls1 := [some (.ref k), some (.int x0), some (.int (x0 * (5 : Int32))), some (.int ((x0 * (5 : Int32)) + (5 : Int32)))]) (st1 := [(.int ((it_up m (k + 3) (va_cpy (m (k + 3)) (m (k + 3)) (Int32.toNatClampNeg ((x0 * (5 : Int32)) + (5 : Int32))) (Int32.toNatClampNeg (x0 * (5 : Int32))) (Int32.toNatClampNeg (((m k 14) * (5 : Int32)) - ((x0 * (5 : Int32)) + (5 : Int32)))))) k 14)), (.ref k)]) (mem1 := (it_up m (k + 3) (va_cpy (m (k + 3)) (m (k + 3)) (Int32.toNatClampNeg ((x0 * (5 : Int32)) + (5 : Int32))) (Int32.toNatClampNeg (x0 * (5 : Int32))) (Int32.toNatClampNeg (((m k 14) * (5 : Int32)) - ((x0 * (5 : Int32)) + (5 : Int32))))))) rfl rfl rfl rfl ?_
      refine it_V.sN it_cd143 it_m143 2 (pc1 := 48) (ls1 := [some (.ref k), some (.int x0), some (.int (x0 * (5 : Int32))), some (.int ((x0 * (5 : Int32)) + (5 : Int32)))]) (st1 := [(.int (((it_up m (k + 3) (va_cpy (m (k + 3)) (m (k + 3)) (Int32.toNatClampNeg ((x0 * (5 : Int32)) + (5 : Int32))) (Int32.toNatClampNeg (x0 * (5 : Int32))) (Int32.toNatClampNeg (((m k 14) * (5 : Int32)) - ((x0 * (5 : Int32)) + (5 : Int32)))))) k 14) - (1 : Int32))), (.ref k)]) (mem1 := (it_up m (k + 3) (va_cpy (m (k + 3)) (m (k + 3)) (Int32.toNatClampNeg ((x0 * (5 : Int32)) + (5 : Int32))) (Int32.toNatClampNeg (x0 * (5 : Int32))) (Int32.toNatClampNeg (((m k 14) * (5 : Int32)) - ((x0 * (5 : Int32)) + (5 : Int32))))))) rfl ?_
      refine it_V.putP it_cd143 it_m143 rfl (hk).1 rfl rfl rfl (Or.inl rfl) ?_
      refine it_V.at (pc1 := 51) (ls1 := [some (.ref k), some (.int x0), some (.int (x0 * (5 : Int32))), some (.int ((x0 * (5 : Int32)) + (5 : Int32)))]) (st1 := []) (mem1 := (it_sv (it_up m (k + 3) (va_cpy (m (k + 3)) (m (k + 3)) (Int32.toNatClampNeg ((x0 * (5 : Int32)) + (5 : Int32))) (Int32.toNatClampNeg (x0 * (5 : Int32))) (Int32.toNatClampNeg (((m k 14) * (5 : Int32)) - ((x0 * (5 : Int32)) + (5 : Int32)))))) k 14 (((it_up m (k + 3) (va_cpy (m (k + 3)) (m (k + 3)) (Int32.toNatClampNeg ((x0 * (5 : Int32)) + (5 : Int32))) (Int32.toNatClampNeg (x0 * (5 : Int32))) (Int32.toNatClampNeg (((m k 14) * (5 : Int32)) - ((x0 * (5 : Int32)) + (5 : Int32)))))) k 14) - (1 : Int32)))) rfl rfl rfl rfl ?_
      refine it_V.weak (l := [none, none, none, none]) trivial ?_
      exact s_143_51 kc Φ (it_sv (it_up m (k + 3) (va_cpy (m (k + 3)) (m (k + 3)) (Int32.toNatClampNeg ((x0 * (5 : Int32)) + (5 : Int32))) (Int32.toNatClampNeg (x0 * (5 : Int32))) (Int32.toNatClampNeg (((m k 14) * (5 : Int32)) - ((x0 * (5 : Int32)) + (5 : Int32)))))) k 14 (((it_up m (k + 3) (va_cpy (m (k + 3)) (m (k + 3)) (Int32.toNatClampNeg ((x0 * (5 : Int32)) + (5 : Int32))) (Int32.toNatClampNeg (x0 * (5 : Int32))) (Int32.toNatClampNeg (((m k 14) * (5 : Int32)) - ((x0 * (5 : Int32)) + (5 : Int32)))))) k 14) - (1 : Int32))) h
set_option maxRecDepth 100000 in
set_option maxHeartbeats 4000000 in
theorem s_81_60 (kc : it_Kc) (Φ : it_Me → Prop) (m : it_Me) (h : w_81_60 kc Φ m) : it_V kc it_sh0 81 60 [none, none, none, none, none] [] m (it_Pv Φ) := by
  rw [w_81_60] at h
  exact it_V.ret it_cd81 it_m81 rfl rfl ⟨rfl, h⟩
set_option maxRecDepth 100000 in
set_option maxHeartbeats 4000000 in
theorem s_81 (kc : it_Kc) (x0 : Nat) (x1 : Int32) (hx0 : it_isP x0) (m : it_Me) (Φ : it_Me → Prop) (h : w_81 kc x0 x1 m Φ) : it_V kc it_sh0 81 0 (it_loc0 [(.ref 9), (.ref x0), (.int x1)] 5) [] m (it_Pv Φ) := by
  rw [w_81] at h
  refine it_V.at (pc1 := 0) (ls1 := [some (.ref 9), some (.ref x0), some (.int x1), none, none]) (st1 := []) (mem1 := m) rfl rfl rfl rfl ?_
  refine it_V.sN it_cd81 it_m81 1 (pc1 := 1) (ls1 := [some (.ref 9), some (.ref x0), some (.int x1), none, none]) (st1 := [(.ref x0)]) (mem1 := m) rfl ?_
  refine it_V.getP it_cd81 it_m81 rfl (hx0).1 rfl ?_
  refine it_V.at (pc1 := 4) (ls1 := [some (.ref 9), some (.ref x0), some (.int x1), none, none]) (st1 := [(.ref (x0 + 3))]) (mem1 := m) rfl rfl rfl rfl ?_
  refine it_V.sN it_cd81 it_m81 7 (pc1 := (if x1 < 0 then 60 else 14)) (ls1 := [some (.ref 9), some (.ref x0), some (.int x1), some (.ref (x0 + 3)), some (.int (x1 * (5 : Int32)))]) (st1 := []) (mem1 := m) rfl ?_
  refine it_V.ite (fun c1 => ?_) (fun c1 => ?_)
  · have h := h.1 c1
    refine it_V.weak (l := [none, none, none, none, none]) trivial ?_
    exact s_81_60 kc Φ m h
  · have h := h.2 c1
    refine it_V.sN it_cd81 it_m81 2 (pc1 := 16) (ls1 := [some (.ref 9), some (.ref x0), some (.int x1), some (.ref (x0 + 3)), some (.int (x1 * (5 : Int32)))]) (st1 := [(.ref x0), (.int x1)]) (mem1 := m) rfl ?_
    refine it_V.getP it_cd81 it_m81 rfl (hx0).1 rfl ?_
    refine it_V.at (pc1 := 19) (ls1 := [some (.ref 9), some (.ref x0), some (.int x1), some (.ref (x0 + 3)), some (.int (x1 * (5 : Int32)))]) (st1 := [(.int (m x0 14)), (.int x1)]) (mem1 := m) rfl rfl rfl rfl ?_
    refine it_V.sN it_cd81 it_m81 1 (pc1 := (if (m x0 14) ≤ x1 then 60 else 22)) (ls1 := [some (.ref 9), some (.ref x0), some (.int x1), some (.ref (x0 + 3)), some (.int (x1 * (5 : Int32)))]) (st1 := []) (mem1 := m) rfl ?_
    refine it_V.ite (fun c2 => ?_) (fun c2 => ?_)
    · have h := h.1 c2
      refine it_V.weak (l := [none, none, none, none, none]) trivial ?_
      exact s_81_60 kc Φ m h
    · have h := h.2 c2
      refine it_V.sN it_cd81 it_m81 4 (pc1 := 27) (ls1 := [some (.ref 9), some (.ref x0), some (.int x1), some (.ref (x0 + 3)), some (.int (x1 * (5 : Int32)))]) (st1 := [(.int (x1 * (5 : Int32))), (.ref (x0 + 3)), (.ref x0), (.ref 9)]) (mem1 := m) rfl ?_
      obtain ⟨g3, h⟩ := h
      refine it_V.iald it_cd81 it_m81 rfl ((hx0).2.2.2.1).2 ((hx0).2.2.2.1).1 g3 ?_
      refine it_V.at (pc1 := 28) (ls1 := [some (.ref 9), some (.ref x0), some (.int x1), some (.ref (x0 + 3)), some (.int (x1 * (5 : Int32)))]) (st1 := [(.int (m (x0 + 3) (Int32.toNatClampNeg (x1 * (5 : Int32))))), (.ref x0), (.ref 9)]) (mem1 := m) rfl rfl rfl rfl ?_
      refine it_V.sN it_cd81 it_m81 4 (pc1 := 33) (ls1 := [some (.ref 9), some (.ref x0), some (.int x1), some (.ref (x0 + 3)), some (.int (x1 * (5 : Int32)))]) (st1 := [(.int ((x1 * (5 : Int32)) + (1 : Int32))), (.ref (x0 + 3)), (.int (m (x0 + 3) (Int32.toNatClampNeg (x1 * (5 : Int32))))), (.ref x0), (.ref 9)]) (mem1 := m) rfl ?_
      obtain ⟨g4, h⟩ := h
      refine it_V.iald it_cd81 it_m81 rfl ((hx0).2.2.2.1).2 ((hx0).2.2.2.1).1 g4 ?_
      refine it_V.at (pc1 := 34) (ls1 := [some (.ref 9), some (.ref x0), some (.int x1), some (.ref (x0 + 3)), some (.int (x1 * (5 : Int32)))]) (st1 := [(.int (m (x0 + 3) (Int32.toNatClampNeg ((x1 * (5 : Int32)) + (1 : Int32))))), (.int (m (x0 + 3) (Int32.toNatClampNeg (x1 * (5 : Int32))))), (.ref x0), (.ref 9)]) (mem1 := m) rfl rfl rfl rfl ?_
      refine it_V.sN it_cd81 it_m81 4 (pc1 := 39) (ls1 := [some (.ref 9), some (.ref x0), some (.int x1), some (.ref (x0 + 3)), some (.int (x1 * (5 : Int32)))]) (st1 := [(.int ((x1 * (5 : Int32)) + (2 : Int32))), (.ref (x0 + 3)), (.int (m (x0 + 3) (Int32.toNatClampNeg ((x1 * (5 : Int32)) + (1 : Int32))))), (.int (m (x0 + 3) (Int32.toNatClampNeg (x1 * (5 : Int32))))), (.ref x0), (.ref 9)]) (mem1 := m) rfl ?_
      obtain ⟨g5, h⟩ := h
      refine it_V.iald it_cd81 it_m81 rfl ((hx0).2.2.2.1).2 ((hx0).2.2.2.1).1 g5 ?_
      refine it_V.at (pc1 := 40) (ls1 := [some (.ref 9), some (.ref x0), some (.int x1), some (.ref (x0 + 3)), some (.int (x1 * (5 : Int32)))]) (st1 := [(.int (m (x0 + 3) (Int32.toNatClampNeg ((x1 * (5 : Int32)) + (2 : Int32))))), (.int (m (x0 + 3) (Int32.toNatClampNeg ((x1 * (5 : Int32)) + (1 : Int32))))), (.int (m (x0 + 3) (Int32.toNatClampNeg (x1 * (5 : Int32))))), (.ref x0), (.ref 9)]) (mem1 := m) rfl rfl rfl rfl ?_
      refine it_V.sN it_cd81 it_m81 4 (pc1 := 45) (ls1 := [some (.ref 9), some (.ref x0), some (.int x1), some (.ref (x0 + 3)), some (.int (x1 * (5 : Int32)))]) (st1 := [(.int ((x1 * (5 : Int32)) + (3 : Int32))), (.ref (x0 + 3)), (.int (m (x0 + 3) (Int32.toNatClampNeg ((x1 * (5 : Int32)) + (2 : Int32))))), (.int (m (x0 + 3) (Int32.toNatClampNeg ((x1 * (5 : Int32)) + (1 : Int32))))), (.int (m (x0 + 3) (Int32.toNatClampNeg (x1 * (5 : Int32))))), (.ref x0), (.ref 9)]) (mem1 := m) rfl ?_
      obtain ⟨g6, h⟩ := h
      refine it_V.iald it_cd81 it_m81 rfl ((hx0).2.2.2.1).2 ((hx0).2.2.2.1).1 g6 ?_
      refine it_V.at (pc1 := 46) (ls1 := [some (.ref 9), some (.ref x0), some (.int x1), some (.ref (x0 + 3)), some (.int (x1 * (5 : Int32)))]) (st1 := [(.int (m (x0 + 3) (Int32.toNatClampNeg ((x1 * (5 : Int32)) + (3 : Int32))))), (.int (m (x0 + 3) (Int32.toNatClampNeg ((x1 * (5 : Int32)) + (2 : Int32))))), (.int (m (x0 + 3) (Int32.toNatClampNeg ((x1 * (5 : Int32)) + (1 : Int32))))), (.int (m (x0 + 3) (Int32.toNatClampNeg (x1 * (5 : Int32))))), (.ref x0), (.ref 9)]) (mem1 := m) rfl rfl rfl rfl ?_
      refine it_V.sN it_cd81 it_m81 4 (pc1 := 51) (ls1 := [some (.ref 9), some (.ref x0), some (.int x1), some (.ref (x0 + 3)), some (.int (x1 * (5 : Int32)))]) (st1 := [(.int ((x1 * (5 : Int32)) + (4 : Int32))), (.ref (x0 + 3)), (.int (m (x0 + 3) (Int32.toNatClampNeg ((x1 * (5 : Int32)) + (3 : Int32))))), (.int (m (x0 + 3) (Int32.toNatClampNeg ((x1 * (5 : Int32)) + (2 : Int32))))), (.int (m (x0 + 3) (Int32.toNatClampNeg ((x1 * (5 : Int32)) + (1 : Int32))))), (.int (m (x0 + 3) (Int32.toNatClampNeg (x1 * (5 : Int32))))), (.ref x0), (.ref 9)]) (mem1 := m) rfl ?_
      obtain ⟨g7, h⟩ := h
      refine it_V.iald it_cd81 it_m81 rfl ((hx0).2.2.2.1).2 ((hx0).2.2.2.1).1 g7 ?_
      refine it_V.at (pc1 := 52) (ls1 := [some (.ref 9), some (.ref x0), some (.int x1), some (.ref (x0 + 3)), some (.int (x1 * (5 : Int32)))]) (st1 := [(.int (m (x0 + 3) (Int32.toNatClampNeg ((x1 * (5 : Int32)) + (4 : Int32))))), (.int (m (x0 + 3) (Int32.toNatClampNeg ((x1 * (5 : Int32)) + (3 : Int32))))), (.int (m (x0 + 3) (Int32.toNatClampNeg ((x1 * (5 : Int32)) + (2 : Int32))))), (.int (m (x0 + 3) (Int32.toNatClampNeg ((x1 * (5 : Int32)) + (1 : Int32))))), (.int (m (x0 + 3) (Int32.toNatClampNeg (x1 * (5 : Int32))))), (.ref x0), (.ref 9)]) (mem1 := m) rfl rfl rfl rfl ?_
      refine it_V.call it_cd81 it_m81 rfl it_m83 [(.ref 9), (.ref x0), (.int (m (x0 + 3) (Int32.toNatClampNeg (x1 * (5 : Int32))))), (.int (m (x0 + 3) (Int32.toNatClampNeg ((x1 * (5 : Int32)) + (1 : Int32))))), (.int (m (x0 + 3) (Int32.toNatClampNeg ((x1 * (5 : Int32)) + (2 : Int32))))), (.int (m (x0 + 3) (Int32.toNatClampNeg ((x1 * (5 : Int32)) + (3 : Int32))))), (.int (m (x0 + 3) (Int32.toNatClampNeg ((x1 * (5 : Int32)) + (4 : Int32)))))] [] rfl rfl ⟨Nat.le_of_ble_eq_true rfl, Nat.le_of_ble_eq_true rfl, Nat.le_of_ble_eq_true rfl, Nat.le_of_ble_eq_true rfl, rfl⟩ (s_83 kc x0 (m (x0 + 3) (Int32.toNatClampNeg (x1 * (5 : Int32)))) (m (x0 + 3) (Int32.toNatClampNeg ((x1 * (5 : Int32)) + (1 : Int32)))) (m (x0 + 3) (Int32.toNatClampNeg ((x1 * (5 : Int32)) + (2 : Int32)))) (m (x0 + 3) (Int32.toNatClampNeg ((x1 * (5 : Int32)) + (3 : Int32)))) (m (x0 + 3) (Int32.toNatClampNeg ((x1 * (5 : Int32)) + (4 : Int32)))) (hx0) m _ h) ?_
      rintro _ m8 ⟨rfl, h⟩
      refine it_V.at (pc1 := 55) (ls1 := [some (.ref 9), some (.ref x0), some (.int x1), some (.ref (x0 + 3)), some (.int (x1 * (5 : Int32)))]) (st1 := []) (mem1 := m8) rfl rfl rfl rfl ?_
      refine it_V.sN it_cd81 it_m81 2 (pc1 := 57) (ls1 := [some (.ref 9), some (.ref x0), some (.int x1), some (.ref (x0 + 3)), some (.int (x1 * (5 : Int32)))]) (st1 := [(.int x1), (.ref x0)]) (mem1 := m8) rfl ?_
      refine it_V.call it_cd81 it_m81 rfl it_m143 [(.ref x0), (.int x1)] [] rfl rfl ⟨Nat.le_of_ble_eq_true rfl, Nat.le_of_ble_eq_true rfl, Nat.le_of_ble_eq_true rfl, Nat.le_of_ble_eq_true rfl, (it_recvP (hx0).1)⟩ (s_143 kc x0 x1 (hx0) m8 _ h) ?_
      rintro _ m9 ⟨rfl, h⟩
      refine it_V.at (pc1 := 60) (ls1 := [some (.ref 9), some (.ref x0), some (.int x1), some (.ref (x0 + 3)), some (.int (x1 * (5 : Int32)))]) (st1 := []) (mem1 := m9) rfl rfl rfl rfl ?_
      refine it_V.weak (l := [none, none, none, none, none]) trivial ?_
      exact s_81_60 kc Φ m9 h
set_option maxRecDepth 100000 in
set_option maxHeartbeats 4000000 in
theorem s_82 (kc : it_Kc) (x0 : Nat) (hx0 : it_isP x0) (m : it_Me) (Φ : it_Me → Prop) (h : w_82 kc x0 m Φ) : it_V kc it_sh0 82 0 (it_loc0 [(.ref 9), (.ref x0)] 4) [] m (it_Pv Φ) := by
  rw [w_82] at h
  refine it_V.at (pc1 := 0) (ls1 := [some (.ref 9), some (.ref x0), none, none]) (st1 := []) (mem1 := m) rfl rfl rfl rfl ?_
  refine it_V.sN it_cd82 it_m82 1 (pc1 := 1) (ls1 := [some (.ref 9), some (.ref x0), none, none]) (st1 := [(.ref x0)]) (mem1 := m) rfl ?_
  refine it_V.getP it_cd82 it_m82 rfl (hx0).1 rfl ?_
  refine it_V.at (pc1 := 4) (ls1 := [some (.ref 9), some (.ref x0), none, none]) (st1 := [(.ref (x0 + 3))]) (mem1 := m) rfl rfl rfl rfl ?_
  refine it_V.sN it_cd82 it_m82 1 (pc1 := 5) (ls1 := [some (.ref 9), some (.ref x0), none, none]) (st1 := [(.int (0 : Int32)), (.ref (x0 + 3))]) (mem1 := m) rfl ?_
  obtain ⟨g1, h⟩ := h
  refine it_V.iald it_cd82 it_m82 rfl ((hx0).2.2.2.1).2 ((hx0).2.2.2.1).1 g1 ?_
  refine it_V.at (pc1 := 6) (ls1 := [some (.ref 9), some (.ref x0), none, none]) (st1 := [(.int (m (x0 + 3) (Int32.toNatClampNeg (0 : Int32))))]) (mem1 := m) rfl rfl rfl rfl ?_
  refine it_V.sN it_cd82 it_m82 2 (pc1 := 8) (ls1 := [some (.ref 9), some (.ref x0), some (.int (m (x0 + 3) (Int32.toNatClampNeg (0 : Int32)))), none]) (st1 := [(.ref x0)]) (mem1 := m) rfl ?_
  refine it_V.getP it_cd82 it_m82 rfl (hx0).1 rfl ?_
  refine it_V.at (pc1 := 11) (ls1 := [some (.ref 9), some (.ref x0), some (.int (m (x0 + 3) (Int32.toNatClampNeg (0 : Int32)))), none]) (st1 := [(.ref (x0 + 3))]) (mem1 := m) rfl rfl rfl rfl ?_
  refine it_V.sN it_cd82 it_m82 1 (pc1 := 12) (ls1 := [some (.ref 9), some (.ref x0), some (.int (m (x0 + 3) (Int32.toNatClampNeg (0 : Int32)))), none]) (st1 := [(.int (1 : Int32)), (.ref (x0 + 3))]) (mem1 := m) rfl ?_
  obtain ⟨g2, h⟩ := h
  refine it_V.iald it_cd82 it_m82 rfl ((hx0).2.2.2.1).2 ((hx0).2.2.2.1).1 g2 ?_
  refine it_V.at (pc1 := 13) (ls1 := [some (.ref 9), some (.ref x0), some (.int (m (x0 + 3) (Int32.toNatClampNeg (0 : Int32)))), none]) (st1 := [(.int (m (x0 + 3) (Int32.toNatClampNeg (1 : Int32))))]) (mem1 := m) rfl rfl rfl rfl ?_
  refine it_V.sN it_cd82 it_m82 4 (pc1 := 17) (ls1 := [some (.ref 9), some (.ref x0), some (.int (m (x0 + 3) (Int32.toNatClampNeg (0 : Int32)))), some (.int (m (x0 + 3) (Int32.toNatClampNeg (1 : Int32))))]) (st1 := [(.int (0 : Int32)), (.ref x0), (.ref 9)]) (mem1 := m) rfl ?_
  refine it_V.call it_cd82 it_m82 rfl it_m81 [(.ref 9), (.ref x0), (.int (0 : Int32))] [] rfl rfl ⟨Nat.le_of_ble_eq_true rfl, Nat.le_of_ble_eq_true rfl, Nat.le_of_ble_eq_true rfl, Nat.le_of_ble_eq_true rfl, rfl⟩ (s_81 kc x0 (0 : Int32) (hx0) m _ h) ?_
  rintro _ m3 ⟨rfl, h⟩
  refine it_V.at (pc1 := 20) (ls1 := [some (.ref 9), some (.ref x0), some (.int (m (x0 + 3) (Int32.toNatClampNeg (0 : Int32)))), some (.int (m (x0 + 3) (Int32.toNatClampNeg (1 : Int32))))]) (st1 := []) (mem1 := m3) rfl rfl rfl rfl ?_
  refine it_V.sN it_cd82 it_m82 4 (pc1 := 24) (ls1 := [some (.ref 9), some (.ref x0), some (.int (m (x0 + 3) (Int32.toNatClampNeg (0 : Int32)))), some (.int (m (x0 + 3) (Int32.toNatClampNeg (1 : Int32))))]) (st1 := [(.int (m (x0 + 3) (Int32.toNatClampNeg (1 : Int32)))), (.int (m (x0 + 3) (Int32.toNatClampNeg (0 : Int32)))), (.ref x0), (.ref 9)]) (mem1 := m3) rfl ?_
  refine it_V.call it_cd82 it_m82 rfl it_m84 [(.ref 9), (.ref x0), (.int (m (x0 + 3) (Int32.toNatClampNeg (0 : Int32)))), (.int (m (x0 + 3) (Int32.toNatClampNeg (1 : Int32))))] [] rfl rfl ⟨Nat.le_of_ble_eq_true rfl, Nat.le_of_ble_eq_true rfl, Nat.le_of_ble_eq_true rfl, Nat.le_of_ble_eq_true rfl, rfl⟩ (s_84 kc x0 (m (x0 + 3) (Int32.toNatClampNeg (0 : Int32))) (m (x0 + 3) (Int32.toNatClampNeg (1 : Int32))) (hx0) m3 _ h) ?_
  rintro _ m4 ⟨rfl, h⟩
  refine it_V.at (pc1 := 27) (ls1 := [some (.ref 9), some (.ref x0), some (.int (m (x0 + 3) (Int32.toNatClampNeg (0 : Int32)))), some (.int (m (x0 + 3) (Int32.toNatClampNeg (1 : Int32))))]) (st1 := []) (mem1 := m4) rfl rfl rfl rfl ?_
  exact it_V.ret it_cd82 it_m82 rfl rfl ⟨rfl, h⟩
set_option maxRecDepth 100000 in
set_option maxHeartbeats 4000000 in
theorem s_86 (kc : it_Kc) (x0 : Int32) (m : it_Me) (Φ : Int32 → it_Me → Prop) (h : w_86 kc x0 m Φ) : it_V kc it_sh0 86 0 (it_loc0 [(.int x0)] 2) [] m (it_Pi Φ) := by
  rw [w_86] at h
  refine it_V.at (pc1 := 0) (ls1 := [some (.int x0), none]) (st1 := []) (mem1 := m) rfl rfl rfl rfl ?_
  refine it_V.sN it_cd86 it_m86 3 (pc1 := 5) (ls1 := [some (.int x0), none]) (st1 := [(.int x0), (.ref (it_K + 2)), (.int (1 : Int32))]) (mem1 := m) rfl ?_
  obtain ⟨g1, h⟩ := h
  refine it_V.kald it_cd86 it_m86 rfl (by decide) g1 ?_
  refine it_V.at (pc1 := 6) (ls1 := [some (.int x0), none]) (st1 := [(.int ((kc 2).2 (Int32.toNatClampNeg x0))), (.int (1 : Int32))]) (mem1 := m) rfl rfl rfl rfl ?_
  refine it_V.sN it_cd86 it_m86 3 (pc1 := 11) (ls1 := [some (.int x0), none]) (st1 := [(.int x0), (.ref (it_K + 3)), (.int ((1 : Int32) + ((kc 2).2 (Int32.toNatClampNeg x0))))]) (mem1 := m) rfl ?_
  obtain ⟨g2, h⟩ := h
  refine it_V.kald it_cd86 it_m86 rfl (by decide) g2 ?_
  refine it_V.at (pc1 := 12) (ls1 := [some (.int x0), none]) (st1 := [(.int ((kc 3).2 (Int32.toNatClampNeg x0))), (.int ((1 : Int32) + ((kc 2).2 (Int32.toNatClampNeg x0))))]) (mem1 := m) rfl rfl rfl rfl ?_
  refine it_V.sN it_cd86 it_m86 3 (pc1 := 17) (ls1 := [some (.int x0), none]) (st1 := [(.int x0), (.ref (it_K + 4)), (.int (((1 : Int32) + ((kc 2).2 (Int32.toNatClampNeg x0))) + ((kc 3).2 (Int32.toNatClampNeg x0))))]) (mem1 := m) rfl ?_
  obtain ⟨g3, h⟩ := h
  refine it_V.kald it_cd86 it_m86 rfl (by decide) g3 ?_
  refine it_V.at (pc1 := 18) (ls1 := [some (.int x0), none]) (st1 := [(.int ((kc 4).2 (Int32.toNatClampNeg x0))), (.int (((1 : Int32) + ((kc 2).2 (Int32.toNatClampNeg x0))) + ((kc 3).2 (Int32.toNatClampNeg x0))))]) (mem1 := m) rfl rfl rfl rfl ?_
  refine it_V.sN it_cd86 it_m86 8 (pc1 := 29) (ls1 := [some (.int x0), some (.int ((((1 : Int32) + ((kc 2).2 (Int32.toNatClampNeg x0))) + ((kc 3).2 (Int32.toNatClampNeg x0))) + ((kc 4).2 (Int32.toNatClampNeg x0))))]) (st1 := [(.int x0), (.ref (it_K + 1)), (.int (4 : Int32)), (.int ((8 : Int32) * ((((1 : Int32) + ((kc 2).2 (Int32.toNatClampNeg x0))) + ((kc 3).2 (Int32.toNatClampNeg x0))) + ((kc 4).2 (Int32.toNatClampNeg x0)))))]) (mem1 := m) rfl ?_
  obtain ⟨g4, h⟩ := h
  refine it_V.kald it_cd86 it_m86 rfl (by decide) g4 ?_
  refine it_V.at (pc1 := 30) (ls1 := [some (.int x0), some (.int ((((1 : Int32) + ((kc 2).2 (Int32.toNatClampNeg x0))) + ((kc 3).2 (Int32.toNatClampNeg x0))) + ((kc 4).2 (Int32.toNatClampNeg x0))))]) (st1 := [(.int ((kc 1).2 (Int32.toNatClampNeg x0))), (.int (4 : Int32)), (.int ((8 : Int32) * ((((1 : Int32) + ((kc 2).2 (Int32.toNatClampNeg x0))) + ((kc 3).2 (Int32.toNatClampNeg x0))) + ((kc 4).2 (Int32.toNatClampNeg x0)))))]) (mem1 := m) rfl rfl rfl rfl ?_
  refine it_V.sN it_cd86 it_m86 2 (pc1 := 32) (ls1 := [some (.int x0), some (.int ((((1 : Int32) + ((kc 2).2 (Int32.toNatClampNeg x0))) + ((kc 3).2 (Int32.toNatClampNeg x0))) + ((kc 4).2 (Int32.toNatClampNeg x0))))]) (st1 := [(.int (((8 : Int32) * ((((1 : Int32) + ((kc 2).2 (Int32.toNatClampNeg x0))) + ((kc 3).2 (Int32.toNatClampNeg x0))) + ((kc 4).2 (Int32.toNatClampNeg x0)))) + ((4 : Int32) * ((kc 1).2 (Int32.toNatClampNeg x0)))))]) (mem1 := m) rfl ?_
  exact it_V.ret it_cd86 it_m86 rfl rfl ⟨_, rfl, h⟩
set_option maxRecDepth 100000 in
set_option maxHeartbeats 4000000 in
theorem s_85_14 (kc : it_Kc) (Φ : Int32 → it_Me → Prop) (m : it_Me) (h : w_85_14 kc Φ m) : it_V kc it_sh0 85 14 [none, none, none, none, none] [] m (it_Pi Φ) := by
  rw [w_85_14] at h
  refine it_V.sN it_cd85 it_m85 1 (pc1 := 15) (ls1 := [none, none, none, none, none]) (st1 := [(.int (1 : Int32))]) (mem1 := m) rfl ?_
  exact it_V.ret it_cd85 it_m85 rfl rfl ⟨_, rfl, h⟩
set_option maxRecDepth 100000 in
set_option maxHeartbeats 4000000 in
theorem s_85_84 (kc : it_Kc) (Φ : Int32 → it_Me → Prop) (v1 : Nat) (v2 : Int32) (v4 : Int32) (u1 : Int32) (u2 : Int32) (hv1 : it_isP v1) (m : it_Me) (h : w_85_84 kc Φ v1 v2 v4 u1 u2 m) : it_V kc it_sh0 85 84 [none, some (.ref v1), some (.int v2), none, some (.int v4)] [(.int u2), (.int u1), (.ref 1)] m (it_Pi Φ) := by
  rw [w_85_84] at h
  refine it_V.call it_cd85 it_m85 rfl it_m13 [(.ref 1), (.int u1), (.int u2)] [] rfl rfl ⟨Nat.le_of_ble_eq_true rfl, Nat.le_of_ble_eq_true rfl, Nat.le_of_ble_eq_true rfl, Nat.le_of_ble_eq_true rfl, rfl⟩ (s_13 kc u1 u2 m _ h) ?_
  rintro _ m1 ⟨rfl, h⟩
  refine it_V.at (pc1 := 87) (ls1 := [none, some (.ref v1), some (.int v2), none, some (.int v4)]) (st1 := []) (mem1 := m1) rfl rfl rfl rfl ?_
  refine it_V.sN it_cd85 it_m85 2 (pc1 := 90) (ls1 := [none, some (.ref v1), some (.int v2), none, some (.int v4)]) (st1 := [(.int v4), (.ref v1)]) (mem1 := m1) rfl ?_
  refine it_V.putP it_cd85 it_m85 rfl (hv1).1 rfl rfl rfl (Or.inl rfl) ?_
  refine it_V.at (pc1 := 93) (ls1 := [none, some (.ref v1), some (.int v2), none, some (.int v4)]) (st1 := []) (mem1 := (it_sv m1 v1 8 v4)) rfl rfl rfl rfl ?_
  refine it_V.sN it_cd85 it_m85 1 (pc1 := 94) (ls1 := [none, some (.ref v1), some (.int v2), none, some (.int v4)]) (st1 := [(.ref v1)]) (mem1 := (it_sv m1 v1 8 v4)) rfl ?_
  refine it_V.getP it_cd85 it_m85 rfl (hv1).1 rfl ?_
  refine it_V.at (pc1 := 97) (ls1 := [none, some (.ref v1), some (.int v2), none, some (.int v4)]) (st1 := [(.ref (v1 + 4))]) (mem1 := (it_sv m1 v1 8 v4)) rfl rfl rfl rfl ?_
  refine it_V.sN it_cd85 it_m85 2 (pc1 := 100) (ls1 := [none, some (.ref v1), some (.int v2), none, some (.int v4)]) (st1 := [(.int v4), (.int v2), (.ref (v1 + 4))]) (mem1 := (it_sv m1 v1 8 v4)) rfl ?_
  obtain ⟨g2, h⟩ := h
  refine it_V.iast it_cd85 it_m85 rfl ((hv1).2.2.2.2).1 g2 ?_
  refine it_V.at (pc1 := 101) (ls1 := [none, some (.ref v1), some (.int v2), none, some (.int v4)]) (st1 := []) (mem1 := (it_sv (it_sv m1 v1 8 v4) (v1 + 4) (Int32.toNatClampNeg v2) v4)) rfl rfl rfl rfl ?_
  refine it_V.sN it_cd85 it_m85 2 (pc1 := 103) (ls1 := [none, some (.ref v1), some (.int v2), none, some (.int v4)]) (st1 := [(.ref v1), (.ref v1)]) (mem1 := (it_sv (it_sv m1 v1 8 v4) (v1 + 4) (Int32.toNatClampNeg v2) v4)) rfl ?_
  refine it_V.getP it_cd85 it_m85 rfl (hv1).1 rfl ?_
  refine it_V.at (pc1 := 106) (ls1 := [none, some (.ref v1), some (.int v2), none, some (.int v4)]) (st1 := [(.int ((it_sv (it_sv m1 v1 8 v4) (v1 + 4) (Int32.toNatClampNeg v2) v4) v1 18)), (.ref v1)]) (mem1 := (it_sv (it_sv m1 v1 8 v4) (v1 + 4) (Int32.toNatClampNeg v2) v4)) rfl rfl rfl rfl ?_
  refine it_V.sN it_cd85 it_m85 2 (pc1 := 108) (ls1 := [none, some (.ref v1), some (.int v2), none, some (.int v4)]) (st1 := [(.int (((it_sv (it_sv m1 v1 8 v4) (v1 + 4) (Int32.toNatClampNeg v2) v4) v1 18) + (1 : Int32))), (.ref v1)]) (mem1 := (it_sv (it_sv m1 v1 8 v4) (v1 + 4) (Int32.toNatClampNeg v2) v4)) rfl ?_
  refine it_V.putP it_cd85 it_m85 rfl (hv1).1 rfl rfl rfl (Or.inl rfl) ?_
  refine it_V.at (pc1 := 111) (ls1 := [none, some (.ref v1), some (.int v2), none, some (.int v4)]) (st1 := []) (mem1 := (it_sv (it_sv (it_sv m1 v1 8 v4) (v1 + 4) (Int32.toNatClampNeg v2) v4) v1 18 (((it_sv (it_sv m1 v1 8 v4) (v1 + 4) (Int32.toNatClampNeg v2) v4) v1 18) + (1 : Int32)))) rfl rfl rfl rfl ?_
  refine it_V.sN it_cd85 it_m85 1 (pc1 := 112) (ls1 := [none, some (.ref v1), some (.int v2), none, some (.int v4)]) (st1 := [(.int (1 : Int32))]) (mem1 := (it_sv (it_sv (it_sv m1 v1 8 v4) (v1 + 4) (Int32.toNatClampNeg v2) v4) v1 18 (((it_sv (it_sv m1 v1 8 v4) (v1 + 4) (Int32.toNatClampNeg v2) v4) v1 18) + (1 : Int32)))) rfl ?_
  exact it_V.ret it_cd85 it_m85 rfl rfl ⟨_, rfl, h⟩
set_option maxRecDepth 100000 in
set_option maxHeartbeats 4000000 in
theorem s_85 (kc : it_Kc) (x0 : Nat) (x1 : Int32) (hx0 : it_isP x0) (m : it_Me) (Φ : Int32 → it_Me → Prop) (h : w_85 kc x0 x1 m Φ) : it_V kc it_sh0 85 0 (it_loc0 [(.ref 9), (.ref x0), (.int x1)] 5) [] m (it_Pi Φ) := by
  rw [w_85] at h
  refine it_V.at (pc1 := 0) (ls1 := [some (.ref 9), some (.ref x0), some (.int x1), none, none]) (st1 := []) (mem1 := m) rfl rfl rfl rfl ?_
  refine it_V.sN it_cd85 it_m85 3 (pc1 := (if x1 = (2 : Int32) then 14 else 5)) (ls1 := [some (.ref 9), some (.ref x0), some (.int x1), none, none]) (st1 := []) (mem1 := m) rfl ?_
  refine it_V.ite (fun c1 => ?_) (fun c1 => ?_)
  · have h := h.1 c1
    refine it_V.weak (l := [none, none, none, none, none]) trivial ?_
    exact s_85_14 kc Φ m h
  · have h := h.2 c1
    refine it_V.sN it_cd85 it_m85 1 (pc1 := 6) (ls1 := [some (.ref 9), some (.ref x0), some (.int x1), none, none]) (st1 := [(.ref x0)]) (mem1 := m) rfl ?_
    refine it_V.getP it_cd85 it_m85 rfl (hx0).1 rfl ?_
    refine it_V.at (pc1 := 9) (ls1 := [some (.ref 9), some (.ref x0), some (.int x1), none, none]) (st1 := [(.ref (x0 + 4))]) (mem1 := m) rfl rfl rfl rfl ?_
    refine it_V.sN it_cd85 it_m85 1 (pc1 := 10) (ls1 := [some (.ref 9), some (.ref x0), some (.int x1), none, none]) (st1 := [(.int x1), (.ref (x0 + 4))]) (mem1 := m) rfl ?_
    obtain ⟨g2, h⟩ := h
    refine it_V.iald it_cd85 it_m85 rfl ((hx0).2.2.2.2).2 ((hx0).2.2.2.2).1 g2 ?_
    refine it_V.at (pc1 := 11) (ls1 := [some (.ref 9), some (.ref x0), some (.int x1), none, none]) (st1 := [(.int (m (x0 + 4) (Int32.toNatClampNeg x1)))]) (mem1 := m) rfl rfl rfl rfl ?_
    refine it_V.sN it_cd85 it_m85 1 (pc1 := (if (m (x0 + 4) (Int32.toNatClampNeg x1)) = 0 then 16 else 14)) (ls1 := [some (.ref 9), some (.ref x0), some (.int x1), none, none]) (st1 := []) (mem1 := m) rfl ?_
    refine it_V.ite (fun c3 => ?_) (fun c3 => ?_)
    · have h := h.1 c3
      refine it_V.sN it_cd85 it_m85 1 (pc1 := 17) (ls1 := [some (.ref 9), some (.ref x0), some (.int x1), none, none]) (st1 := [(.int x1)]) (mem1 := m) rfl ?_
      refine it_V.call it_cd85 it_m85 rfl it_m86 [(.int x1)] [] rfl rfl ⟨Nat.le_of_ble_eq_true rfl, Nat.le_of_ble_eq_true rfl, Nat.le_of_ble_eq_true rfl, Nat.le_of_ble_eq_true rfl, rfl⟩ (s_86 kc x1 m _ h) ?_
      rintro _ m5 ⟨r4, rfl, h⟩
      refine it_V.at (pc1 := 20) (ls1 := [some (.ref 9), some (.ref x0), some (.int x1), none, none]) (st1 := [(.int r4)]) (mem1 := m5) rfl rfl rfl rfl ?_
      refine it_V.sN it_cd85 it_m85 2 (pc1 := 22) (ls1 := [some (.ref 9), some (.ref x0), some (.int x1), some (.int r4), none]) (st1 := [(.ref x0)]) (mem1 := m5) rfl ?_
      refine it_V.getP it_cd85 it_m85 rfl (hx0).1 rfl ?_
      refine it_V.at (pc1 := 25) (ls1 := [some (.ref 9), some (.ref x0), some (.int x1), some (.int r4), none]) (st1 := [(.int (m5 x0 8))]) (mem1 := m5) rfl rfl rfl rfl ?_
      refine it_V.sN it_cd85 it_m85 5 (pc1 := 32) (ls1 := [some (.ref 9), some (.ref x0), some (.int x1), some (.int r4), some (.int ((m5 x0 8) - r4))]) (st1 := [(.ref x0), (.int ((m5 x0 8) - r4))]) (mem1 := m5) rfl ?_
      refine it_V.getP it_cd85 it_m85 rfl (hx0).1 rfl ?_
      refine it_V.at (pc1 := 35) (ls1 := [some (.ref 9), some (.ref x0), some (.int x1), some (.int r4), some (.int ((m5 x0 8) - r4))]) (st1 := [(.int (m5 x0 7)), (.int ((m5 x0 8) - r4))]) (mem1 := m5) rfl rfl rfl rfl ?_
      refine it_V.sN it_cd85 it_m85 1 (pc1 := (if (m5 x0 7) ≤ ((m5 x0 8) - r4) then 40 else 38)) (ls1 := [some (.ref 9), some (.ref x0), some (.int x1), some (.int r4), some (.int ((m5 x0 8) - r4))]) (st1 := []) (mem1 := m5) rfl ?_
      refine it_V.ite (fun c6 => ?_) (fun c6 => ?_)
      · have h := h.1 c6
        refine it_V.sN it_cd85 it_m85 5 (pc1 := 48) (ls1 := [some (.ref 9), some (.ref x0), some (.int x1), some (.int r4), some (.int ((m5 x0 8) - r4))]) (st1 := [(.int (0 : Int32)), (.int r4), (.int ((m5 x0 8) - r4)), (.ref 1)]) (mem1 := m5) rfl ?_
        refine it_V.call it_cd85 it_m85 rfl it_m18 [(.ref 1), (.int ((m5 x0 8) - r4)), (.int r4), (.int (0 : Int32))] [] rfl rfl ⟨Nat.le_of_ble_eq_true rfl, Nat.le_of_ble_eq_true rfl, Nat.le_of_ble_eq_true rfl, Nat.le_of_ble_eq_true rfl, rfl⟩ (s_18 kc ((m5 x0 8) - r4) r4 (0 : Int32) m5 _ h) ?_
        rintro _ m7 ⟨rfl, h⟩
        refine it_V.at (pc1 := 51) (ls1 := [some (.ref 9), some (.ref x0), some (.int x1), some (.int r4), some (.int ((m5 x0 8) - r4))]) (st1 := []) (mem1 := m7) rfl rfl rfl rfl ?_
        refine it_V.sN it_cd85 it_m85 4 (pc1 := 58) (ls1 := [some (.ref 9), some (.ref x0), some (.int x1), some (.int r4), some (.int ((m5 x0 8) - r4))]) (st1 := [(.int x1), (.int ((m5 x0 8) - r4)), (.ref 1)]) (mem1 := m7) rfl ?_
        refine it_V.call it_cd85 it_m85 rfl it_m13 [(.ref 1), (.int ((m5 x0 8) - r4)), (.int x1)] [] rfl rfl ⟨Nat.le_of_ble_eq_true rfl, Nat.le_of_ble_eq_true rfl, Nat.le_of_ble_eq_true rfl, Nat.le_of_ble_eq_true rfl, rfl⟩ (s_13 kc ((m5 x0 8) - r4) x1 m7 _ h) ?_
        rintro _ m8 ⟨rfl, h⟩
        refine it_V.at (pc1 := 61) (ls1 := [some (.ref 9), some (.ref x0), some (.int x1), some (.int r4), some (.int ((m5 x0 8) - r4))]) (st1 := []) (mem1 := m8) rfl rfl rfl rfl ?_
        refine it_V.sN it_cd85 it_m85 6 (pc1 := 70) (ls1 := [some (.ref 9), some (.ref x0), some (.int x1), some (.int r4), some (.int ((m5 x0 8) - r4))]) (st1 := [(.ref x0), (.int (((m5 x0 8) - r4) + (4 : Int32))), (.ref 1)]) (mem1 := m8) rfl ?_
        refine it_V.getP it_cd85 it_m85 rfl (hx0).1 rfl ?_
        refine it_V.at (pc1 := 73) (ls1 := [some (.ref 9), some (.ref x0), some (.int x1), some (.int r4), some (.int ((m5 x0 8) - r4))]) (st1 := [(.int (m8 x0 18)), (.int (((m5 x0 8) - r4) + (4 : Int32))), (.ref 1)]) (mem1 := m8) rfl rfl rfl rfl ?_
        refine it_V.sN it_cd85 it_m85 1 (pc1 := (if (m8 x0 18) = 0 then 76 else 80)) (ls1 := [some (.ref 9), some (.ref x0), some (.int x1), some (.int r4), some (.int ((m5 x0 8) - r4))]) (st1 := [(.int (((m5 x0 8) - r4) + (4 : Int32))), (.ref 1)]) (mem1 := m8) rfl ?_
        refine it_V.ite (fun c9 => ?_) (fun c9 => ?_)
        · have h := h.1 c9
          refine it_V.sN it_cd85 it_m85 2 (pc1 := 84) (ls1 := [some (.ref 9), some (.ref x0), some (.int x1), some (.int r4), some (.int ((m5 x0 8) - r4))]) (st1 := [(.int (0 : Int32)), (.int (((m5 x0 8) - r4) + (4 : Int32))), (.ref 1)]) (mem1 := m8) rfl ?_
          refine it_V.weak (l := [none, some (.ref x0), some (.int x1), none, some (.int ((m5 x0 8) - r4))]) ⟨rfl, ⟨rfl, ⟨rfl, trivial⟩⟩⟩ ?_
          exact s_85_84 kc Φ x0 x1 ((m5 x0 8) - r4) (((m5 x0 8) - r4) + (4 : Int32)) (0 : Int32) (hx0) m8 h
        · have h := h.2 c9
          refine it_V.sN it_cd85 it_m85 1 (pc1 := 81) (ls1 := [some (.ref 9), some (.ref x0), some (.int x1), some (.int r4), some (.int ((m5 x0 8) - r4))]) (st1 := [(.ref x0), (.int (((m5 x0 8) - r4) + (4 : Int32))), (.ref 1)]) (mem1 := m8) rfl ?_
          refine it_V.getP it_cd85 it_m85 rfl (hx0).1 rfl ?_
          refine it_V.at (pc1 := 84) (ls1 := [some (.ref 9), some (.ref x0), some (.int x1), some (.int r4), some (.int ((m5 x0 8) - r4))]) (st1 := [(.int (m8 x0 8)), (.int (((m5 x0 8) - r4) + (4 : Int32))), (.ref 1)]) (mem1 := m8) rfl rfl rfl rfl ?_
          refine it_V.weak (l := [none, some (.ref x0), some (.int x1), none, some (.int ((m5 x0 8) - r4))]) ⟨rfl, ⟨rfl, ⟨rfl, trivial⟩⟩⟩ ?_
          exact s_85_84 kc Φ x0 x1 ((m5 x0 8) - r4) (((m5 x0 8) - r4) + (4 : Int32)) (m8 x0 8) (hx0) m8 h
      · have h := h.2 c6
        refine it_V.sN it_cd85 it_m85 1 (pc1 := 39) (ls1 := [some (.ref 9), some (.ref x0), some (.int x1), some (.int r4), some (.int ((m5 x0 8) - r4))]) (st1 := [(.int (0 : Int32))]) (mem1 := m5) rfl ?_
        exact it_V.ret it_cd85 it_m85 rfl rfl ⟨_, rfl, h⟩
    · have h := h.2 c3
      refine it_V.weak (l := [none, none, none, none, none]) trivial ?_
      exact s_85_14 kc Φ m h
