/-! Commands: permissions, which there are. -/
def pmQ (m : it_Me) (P d c : Int32) (k : Nat) : Prop := gw m (P + nI (8 * k)) = d ∧ (it_us (gw m (P + nI (8 * k) + 4)) c) &&& 1 = 1
theorem c_9L {kc : it_Kc} {m : it_Me} {v0 N : Nat} {P d c : Int32} (hP : m v0 13 = P) (hN : m v0 14 = nI (8 * N)) (hN8 : N ≤ 8) {Φ : Int32 → it_Me → Prop} {K79 K87 : it_Me → Prop} : ∀ (r k : Nat), k + r = N → ((∃ j, k ≤ j ∧ j < N ∧ pmQ m P d c j) → K79 m) → ((∀ j, k ≤ j → j < N → ¬ pmQ m P d c j) → K87 m) → w_9_27 kc Φ K79 K87 (r + 1) v0 d c (nI (8 * k)) m := by
  intro r
  induction r with
  | zero =>
    intro k hk h1 h0
    unfold w_9_27
    rw [hN, nLe (by omega) (by omega)]
    exact ⟨fun _ => h0 (fun j a b => absurd b (by omega)), fun q => absurd (by omega) q⟩
  | succ r ih =>
    intro k hk h1 h0
    unfold w_9_27 w_9_81
    rw [hN, nLe (by omega) (by omega), hP, n_8]
    have nxt : ¬ pmQ m P d c k → w_9_27 kc Φ K79 K87 (r + 1) v0 d c (nI (8 * k + 8)) m := fun q => ih (k + 1) (by omega) (fun ⟨j, a, b, g⟩ => h1 ⟨j, by omega, b, g⟩) (fun g => h0 (fun j a b => by
      by_cases e : j = k
      · rw [e]; exact q
      · exact g j (by omega) b))
    refine ⟨fun q => absurd q (by omega), fun _ => c_12 ?_⟩
    rw [hP]
    exact c_12 ⟨fun q1 => ⟨fun q2 => h1 ⟨k, Nat.le_refl _, by omega, q1, q2⟩, fun q2 => nxt (fun g => q2 g.2)⟩, fun q1 => nxt (fun g => q1 g.1)⟩
theorem r_294L {kc : it_Kc} {B : Nat} {m M : it_Me} (hI : Inv B m) (hR : Rel m M) {i N : Nat} (i8 : i < 8) {P d c : Int32} (hP : M 87 i = P) (hN : M 88 i = nI (8 * N)) (hPI : 65536 ≤ P.toInt ∧ P.toInt % 4 = 0 ∧ P.toInt + 8 * N ≤ 126976) (hN8 : N ≤ 8) {Φ : Int32 → it_Me → Prop} {K : Int32 → it_Me → Prop} : ∀ (r k : Nat) (v4 : Int32), k + r = N → (v4 = 0 ∨ v4 = 1) → ((v4 = 1 ∧ ∀ j, k ≤ j → j < N → ¬ ((0 < c.toInt ∧ c.toInt < 32) ∧ pmQ m P d c j)) → K 1 M) → (¬ (v4 = 1 ∧ ∀ j, k ≤ j → j < N → ¬ ((0 < c.toInt ∧ c.toInt < 32) ∧ pmQ m P d c j)) → K 0 M) → w_294_22 kc Φ K (r + 1) (nI i) d c v4 (nI (8 * k)) M := by
  have z0 : (0 : Int32).toInt = 0 := rfl
  have z32 : (32 : Int32).toInt = 32 := rfl
  intro r
  induction r with
  | zero =>
    intro k v4 hk hv h1 h0
    unfold w_294_22
    rw [cI i8, hN, nLe (by omega) (by omega)]
    refine ⟨vI i8, fun _ => ?_, fun q => absurd (by omega) q⟩
    rcases hv with e | e
    · subst e
      exact h0 (fun g => absurd g.1 (by decide))
    · subst e
      exact h1 ⟨rfl, fun j a b => absurd b (by omega)⟩
  | succ r ih =>
    intro k v4 hk hv h1 h0
    have F : ∀ u0 : Int32, (u0 = 0 ∨ u0 = 1) → (u0 = 1 ↔ ((0 < c.toInt ∧ c.toInt < 32) ∧ pmQ m P d c k)) → w_294_88 kc Φ (w_294_22 kc Φ K (r + 1)) K (nI i) d c v4 (nI (8 * k)) u0 M := fun u0 hu0 hu => by
      have X0 : (v4 = 0 ∨ ((0 < c.toInt ∧ c.toInt < 32) ∧ pmQ m P d c k)) → w_294_22 kc Φ K (r + 1) (nI i) d c 0 (nI (8 * k + 8)) M := fun g => ih (k + 1) 0 (by omega) (Or.inl rfl) (fun y => absurd y.1 (by decide)) (fun _ => h0 (fun y => by
        rcases g with g | g
        · rw [g] at y
          exact absurd y.1 (by decide)
        · exact y.2 k (Nat.le_refl _) (by omega) g))
      have X1 : v4 = 1 → ¬ ((0 < c.toInt ∧ c.toInt < 32) ∧ pmQ m P d c k) → w_294_22 kc Φ K (r + 1) (nI i) d c 1 (nI (8 * k + 8)) M := fun g1 g2 => ih (k + 1) 1 (by omega) (Or.inr rfl) (fun y => h1 ⟨g1, fun j a b => by
        by_cases e : j = k
        · rw [e]; exact g2
        · exact y.2 j (by omega) b⟩) (fun y => h0 (fun g => y ⟨rfl, fun j a b => g.2 j (by omega) b⟩))
      unfold w_294_88 w_294_104 w_294_105
      rw [n_8]
      refine ⟨fun q => X0 (Or.inl q), fun q => ⟨fun q2 => X1 (hv.resolve_left q) (fun g => ?_), fun q2 => X0 (Or.inr (hu.1 (hu0.resolve_left q2)))⟩⟩
      have := hu.2 g
      rw [q2] at this
      exact absurd this (by decide)
    have a1 := adI (a := P) (k := 8 * k) (by omega) (by omega) (by omega)
    have a2 := adI (a := P) (k := 8 * k + 4) (by omega) (by omega) (by omega)
    have A1 := nexA hI (a := P + nI (8 * k)) (Or.inl (by omega))
    have A2 := nexA hI (a := P + nI (8 * k) + 4) (Or.inl (by rw [ga4]; omega))
    have no : ∀ u : Prop, (¬ u) → ((0 : Int32) = 1 ↔ u) := fun u hu => ⟨fun q => absurd q (by decide), fun q => absurd q hu⟩
    unfold w_294_22 w_294_87
    rw [cI i8, hN, nLe (by omega) (by omega), hP]
    refine ⟨vI i8, fun q => absurd q (by omega), fun _ => ⟨vI i8, r_220 hR A1.1 (by omega) A1.2 ⟨fun q1 => ⟨fun q2 => F 0 (Or.inl rfl) (no _ (fun g => ?_)), fun q2 => ⟨fun q3 => F 0 (Or.inl rfl) (no _ (fun g => ?_)), fun q3 => ⟨vI i8, ?_⟩⟩⟩, fun q1 => F 0 (Or.inl rfl) (no _ (fun g => q1 g.2.1))⟩⟩⟩
    · rw [Int32.le_iff_toInt_le] at q2
      omega
    · rw [Int32.le_iff_toInt_le] at q3
      omega
    · rw [hP]
      refine r_220 hR A2.1 (by rw [ga4]; omega) A2.2 ⟨fun q4 => F 1 (Or.inr rfl) ⟨fun _ => ⟨?_, q1, q4⟩, fun _ => rfl⟩, fun q4 => F 0 (Or.inl rfl) (no _ (fun g => q4 g.2.2))⟩
      rw [Int32.le_iff_toInt_le] at q2 q3
      omega
def pmP (m : it_Me) (i : Nat) (d c : Int32) : Prop := m (14 + 5 * i + 1) 13 = 0 ∨ c = 0 ∨ (0 < c.toInt ∧ c.toInt < 32) ∧ ∃ j, j < ((m (14 + 5 * i + 1) 14).toInt / 8).toNat ∧ pmQ m (m (14 + 5 * i + 1) 13) d c j
theorem pmN {m : it_Me} {i : Nat} (hP : PI m i) (h : m (14 + 5 * i + 1) 13 ≠ 0) : 65536 ≤ (m (14 + 5 * i + 1) 13).toInt ∧ (m (14 + 5 * i + 1) 13).toInt % 4 = 0 ∧ (m (14 + 5 * i + 1) 13).toInt + 8 * (((m (14 + 5 * i + 1) 14).toInt / 8).toNat : Nat) ≤ 126976 ∧ ((m (14 + 5 * i + 1) 14).toInt / 8).toNat ≤ 8 ∧ m (14 + 5 * i + 1) 14 = nI (8 * ((m (14 + 5 * i + 1) 14).toInt / 8).toNat) := by
  rcases hP.pm with q | q
  · exact absurd q h
  · refine ⟨q.1, q.2.1, by omega, by omega, Int32.toInt_inj.mp ?_⟩
    rw [nI_toInt (by omega)]
    omega
theorem c_9 {kc : it_Kc} {m : it_Me} {i : Nat} (hP : PI m i) {d c : Int32} {Φ : Int32 → it_Me → Prop} (h : Φ (bI (pmP m i d c)) m) : w_9 kc (14 + 5 * i + 1) d c m Φ := by
  have z0 : (0 : Int32).toInt = 0 := rfl
  have z31 : (31 : Int32).toInt = 31 := rfl
  unfold w_9 w_9_11 w_9_23
  refine ⟨fun q => ?_, fun q => ⟨fun q1 => ?_, fun q1 => ⟨fun q2 => ?_, fun q2 => ⟨fun q3 => ?_, fun q3 => ?_⟩⟩⟩⟩
  · rw [bI_t (p := pmP m i d c) (Or.inl q)] at h; exact h
  · rw [bI_t (p := pmP m i d c) (Or.inr (Or.inl q1))] at h; exact h
  · rw [Int32.lt_iff_toInt_lt] at q2
    rw [bI_f (fun g => by
      rcases g with g | g | g
      · exact q g
      · exact q1 g
      · omega)] at h
    exact h
  · have pn := pmN hP q
    rw [Int32.lt_iff_toInt_lt] at q2
    rw [Int32.le_iff_toInt_le] at q3
    have c0 : c.toInt ≠ 0 := fun y => q1 (Int32.toInt_inj.mp (by rw [y]; rfl))
    refine ⟨_, c_9L rfl pn.2.2.2.2 pn.2.2.2.1 _ 0 (Nat.zero_add _) (fun ⟨j, _, j1, j2⟩ => ?_) (fun g => ?_)⟩
    · unfold w_9_79
      rw [bI_t (p := pmP m i d c) (Or.inr (Or.inr ⟨by omega, j, j1, j2⟩))] at h
      exact h
    · unfold w_9_87
      rw [bI_f (fun y => by
        rcases y with y | y | ⟨_, j, j1, j2⟩
        · exact q y
        · exact q1 y
        · exact g j (Nat.zero_le _) j1 j2)] at h
      exact h
  · rw [Int32.le_iff_toInt_le] at q3
    rw [bI_f (fun g => by
      rcases g with g | g | g
      · exact q g
      · exact q1 g
      · omega)] at h
    exact h
theorem r_294 {kc : it_Kc} {B : Nat} {m M : it_Me} (hI : Inv B m) (hR : Rel m M) {i : Nat} (hi : i < cnt m) {d c : Int32} {Φ : Int32 → it_Me → Prop} (h : Φ (bI (¬ pmP m i d c)) M) : w_294 kc (nI i) d c M Φ := by
  have i8 : i < 8 := by have := cnt_le hI; omega
  have hb := hR.bits i hi
  unfold w_294 w_294_14
  rw [cI i8, hb.1]
  refine ⟨fun q => ?_, fun q => ⟨vI i8, fun q1 => ?_, fun q1 => ?_⟩⟩
  · rw [bI_f (fun g => g (Or.inr (Or.inl q)))] at h; exact h
  · have e : m (14 + 5 * i + 1) 13 = 0 := by
      refine Classical.byContradiction fun y => ?_
      have pn := pmN (hI.p hi) y
      rw [nz, if_neg y] at q1
      rw [q1] at pn
      exact absurd pn.1 (by decide)
    rw [bI_f (fun g => g (Or.inl e))] at h
    exact h
  · have y : m (14 + 5 * i + 1) 13 ≠ 0 := fun y => q1 (by rw [y]; rfl)
    have pn := pmN (hI.p hi) y
    refine ⟨_, r_294L hI hR i8 (by rw [hb.1, nz, if_neg y]) (by rw [hb.2 y]; exact pn.2.2.2.2) ⟨pn.1, pn.2.1, pn.2.2.1⟩ pn.2.2.2.1 _ 0 1 (Nat.zero_add _) (Or.inr rfl) (fun g => ?_) (fun g => ?_)⟩
    · unfold w_294_113
      rw [bI_t (fun p => by
        rcases p with p | p | ⟨p1, j, j1, j2⟩
        · exact y p
        · exact q p
        · exact g.2 j (Nat.zero_le _) j1 ⟨p1, j2⟩)] at h
      exact ⟨Or.inr rfl, h⟩
    · unfold w_294_113
      rw [bI_f (fun p => g ⟨rfl, fun j _ j1 j2 => p (Or.inr (Or.inr ⟨j2.1, j, j1, j2.2⟩))⟩)] at h
      exact ⟨Or.inl rfl, h⟩
def hcN (d n : Nat) : Bool := (([[1, 2, 3, 5, 6], [1, 2, 3], [1, 2, 3], [1, 2, 3], [1], [1, 2, 3], [1, 2, 3], [1, 2, 3], [1]] : List (List Nat)).getD d []).contains n
def cmN (d : Nat) : Nat := ([6, 3, 3, 3, 1, 3, 3, 3, 1] : List Nat).getD d 0
theorem hcT : ∀ d, d < 9 → ∀ n, n < 32 → (it_us (([110, 14, 14, 14, 2, 14, 14, 14, 2] : List Int32).getD d 0) (nI n) &&& 1 = 1 ↔ hcN d n = true) := by decide +kernel
theorem hcI : ∀ d, d < 9 → ∀ n, n < 32 → (hcN d n = true ↔ 1 ≤ n ∧ n ≤ cmN d ∧ ¬ (d = 0 ∧ n = 4)) := by decide +kernel
theorem cmL : ∀ d, d < 9 → cmN d ≤ 6 := by decide
def hcP (m : it_Me) (i d : Nat) (c : Int32) : Prop := (d = 5 → m (14 + 5 * i + 1) 12 ≠ 0) ∧ ∃ n, n < 32 ∧ c = nI n ∧ hcN d n = true
theorem c_182 {kc : it_Kc} (hk : KC kc) {m : it_Me} {i d : Nat} (hd : d < 9) {c : Int32} {Φ : Int32 → it_Me → Prop} (h : Φ (bI (hcP m i d c)) m) : w_182 kc (14 + 5 * i) (nI d) c m Φ := by
  have z0 : (0 : Int32).toInt = 0 := rfl
  have z32 : (32 : Int32).toInt = 32 := rfl
  have core : (d = 5 → m (14 + 5 * i + 1) 12 ≠ 0) → w_182_17 kc Φ (nI d) c m := fun g => by
    unfold w_182_17 w_182_44 w_182_45
    rw [hk.k6]
    dsimp only
    rw [nI_clamp (by omega)]
    refine ⟨fun q => ⟨Or.inl rfl, ?_⟩, fun q => ⟨fun q2 => ⟨Or.inl rfl, ?_⟩, fun q2 => ⟨v9 hd, fun q3 => ⟨Or.inr rfl, ?_⟩, fun q3 => ⟨Or.inl rfl, ?_⟩⟩⟩⟩
    · rw [Int32.le_iff_toInt_le] at q
      rw [bI_f (fun ⟨_, n, n1, n2, n3⟩ => by
        rw [n2, nI_toInt (by omega)] at q
        have := (hcI d hd n n1).1 n3
        omega)] at h
      exact h
    · rw [Int32.le_iff_toInt_le] at q2
      rw [bI_f (fun ⟨_, n, n1, n2, n3⟩ => by
        rw [n2, nI_toInt (by omega)] at q2
        omega)] at h
      exact h
    · rw [Int32.le_iff_toInt_le] at q q2
      obtain ⟨n, n1, n2⟩ := numN (x := c) (k := 32) (by omega) (by omega)
      rw [n2] at q3
      rw [bI_t (p := hcP m i d c) ⟨g, n, n1, n2, (hcT d hd n n1).1 q3⟩] at h
      exact h
    · rw [bI_f (fun ⟨_, n, n1, n2, n3⟩ => q3 (by rw [n2]; exact (hcT d hd n n1).2 n3))] at h
      exact h
  unfold w_182
  refine ⟨fun q => ⟨fun q1 => ?_, fun q1 => core (fun _ => q1)⟩, fun q => core (fun y => absurd (by rw [y]; rfl) q)⟩
  have e : d = 5 := by
    rw [show (5 : Int32) = nI 5 from rfl, nEq (by omega) (by omega)] at q
    exact q
  rw [bI_f (fun y => y.1 e q1)] at h
  exact h
def cmx (m : it_Me) (i d : Nat) : Nat := if d = 5 ∧ m (14 + 5 * i + 1) 12 = 0 then 0 else cmN d
theorem r_295 {kc : it_Kc} {B : Nat} {m M : it_Me} (hI : Inv B m) (hR : Rel m M) {i d : Nat} (hi : i < cnt m) (hd : d < 9) {Φ : Int32 → it_Me → Prop} (h : Φ (nI (cmx m i d)) M) : w_295 kc (nI i) (nI d) M Φ := by
  have i8 : i < 8 := by have := cnt_le hI; omega
  have ne : d ≠ 5 → cmx m i d = cmN d := fun q => by unfold cmx; rw [if_neg (fun y => q y.1)]
  unfold w_295
  rcases (by omega : d = 0 ∨ d = 1 ∨ d = 2 ∨ d = 3 ∨ d = 4 ∨ d = 5 ∨ d = 6 ∨ d = 7 ∨ d = 8) with e | e | e | e | e | e | e | e | e
  · subst e; rw [ne (by omega)] at h; (repeat' (first | exact h | (intro q; first | exact absurd q (by decide) | skip) | constructor))
  · subst e; rw [ne (by omega)] at h; (repeat' (first | exact h | (intro q; first | exact absurd q (by decide) | skip) | constructor))
  · subst e; rw [ne (by omega)] at h; (repeat' (first | exact h | (intro q; first | exact absurd q (by decide) | skip) | constructor))
  · subst e; rw [ne (by omega)] at h; (repeat' (first | exact h | (intro q; first | exact absurd q (by decide) | skip) | constructor))
  · subst e; rw [ne (by omega)] at h; (repeat' (first | exact h | (intro q; first | exact absurd q (by decide) | skip) | constructor))
  · subst e
    have t : vp_in (nI i) 8 ∧ (((M 86 (Int32.toNatClampNeg (nI i))) = (-1 : Int32) → w_295_70 kc Φ (0 : Int32) M) ∧ (¬ (M 86 (Int32.toNatClampNeg (nI i))) = (-1 : Int32) → w_295_70 kc Φ (3 : Int32) M)) := by
      unfold w_295_70
      rw [cI i8, hR.number i hi]
      refine ⟨vI i8, fun q => ?_, fun q => ?_⟩
      · have e : m (14 + 5 * i + 1) 12 = 0 := by
          refine Classical.byContradiction fun y => ?_
          rcases (hI.p hi).so with g | g
          · exact y g
          · rw [nz, if_neg y] at q
            rw [q] at g
            exact absurd g.1 (by decide)
        unfold cmx at h
        rw [if_pos ⟨rfl, e⟩] at h
        exact h
      · have e : ¬ m (14 + 5 * i + 1) 12 = 0 := fun y => q (by rw [y]; rfl)
        unfold cmx at h
        rw [if_neg (fun y => e y.2)] at h
        exact h
    (repeat' (first | exact t | (intro q; first | exact absurd q (by decide) | skip) | constructor))
  · subst e; rw [ne (by omega)] at h; (repeat' (first | exact h | (intro q; first | exact absurd q (by decide) | skip) | constructor))
  · subst e; rw [ne (by omega)] at h; (repeat' (first | exact h | (intro q; first | exact absurd q (by decide) | skip) | constructor))
  · subst e; rw [ne (by omega)] at h; (repeat' (first | exact h | (intro q; first | exact absurd q (by decide) | skip) | constructor))
/-- what the reference asks of a command's number -/
theorem r_hc {kc : it_Kc} {B : Nat} {m M : it_Me} (hI : Inv B m) (hR : Rel m M) {i d : Nat} (hi : i < cnt m) (hd : d < 9) {c : Int32} (h0 : ¬ c = 0) {G F : it_Me → Prop} (h1 : hcP m i d c → G M) (h2 : ¬ hcP m i d c → F M) : (c < 0 → F M) ∧ (¬ c < 0 → w_295 kc (nI i) (nI d) M (fun r7 m8 => (r7 < c → F m8) ∧ (¬ r7 < c → (nI d = 0 → (c = (4 : Int32) → F m8) ∧ (¬ c = (4 : Int32) → G m8)) ∧ (¬ nI d = 0 → G m8)))) := by
  have z0 : (0 : Int32).toInt = 0 := rfl
  have c0 : c.toInt ≠ 0 := fun y => h0 (Int32.toInt_inj.mp (by rw [y]; rfl))
  have m6 := cmL d hd
  have mx : cmx m i d ≤ cmN d := by unfold cmx; split <;> omega
  have dn : nI d = 0 ↔ d = 0 := by rw [show (0 : Int32) = nI 0 from rfl, nEq (by omega) (by omega)]
  refine ⟨fun q => h2 (fun ⟨_, n, n1, n2, n3⟩ => ?_), fun q => r_295 hI hR hi hd ⟨fun q1 => h2 (fun ⟨g, n, n1, n2, n3⟩ => ?_), fun q1 => ?_⟩⟩
  · rw [n2, Int32.lt_iff_toInt_lt, nI_toInt (by omega)] at q
    omega
  · have hh := (hcI d hd n n1).1 n3
    rw [n2, nLt (by omega) (by omega)] at q1
    unfold cmx at q1
    by_cases y : d = 5 ∧ m (14 + 5 * i + 1) 12 = 0
    · exact g y.1 y.2
    · rw [if_neg y] at q1
      omega
  · rw [Int32.lt_iff_toInt_lt] at q q1
    rw [nI_toInt (by omega)] at q1
    obtain ⟨n, n1, n2⟩ := numN (x := c) (k := 7) (by omega) (by omega)
    have nt := nI_toInt (n := n) (by omega)
    rw [n2, nt] at c0 q1
    have g5 : d = 5 → m (14 + 5 * i + 1) 12 ≠ 0 := fun y1 y2 => by
      unfold cmx at q1
      rw [if_pos ⟨y1, y2⟩] at q1
      omega
    have c4 : c = (4 : Int32) ↔ n = 4 := by rw [n2, show (4 : Int32) = nI 4 from rfl, nEq (by omega) (by omega)]
    have yes : ¬ (d = 0 ∧ n = 4) → hcP m i d c := fun y => ⟨g5, n, by omega, n2, (hcI d hd n (by omega)).2 ⟨by omega, by omega, y⟩⟩
    refine ⟨fun q2 => ⟨fun q3 => h2 (fun ⟨_, n', n1', n2', n3⟩ => ?_), fun q3 => h1 (yes (fun y => q3 (c4.2 y.2)))⟩, fun q2 => h1 (yes (fun y => q2 (dn.2 y.1)))⟩
    have := (hcI d hd n' n1').1 n3
    rw [n2, nEq (by omega) (by omega)] at n2'
    have := c4.1 q3
    have := dn.1 q2
    omega
