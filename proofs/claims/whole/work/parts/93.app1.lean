/-! Apps in flash: words, frames. -/
def FlC (F : Nat → Int32) (m : it_Me) : Prop := ∀ w, w < 16384 → m 2 w = F w
def FlR (F : Nat → Int32) (N : it_Me) : Prop := ∀ w, w < 16384 → ∀ j, j < 4 → N 67 (65536 + 4 * w + j) = sb8 (F w) j
def Gf (F : Nat → Int32) (A : Nat) : Int32 := F ((A - 65536) / 4)
def Hh (F : Nat → Int32) (A : Nat) : Int32 := hf (F ((A - 65536) / 4)) (A % 4)
theorem Rel.fl {B : Nat} {m M : it_Me} (hI : Inv B m) (h : Rel m M) : FlR (m 2) M := fun w hw j hj => h.mem w (by omega) (nexF hI hw) j hj
theorem FlC.sv {F : Nat → Int32} {m : it_Me} (h : FlC F m) {k i : Nat} {v : Int32} (hk : k ≠ 2) : FlC F (it_sv m k i v) := fun w hw => by rw [sv_cell _ _ _ _ (Ne.symm hk)]; exact h w hw
theorem FlC.cg {F : Nat → Int32} {m m' : it_Me} (h : FlC F m) (e : m' 2 = m 2) : FlC F m' := fun w hw => by rw [e]; exact h w hw
theorem FlR.sv {F : Nat → Int32} {N : it_Me} (h : FlR F N) {k i : Nat} {v : Int32} (hk : k ≠ 67) : FlR F (it_sv N k i v) := fun w hw j hj => by rw [sv_cell _ _ _ _ (Ne.symm hk)]; exact h w hw j hj
theorem FlR.cg {F : Nat → Int32} {N N' : it_Me} (h : FlR F N) (e : N' 67 = N 67) : FlR F N' := fun w hw j hj => by rw [e]; exact h w hw j hj
theorem bjF {A : Nat} (h : 65536 ≤ A ∧ A < 131072) : bj (nI A) = A % 4 := by
  have e := nI_toInt (n := A) (by omega)
  unfold bj
  omega
theorem c12F {kc : it_Kc} {F : Nat → Int32} {m : it_Me} (h : FlC F m) {A : Nat} (hA : 65536 ≤ A ∧ A < 131072) {Φ : Int32 → it_Me → Prop} (hp : Φ (Gf F A) m) : w_12 kc (nI A) m Φ := by
  refine c_12 ?_
  rw [gw_in (inF hA), wiF hA, h _ (by omega)]
  exact hp
theorem c14F {kc : it_Kc} {F : Nat → Int32} {m : it_Me} (h : FlC F m) {A : Nat} (hA : 65536 ≤ A ∧ A < 131072) {Φ : Int32 → it_Me → Prop} (hp : Φ (Hh F A) m) : w_14 kc (nI A) m Φ := by
  refine c_14 ?_
  rw [gh_in (inF hA), wiF hA, h _ (by omega), bjF hA]
  exact hp
theorem r220F {kc : it_Kc} {F : Nat → Int32} {N : it_Me} (h : FlR F N) {A : Nat} (hA : 65536 ≤ A ∧ A < 131072) (h4 : A % 4 = 0) {Φ : Int32 → it_Me → Prop} (hp : Φ (Gf F A) N) : w_220 kc (nI A) N Φ :=
  r_220b (inF hA) (by rw [nI_toInt (by omega)]; omega) (fun j hj => by rw [wiF hA]; exact h _ (by omega) j hj) hp
theorem r219F {kc : it_Kc} {F : Nat → Int32} {N : it_Me} (h : FlR F N) {A : Nat} (hA : 65536 ≤ A ∧ A < 131072) (h2 : A % 2 = 0) {Φ : Int32 → it_Me → Prop} (hp : Φ (Hh F A) N) : w_219 kc (nI A) N Φ := by
  refine r_219b (w := F ((A - 65536) / 4)) (inF hA) (by rw [nI_toInt (by omega)]; omega) (fun j hj => by rw [wiF hA]; exact h _ (by omega) j hj) ?_
  rw [bjF hA]
  exact hp
theorem Hh_lt (F : Nat → Int32) (A : Nat) : ∃ k, k < 65536 ∧ Hh F A = nI k := by
  unfold Hh hf
  generalize it_us (F ((A - 65536) / 4)) (nI (8 * (A % 4 / 2 * 2))) = y
  have e : (y &&& 65535).toInt = y.toInt % 65536 := andI y 16 (by omega) rfl
  refine ⟨(y.toInt % 65536).toNat, by omega, Int32.toInt_inj.mp ?_⟩
  rw [e, nI_toInt (by omega)]
  omega
def hsz (F : Nat → Int32) (A : Nat) : Nat := (Hh F (A + 2)).toInt.toNat
def tsz (F : Nat → Int32) (A : Nat) : Nat := (Gf F (A + 4)).toInt.toNat
abbrev frQ (F : Nat → Int32) (A : Nat) : Prop := (¬ Hh F (A + 2) < 16 ∧ ¬ 512 < Hh F (A + 2) ∧ Hh F (A + 2) &&& 3 = 0) ∧ (Gf F (A + 4) &&& 3 = 0 ∧ ¬ Gf F (A + 4) < Hh F (A + 2) ∧ ¬ nI (126976 - A) < Gf F (A + 4)) ∧ Hh F A = 2
/-- a frame begins at A -/
abbrev frP (F : Nat → Int32) (A : Nat) : Prop := A + 16 ≤ 126976 ∧ frQ F A
theorem frF {F : Nat → Int32} {A : Nat} (h : frP F A) (hA : 65536 ≤ A) : Hh F (A + 2) = nI (hsz F A) ∧ Gf F (A + 4) = nI (tsz F A) ∧ 16 ≤ hsz F A ∧ hsz F A ≤ 512 ∧ hsz F A % 4 = 0 ∧ tsz F A % 4 = 0 ∧ hsz F A ≤ tsz F A ∧ A + tsz F A ≤ 126976 := by
  obtain ⟨h0, ⟨a1, a2, a3⟩, ⟨b1, b2, b3⟩, c⟩ := h
  rw [Int32.lt_iff_toInt_lt] at a1 a2 b2 b3
  rw [nI_toInt (by omega)] at b3
  rw [← Int32.toInt_inj, andI _ 2 (by omega) rfl] at a3 b1
  simp only [Int32.reduceToInt] at a1 a2 a3 b1
  have x1 : (Hh F (A + 2)).toInt = (hsz F A : Nat) := by unfold hsz; omega
  have x2 : (Gf F (A + 4)).toInt = (tsz F A : Nat) := by unfold tsz; omega
  refine ⟨Int32.toInt_inj.mp (by rw [nI_toInt (by omega)]; exact x1), Int32.toInt_inj.mp (by rw [nI_toInt (by omega)]; exact x2), by omega, by omega, by omega, by omega, by omega, by omega⟩
theorem n126 {A : Nat} (hA : A ≤ 126976) : (126976 : Int32) - nI A = nI (126976 - A) := nSub (A := 126976) hA
theorem n_2 (A : Nat) : nI A + 2 = nI (A + 2) := nI_add A 2
def frC (F : Nat → Int32) (m : it_Me) (k A : Nat) : it_Me := it_sv (it_sv (it_sv m k 1 (nI A)) k 2 (Hh F (A + 2))) k 3 (Gf F (A + 4))
theorem c_1 {kc : it_Kc} {F : Nat → Int32} {m : it_Me} (hF : FlC F m) {k A : Nat} (hk : k ≠ 2) (hA : 65536 ≤ A ∧ A ≤ 126976) : ∃ m', (∀ Φ : Int32 → it_Me → Prop, Φ (bI (frP F A)) m' → w_1 kc k (nI A) m Φ) ∧ (∀ c, c ≠ k → m' c = m c) ∧ (frP F A → m' = frC F m k A) := by
  by_cases g : A + 16 ≤ 126976
  · refine ⟨frC F m k A, fun Φ h => ?_, fun c hc => by unfold frC; rw [sv_cell _ _ _ _ hc, sv_cell _ _ _ _ hc, sv_cell _ _ _ _ hc], fun _ => rfl⟩
    have f1 : FlC F (it_sv m k 1 (nI A)) := hF.sv hk
    have f2 : FlC F (it_sv (it_sv m k 1 (nI A)) k 2 (Hh F (A + 2))) := f1.sv hk
    have f3 : FlC F (frC F m k A) := f2.sv hk
    have v2 : frC F m k A k 2 = Hh F (A + 2) := by unfold frC; rw [sv_n2 _ _ _ _ (by omega), sv_same]
    have v3 : frC F m k A k 3 = Gf F (A + 4) := by unfold frC; rw [sv_same]
    have k114 : ∀ u v : Int32, ((u = 0 ∨ v = 0) → ¬ frP F A) → (¬ u = 0 → ¬ v = 0 → Hh F A = 2 → frP F A) → w_1_114 kc Φ k (nI A) u v (frC F m k A) := fun u v h1 h2 => by
      unfold w_1_114 w_1_139 w_1_140
      refine c14F f3 (by omega) ⟨fun q => ⟨fun q2 => ⟨Or.inl rfl, ?_⟩, fun q2 => ⟨fun q3 => ⟨Or.inl rfl, ?_⟩, fun q3 => ⟨Or.inr rfl, ?_⟩⟩⟩, fun q => ⟨Or.inl rfl, ?_⟩⟩
      · rw [bI_f (h1 (Or.inl q2))] at h; exact h
      · rw [bI_f (h1 (Or.inr q3))] at h; exact h
      · rw [bI_t (h2 q2 q3 q)] at h; exact h
      · rw [bI_f (fun y : frP F A => q y.2.2.2)] at h; exact h
    have k77 : ∀ u : Int32, (u = 0 → ¬ frP F A) → (¬ u = 0 → ¬ Hh F (A + 2) < 16 ∧ ¬ 512 < Hh F (A + 2) ∧ Hh F (A + 2) &&& 3 = 0) → w_1_77 kc Φ k (nI A) u (frC F m k A) := fun u h1 h2 => by
      unfold w_1_77 w_1_113
      rw [v2, v3, n126 (by omega)]
      refine ⟨fun q1 => ⟨fun q2 => k114 _ _ (fun _ y => y.2.2.1.2.1 q2) (fun _ y => absurd rfl y), fun q2 => ⟨fun q3 => k114 _ _ (fun _ y => y.2.2.1.2.2 q3) (fun _ y => absurd rfl y), fun q3 => k114 _ _ (fun y => ?_) (fun y _ z => ⟨g, h2 y, ⟨q1, q2, q3⟩, z⟩)⟩⟩, fun q1 => k114 _ _ (fun _ y => q1 y.2.2.1.1) (fun _ y => absurd rfl y)⟩
      rcases y with y | y
      · exact h1 y
      · exact absurd y (by decide)
    unfold w_1
    rw [n126 (by omega), n_2, n_4]
    refine ⟨fun _ => c14F f1 (by omega) (c12F f2 (by omega) ?_), fun q => absurd ((nLe (a := 16) (by omega) (by omega)).2 (by omega)) q⟩
    unfold w_1_76
    rw [show it_sv (it_sv (it_sv m k 1 (nI A)) k 2 (Hh F (A + 2))) k 3 (Gf F (A + 4)) k 2 = Hh F (A + 2) from v2]
    exact ⟨fun q => k77 0 (fun _ y => y.2.1.1 q) (fun y => absurd rfl y), fun q => ⟨fun q2 => k77 0 (fun _ y => y.2.1.2.1 q2) (fun y => absurd rfl y), fun q2 => ⟨fun q3 => k77 1 (fun y => absurd y (by decide)) (fun _ => ⟨q, q2, q3⟩), fun q3 => k77 0 (fun _ y => q3 y.2.1.2.2) (fun y => absurd rfl y)⟩⟩⟩
  · have nf : ¬ frP F A := fun y => g y.1
    refine ⟨m, fun Φ h => ?_, fun _ _ => rfl, fun y => absurd y nf⟩
    rw [bI_f nf] at h
    unfold w_1
    rw [n126 (by omega)]
    exact ⟨fun q => absurd ((nLe (a := 16) (by omega) (by omega)).1 q) (by omega), fun _ => h⟩
def frM (F : Nat → Int32) (N : it_Me) (A : Nat) : it_Me := it_sv (it_sv N 66 18 (Hh F (A + 2))) 66 19 (Gf F (A + 4))
theorem rm4 : ∀ k, k < 513 → (it_rem (nI k) 4 = 0 ↔ k % 4 = 0) := by decide +kernel
theorem r_244 {kc : it_Kc} {F : Nat → Int32} {N : it_Me} (hF : FlR F N) {A : Nat} (hA : 65536 ≤ A ∧ A ≤ 126976) (h4 : A % 4 = 0) : ∃ N', (∀ Φ : Int32 → it_Me → Prop, Φ (bI (frP F A)) N' → w_244 kc (nI A) N Φ) ∧ (∀ c, c ≠ 66 → N' c = N c) ∧ (∀ j, j ≠ 18 → j ≠ 19 → N' 66 j = N 66 j) ∧ (frP F A → N' = frM F N A) := by
  by_cases g : A + 16 ≤ 126976
  · by_cases h2 : Hh F A = 2
    · have f1 : FlR F (it_sv N 66 18 (Hh F (A + 2))) := hF.sv (by omega)
      have v18 : it_sv N 66 18 (Hh F (A + 2)) 66 18 = Hh F (A + 2) := sv_same _ _ _ _
      have cl : ∀ {Φ : Int32 → it_Me → Prop} {N' : it_Me}, (if frP F A then Φ 1 (frM F N A) else Φ 0 (it_sv N 66 18 (Hh F (A + 2)))) → w_244 kc (nI A) N Φ := fun {Φ N'} h => by
        unfold w_244 w_244_103
        rw [n_16, n_2, n_4]
        refine ⟨fun q => absurd ((nLt (a := 126976) (by omega) (by omega)).1 q) (by omega), fun _ => r219F hF (by omega) (by omega) ⟨fun _ => r219F hF (by omega) (by omega) (r220F f1 (by omega) (by omega) ?_), fun q => absurd h2 q⟩⟩
        rw [v18]
        have bad : ¬ frP F A → Φ 0 (it_sv N 66 18 (Hh F (A + 2))) := fun q => by rw [if_neg q] at h; exact h
        refine ⟨fun q => bad (fun y => y.2.1.1 q), fun q1 => ⟨fun q => bad (fun y => y.2.1.2.1 q), fun q2 => ⟨by decide, ?_⟩⟩⟩
        have r1 := q1
        have r2 := q2
        rw [Int32.lt_iff_toInt_lt] at r1 r2
        simp only [Int32.reduceToInt] at r1 r2
        have x1 : (Hh F (A + 2)).toInt = (hsz F A : Nat) := by unfold hsz; omega
        have e1 : Hh F (A + 2) = nI (hsz F A) := Int32.toInt_inj.mp (by rw [nI_toInt (by omega)]; exact x1)
        have a3 : Hh F (A + 2) &&& 3 = 0 ↔ hsz F A % 4 = 0 := by
          rw [← Int32.toInt_inj, andI _ 2 (by omega) rfl, x1, show (0 : Int32).toInt = 0 from rfl]
          omega
        have m4 : it_rem (Hh F (A + 2)) 4 = 0 ↔ hsz F A % 4 = 0 := by rw [e1]; exact rm4 _ (by omega)
        have u := u32 (Gf F (A + 4))
        have tl := Int32.toInt_lt (Gf F (A + 4))
        have tg := Int32.le_toInt (Gf F (A + 4))
        have ul : 0 ≤ (Int32.toInt64 (Gf F (A + 4)) &&& 4294967295).toInt := by rw [u]; omega
        obtain ⟨a, ea, el⟩ := lrem_I ul (d := 4) (by omega) (by omega)
        have el' : it_lrem (Int32.toInt64 (Gf F (A + 4)) &&& 4294967295) 4 = lN a := el
        have b1 : Gf F (A + 4) &&& 3 = 0 ↔ a = 0 := by
          rw [← Int32.toInt_inj, andI _ 2 (by omega) rfl, show (0 : Int32).toInt = 0 from rfl]
          rw [u] at ea
          omega
        have lz : lg_cmp (it_lrem (Int32.toInt64 (Gf F (A + 4)) &&& 4294967295) 4) 0 = 0 ↔ a = 0 := by
          rw [lgeq, el']
          have : (lN a).toInt = (a : Int) := lN_toInt (by omega)
          rw [this]
          show (a : Int) = 0 ↔ _
          omega
        refine ⟨fun q3 => ⟨by decide, fun q4 => ⟨fun q5 => bad (fun y => ?_), fun q5 => ⟨fun q6 => ?_, fun q6 => bad (fun y => ?_)⟩⟩, fun q4 => bad (fun y => q4 (lz.2 (b1.1 y.2.2.1.1)))⟩, fun q3 => bad (fun y => q3 (m4.2 (a3.1 y.2.1.2.2)))⟩
        · rw [lgl, u, Int32.toInt_toInt64, x1] at q5
          have y2 := y.2.2.1.2.1
          rw [Int32.lt_iff_toInt_lt, x1] at y2
          omega
        · rw [lgl, u, Int32.toInt_toInt64, x1] at q5
          rw [lgle, Int64.toInt_add, Int32.toInt_toInt64, u, nI_toInt (by omega), show ((126976 : Int64)).toInt = 126976 from rfl, Int.bmod_eq_of_le (by omega) (by omega)] at q6
          have ok : frP F A := ⟨g, ⟨q1, q2, a3.2 (m4.1 q3)⟩, ⟨b1.2 (lz.1 q4), by rw [Int32.lt_iff_toInt_lt, x1]; omega, by rw [Int32.lt_iff_toInt_lt, nI_toInt (by omega)]; omega⟩, h2⟩
          rw [if_pos ok] at h
          have e32 : Int64.toInt32 (Int32.toInt64 (Gf F (A + 4)) &&& 4294967295) = Gf F (A + 4) := Int32.toInt_inj.mp (by rw [i64_32 (by rw [u]; omega) (by rw [u]; omega), u]; omega)
          rw [e32]
          exact h
        · rw [lgle, Int64.toInt_add, Int32.toInt_toInt64, u, nI_toInt (by omega), show ((126976 : Int64)).toInt = 126976 from rfl, Int.bmod_eq_of_le (by omega) (by omega)] at q6
          have y2 := y.2.2.1.2.1
          have y3 := y.2.2.1.2.2
          rw [Int32.lt_iff_toInt_lt, x1] at y2
          rw [Int32.lt_iff_toInt_lt, nI_toInt (by omega)] at y3
          omega
      by_cases ok : frP F A
      · refine ⟨frM F N A, fun Φ h => cl (N' := N) (by rw [if_pos ok]; rw [bI_t ok] at h; exact h), fun c hc => by unfold frM; rw [sv_cell _ _ _ _ hc, sv_cell _ _ _ _ hc], fun j h18 h19 => by unfold frM; rw [sv_n2 _ _ _ _ h19, sv_n2 _ _ _ _ h18], fun _ => rfl⟩
      · refine ⟨it_sv N 66 18 (Hh F (A + 2)), fun Φ h => cl (N' := N) (by rw [if_neg ok]; rw [bI_f ok] at h; exact h), fun c hc => sv_cell _ _ _ _ hc, fun j h18 h19 => sv_n2 _ _ _ _ h18, fun y => absurd y ok⟩
    · have nf : ¬ frP F A := fun y => h2 y.2.2.2
      refine ⟨N, fun Φ h => ?_, fun _ _ => rfl, fun _ _ _ => rfl, fun y => absurd y nf⟩
      rw [bI_f nf] at h
      unfold w_244 w_244_18
      rw [n_16]
      exact ⟨fun q => h, fun _ => r219F hF (by omega) (by omega) ⟨fun q => absurd q h2, fun _ => h⟩⟩
  · have nf : ¬ frP F A := fun y => g y.1
    refine ⟨N, fun Φ h => ?_, fun _ _ => rfl, fun _ _ _ => rfl, fun y => absurd y nf⟩
    rw [bI_f nf] at h
    unfold w_244 w_244_18
    rw [n_16]
    exact ⟨fun q => h, fun q => absurd ((nLt (a := 126976) (by omega) (by omega)).2 (by omega)) q⟩
