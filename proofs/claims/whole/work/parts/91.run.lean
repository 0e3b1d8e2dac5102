/-! run in lockstep. -/
theorem offM_4 (M : it_Me) : offM (it_sv M 66 4 0) = it_sv (offM M) 66 4 0 := by
  unfold offM
  funext a b
  by_cases q : a = 67
  · subst q
    rw [sv_n1 _ _ _ _ _ (by omega)]
    unfold it_fil
    simp (disch := omega) only [sv_n1]
    rw [up_same, up_same]
  · rw [fil_n1 _ _ _ _ _ _ q]
    simp only [sv_rd]
    rw [fil_n1 _ _ _ _ _ _ q]
    simp only [sv_rd]
    by_cases e4 : a = 66 ∧ b = 4
    · rw [if_neg (by omega), if_neg (by omega), if_neg (by omega), if_pos e4, if_pos e4]
    · rw [if_neg e4, if_neg e4]
theorem off_K {m : it_Me} : FrC m (offC m) ∧ offC m 7 4 = 0 := by
  constructor
  · intro k hk
    unfold offC
    rw [fil_cell _ _ _ _ _ (by omega), sv_cell _ _ _ _ (by omega), sv_cell _ _ _ _ (by omega), sv_cell _ _ _ _ (by omega), sv_cell _ _ _ _ (by omega)]
  · unfold offC
    rw [fil_n1 _ _ _ _ _ _ (by omega), sv_n1 _ _ _ _ _ (by omega), sv_n1 _ _ _ _ _ (by omega), sv_same]
theorem FrM_off {M : it_Me} : FrM M (it_sv (offM M) 66 4 0) := fun k hk => by
  unfold offM
  rw [sv_cell _ _ _ _ (by omega), fil_cell _ _ _ _ _ (by omega), sv_cell _ _ _ _ (by omega), sv_cell _ _ _ _ (by omega), sv_cell _ _ _ _ (by omega)]
theorem run_l {kc : it_Kc} (hk : KC kc) {X : Nat} (hX : X ≤ 20000) : ∀ (r k B : Nat) (m : it_Me), k + r = X → Inv B m → m 0 10 = 1 → m 7 4 = 0 → B + 22 * r < 2147483000 → ∃ x m', (∀ Φ, Φ x m' → w_193_27 kc Φ (fun m => w_193_161 kc Φ m) (fun v1 m => w_193_174 kc Φ v1 m) (r + 1) (nI X) (nI k) m) ∧ Inv (B + 22 * r) m' ∧ FrC m m' ∧ m' 7 4 = 0 ∧ ∀ M, Rel m M → ∀ Φ : Int32 → it_Me → Prop, (∀ M', Rel m' M' → FrM M M' → Φ x M') → w_317_32 kc Φ (fun m => w_317_48 kc Φ m) (fun v1 m => w_317_66 kc Φ v1 m) (r + 1) (nI X) (nI k) M := by
  intro r
  induction r with
  | zero =>
    intro k B m hr hI ho hl hB
    have e : k = X := by omega
    subst e
    refine ⟨nI k, m, fun Φ h => ?_, hI.mono (by omega), FrC.rfl, hl, fun M hM Φ h => ?_⟩
    · unfold w_193_27
      exact ⟨fun _ => h, fun q => absurd ((nLe (by omega) (by omega)).2 (Nat.le_refl _)) q⟩
    · unfold w_317_32
      exact ⟨fun _ => h M hM FrM.rfl, fun q => absurd ((nLe (by omega) (by omega)).2 (Nat.le_refl _)) q⟩
  | succ r ih =>
    intro k B m hr hI ho hl hB
    obtain ⟨m1, a1, a2, a3, a4, a5⟩ := tick hk hI ho hl (by omega)
    have ho1 : m1 0 10 = 1 := by rw [a4.1]; exact ho
    have nle : ¬ nI X ≤ nI k := fun q => absurd ((nLe (by omega) (by omega)).1 q) (by omega)
    by_cases z : m1 7 4 = 0
    · obtain ⟨x, m', b1, b2, b3, b4, b5⟩ := ih (k + 1) (B + 22) m1 (by omega) a2 ho1 z (by omega)
      refine ⟨x, m', fun Φ h => ?_, b2.mono (by omega), a3.trans b3, b4, fun M hM Φ h => ?_⟩
      · unfold w_193_27 w_193_120
        refine ⟨fun q => absurd q nle, fun _ => ?_⟩
        refine a1 (fun m3 => w_193_151 kc Φ (w_193_27 kc Φ (fun m => w_193_161 kc Φ m) (fun v1 m => w_193_174 kc Φ v1 m) (r + 1)) (fun m => w_193_161 kc Φ m) (fun v1 m => w_193_174 kc Φ v1 m) (nI X) (nI k) m3) ?_
        unfold w_193_151
        rw [nI_s1]
        exact ⟨fun _ => b1 Φ h, fun q => absurd z q⟩
      · unfold w_317_32
        refine ⟨fun q => absurd q nle, fun _ => a5 M hM _ (fun M1 r1 g1 => ?_)⟩
        rw [r1.lost, nI_s1]
        exact ⟨fun _ => b5 M1 r1 Φ (fun M2 r2 g2 => h M2 r2 (g1.trans g2)), fun q => absurd z q⟩
    · refine ⟨-4, offC m1, fun Φ h => ?_, (off_I a2).mono (by omega), a3.trans off_K.1, off_K.2, fun M hM Φ h => ?_⟩
      · unfold w_193_27 w_193_120
        refine ⟨fun q => absurd q nle, fun _ => ?_⟩
        refine a1 (fun m3 => w_193_151 kc Φ (w_193_27 kc Φ (fun m => w_193_161 kc Φ m) (fun v1 m => w_193_174 kc Φ v1 m) (r + 1)) (fun m => w_193_161 kc Φ m) (fun v1 m => w_193_174 kc Φ v1 m) (nI X) (nI k) m3) ?_
        unfold w_193_151
        exact ⟨fun q => absurd q z, fun _ => c_212 h⟩
      · unfold w_317_32
        refine ⟨fun q => absurd q nle, fun _ => a5 M hM _ (fun M1 r1 g1 => ?_)⟩
        rw [r1.lost]
        refine ⟨fun q => absurd q z, fun _ => ?_⟩
        show w_228 kc (it_sv M1 66 4 0) (fun m1 => Φ (-4) m1)
        refine r_228 ?_
        show Φ (-4) (offM (it_sv M1 66 4 0))
        rw [offM_4]
        exact h _ (off_R a2 r1 (cnt_le a2)) (g1.trans FrM_off)
theorem a_run {kc : it_Kc} (hk : KC kc) {B : Nat} {m : it_Me} (hI : Inv B m) (hl : m 7 4 = 0) (hB : B + 440000 < 2147483000) (x : Int32) : Lk (w_193 kc x) (w_317 kc x) (B + 440000) m := by
  have triv : ∀ y : Int32, (∀ Φ : Int32 → it_Me → Prop, Φ y m → w_193 kc x m Φ) → (∀ M, Rel m M → ∀ Φ : Int32 → it_Me → Prop, Φ y M → w_317 kc x M Φ) → Lk (w_193 kc x) (w_317 kc x) (B + 440000) m := fun y h1 h2 => ⟨y, m, h1, hI.mono (by omega), FrC.rfl, hl, fun M hM Φ h => h2 M hM Φ (h M hM FrM.rfl)⟩
  rcases hI.on with ho | ho
  · refine triv (-3) (fun Φ h => ?_) (fun M hM Φ h => ?_)
    · unfold w_193
      exact ⟨fun _ => h, fun q => absurd ho q⟩
    · unfold w_317
      exact ⟨fun _ => h, fun q => absurd (by rw [hM.on]; exact ho) q⟩
  have on1 : ¬ m 0 10 = 0 := fun q => absurd (ho.symm.trans q) (by decide)
  by_cases l : x < 1
  · refine triv (-2) (fun Φ h => ?_) (fun M hM Φ h => ?_)
    · unfold w_193 w_193_22
      exact ⟨fun q => absurd q on1, fun _ => ⟨fun _ => h, fun q => absurd l q⟩⟩
    · unfold w_317 w_317_22
      rw [hM.on]
      exact ⟨fun q => absurd q on1, fun _ => ⟨fun _ => h, fun q => absurd l q⟩⟩
  by_cases g : x ≤ 20000
  · have hx : 1 ≤ x.toInt ∧ x.toInt ≤ 20000 := by
      rw [Int32.lt_iff_toInt_lt] at l
      rw [Int32.le_iff_toInt_le] at g
      simp only [Int32.reduceToInt] at l g
      omega
    have ex : x = nI x.toInt.toNat := Int32.toInt_inj.mp (by rw [nI_toInt (by omega)]; omega)
    obtain ⟨y, m', b1, b2, b3, b4, b5⟩ := run_l hk (X := x.toInt.toNat) (by omega) x.toInt.toNat 0 B m (by omega) hI ho hl (by omega)
    rw [← ex] at b1 b5
    refine ⟨y, m', fun Φ h => ?_, b2.mono (by omega), b3, b4, fun M hM Φ h => ?_⟩
    · unfold w_193
      exact ⟨fun q => absurd q on1, fun _ => ⟨fun q => absurd q l, fun _ => ⟨fun _ => ⟨_, b1 Φ h⟩, fun q => absurd g q⟩⟩⟩
    · unfold w_317
      have e : it_sv M 66 4 0 = M := by
        have := sv_self M 66 4
        rw [hM.lost, hl] at this
        exact this
      rw [hM.on, e]
      exact ⟨fun q => absurd q on1, fun _ => ⟨fun q => absurd q l, fun _ => ⟨fun _ => ⟨_, b5 M hM Φ h⟩, fun q => absurd g q⟩⟩⟩
  · refine triv (-2) (fun Φ h => ?_) (fun M hM Φ h => ?_)
    · unfold w_193 w_193_22
      exact ⟨fun q => absurd q on1, fun _ => ⟨fun q => absurd q l, fun _ => ⟨fun q => absurd q g, fun _ => h⟩⟩⟩
    · unfold w_317 w_317_22
      rw [hM.on]
      exact ⟨fun q => absurd q on1, fun _ => ⟨fun q => absurd q l, fun _ => ⟨fun q => absurd q g, fun _ => h⟩⟩⟩
