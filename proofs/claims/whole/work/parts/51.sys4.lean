/-! System calls: the break, exit. -/
theorem and_m4L (y : Int64) : (y &&& -4).toInt = y.toInt / 4 * 4 := by
  have h1 := uN_int (y &&& -4)
  have h2 := uN_int y
  have e : uN (y &&& -4) = uN y / 4 * 4 := by
    show (y.toUInt64 &&& Int64.toUInt64 (-4)).toNat = _
    rw [UInt64.toNat_and, show (Int64.toUInt64 (-4)).toNat = (2 ^ (64 - 2) - 1) <<< 2 by decide]
    exact and_m4N _ 64 (uN_lt y) (by omega)
  have h3 := uN_lt y
  rw [e] at h1
  split at h1 <;> split at h2 <;> omega
/-- the break of a process set anew -/
theorem PI.brk {m : it_Me} {i : Nat} {v : Int32} (h : PI m i) (h1 : (m (14 + 5 * i) 5).toInt ≤ v.toInt) (h2 : v.toInt ≤ (m (14 + 5 * i) 8).toInt) (h4 : v.toInt % 4 = 0) (hb : ∀ d, d < 9 → ∀ k, k < rbN d + wbN d → bE m i d k ≤ v.toInt) : PI (it_sv m (14 + 5 * i) 7 v) i := by
  have f : ∀ c, c ≠ 7 → it_sv m (14 + 5 * i) 7 v (14 + 5 * i) c = m (14 + 5 * i) c := fun c hc => sv_n2 _ _ _ _ hc
  have g1 : it_sv m (14 + 5 * i) 7 v (14 + 5 * i + 1) = m (14 + 5 * i + 1) := sv_cell _ _ _ _ (by omega)
  have g3 : it_sv m (14 + 5 * i) 7 v (14 + 5 * i + 3) = m (14 + 5 * i + 3) := sv_cell _ _ _ _ (by omega)
  have g4 : it_sv m (14 + 5 * i) 7 v (14 + 5 * i + 4) = m (14 + 5 * i + 4) := sv_cell _ _ _ _ (by omega)
  have hct : ctl (it_sv m (14 + 5 * i) 7 v) i = ctl m i := ctl_sv2 _ _ (by omega) (by omega)
  have hgw : ∀ x, gw (it_sv m (14 + 5 * i) 7 v) x = gw m x := fun x => gw_sv _ _ _ _ (by omega)
  have hgh : ∀ x, gh (it_sv m (14 + 5 * i) 7 v) x = gh m x := fun x => gh_cg (sv_cell _ _ _ _ (by omega)) x
  have hCh : ∀ ds a, Ch (it_sv m (14 + 5 * i) 7 v) i a ds ↔ Ch m i a ds := fun ds => by
    induction ds with
    | nil => intro a; simp only [Ch, hct]
    | cons d ds ih => intro a; simp only [Ch, hct, g4, hgw, ih]
  have o := h.ord
  have ap := h.app
  have s := h.szI
  refine PI.mk ?_ ?_ ?_ ?_ ?_ ?_ ?_ ?_ ?_ ?_ ?_ ?_ ?_ ?_ ?_ ?_ ?_ ?_ ?_ ?_ ?_
  · rw [f 5 (by omega), f 6 (by omega)]; exact h.blk
  · rw [f 5 (by omega), f 8 (by omega), sv_same, hct]; omega
  · rw [g1]; exact h.app
  · rw [g1, hgh]; exact h.hd
  · rw [f 6 (by omega), g1]; exact h.ram
  · rw [f 9 (by omega)]; exact h.st
  · rw [f 10 (by omega)]; exact h.he
  · rw [f 14 (by omega)]; exact h.qn
  · rw [f 14 (by omega), g3, g4]; exact h.q
  · simp only [f 8 (by omega), f 18 (by omega), g4, hCh]; exact h.gr
  · simp only [g4, hgw]
    intro d hd hg k hk
    have old := h.bf d hd hg k hk
    have b := hb d hd k hk
    rcases old with z | ⟨z1, z2 | z3⟩
    · exact Or.inl z
    · unfold bE at b
      rw [if_pos ⟨z1, by omega⟩] at b
      refine Or.inr ⟨z1, Or.inl ⟨by rw [f 5 (by omega)]; exact z2.1, by rw [sv_same]; omega⟩⟩
    · refine Or.inr ⟨z1, Or.inr ⟨z3.1, ?_⟩⟩
      rw [g1]; exact z3.2
  · simp only [g4, hgw]; exact h.ow1
  · simp only [g4, hgw]; exact h.ow6
  · simp only [g4, hgw, f 9 (by omega), f 14 (by omega)]; exact h.ovr
  · rw [g1]; exact h.nm
  · rw [g1]; exact h.so
  · rw [g1]; exact h.pm
  · simp only [hct, hgw]; exact h.cz
  · rw [f 3 (by omega)]; exact h.pce
  · simp only [g4, hgw]; exact h.sfe
  · rw [sv_cell _ _ _ _ (by omega)]; exact h.r0
theorem i64_32 {x : Int64} (h1 : -2147483648 ≤ x.toInt) (h2 : x.toInt < 2147483648) : (Int64.toInt32 x).toInt = x.toInt := by
  rw [Int64.toInt_toInt32, bmI' h1 h2]
theorem rdL {x : Int64} (h0 : 0 ≤ x.toInt) (h1 : x.toInt < 17179869184) : (x + 3).toInt = x.toInt + 3 ∧ ((x + 3) / 4 * 4).toInt = (x.toInt + 3) / 4 * 4 := by
  have e3 : (3 : Int64).toInt = 3 := by decide
  have e4 : (4 : Int64).toInt = 4 := by decide
  have a : (x + 3).toInt = x.toInt + 3 := by rw [add64] <;> rw [e3] <;> omega
  refine ⟨a, ?_⟩
  rw [Int64.toInt_mul, Int64.toInt_div, a, e4, Int.tdiv_eq_ediv_of_nonneg (by omega)]
  have e1 : ((x.toInt + 3) / 4).bmod (2 ^ 64) = (x.toInt + 3) / 4 := by apply Int.bmod_eq_of_le <;> omega
  rw [e1]
  apply Int.bmod_eq_of_le <;> omega
set_option maxHeartbeats 1000000 in
theorem mv {kc : it_Kc} (hk : KC kc) {B : Nat} {m : it_Me} (hI : Inv B m) {i : Nat} (hi : i < cnt m) {x : Int64} (hx1 : -8589934592 ≤ x.toInt) (hx2 : x.toInt < 8589934592) (t : Int32) : Lv (w_184 kc (14 + 5 * i) x t) (w_291 kc (nI i) x t) B m (Kp m) := by
  have h8 := cnt_le hI
  have i8 : i < 8 := by omega
  have hP := hI.p hi
  have o := hP.ord
  have s := hP.szI
  have l := hP.low0
  have e3 : (3 : Int64).toInt = 3 := by decide
  have e0 : (0 : Int64).toInt = 0 := by decide
  have ex3 : (x + 3).toInt = x.toInt + 3 := by rw [add64] <;> rw [e3] <;> omega
  have eE : ((x + 3) &&& -4).toInt = (x.toInt + 3) / 4 * 4 := by rw [and_m4L, ex3]
  obtain ⟨bc, a1, a2, a3⟩ := c_91o (kc := kc) hk hP 9 0 (m (14 + 5 * i) 5) (by omega) (by omega)
  obtain ⟨ds, q1, q2, q3, q4⟩ := hP.gr
  have at' := (Ch_at (by omega) ds _ q1 (by omega) (by omega)).2
  have key : ∀ e : Int, (m (14 + 5 * i) 5).toInt ≤ e → (e < bc.toInt ↔ ∃ d ∈ ds, ∃ y ∈ bL m i d, e < y) := fun e he => by
    rw [a2, lt_fm2]
    constructor
    · rintro (z | ⟨d, hd, y, hy, hey⟩)
      · omega
      · have hd9 : d < 9 := by have := List.mem_range'.mp hd; omega
        refine ⟨d, ?_, y, hy, hey⟩
        by_cases hm : d ∈ ds
        · exact hm
        · exfalso
          obtain ⟨k, hk', rfl⟩ := List.mem_map.mp hy
          have b := (bE_I hP hd9 (List.mem_range.mp hk')).2.2 (q3 d hd9 hm)
          unfold bE at hey
          rw [if_neg (by rw [b]; exact fun z => absurd z.1 (by decide))] at hey
          omega
    · rintro ⟨d, hd, y, hy, hey⟩
      exact Or.inr ⟨d, List.mem_range'.mpr ⟨d, by have := (at' d hd).1; omega, by omega⟩, y, hy, hey⟩
  have refB : ∀ M, Rel m M → ∃ br : Int32, 0 ≤ br.toInt ∧ (∀ e : Int, (m (14 + 5 * i) 5).toInt ≤ e → (e < br.toInt ↔ e < bc.toInt)) ∧ ∀ Φ : Int32 → it_Me → Prop, Φ br M → w_292 kc (nI i) M Φ := fun M hM => by
    obtain ⟨br, b1, b2, b3⟩ := r_292o (kc := kc) hI hM hi ds _ 0 q1 (by omega) (by omega) (Int.le_refl _) (by decide)
    refine ⟨br, b1, fun e he => ?_, fun Φ h => ?_⟩
    · rw [key e he, b2, lt_fm2]
      constructor
      · rintro (z | z)
        · simp only [Int32.reduceToInt] at z; omega
        · exact z
      · exact fun z => Or.inr z
    · unfold w_292
      rw [cI i8, hM.low hi]
      exact ⟨vI i8, _, b3 Φ _ h⟩
  have bcb : (m (14 + 5 * i) 5).toInt ≤ bc.toInt := by
    by_cases z : (m (14 + 5 * i) 5).toInt ≤ bc.toInt
    · exact z
    · exfalso
      have : ¬ (m (14 + 5 * i) 5).toInt - 1 < bc.toInt := by omega
      rw [a2, lt_fm2] at this
      exact this (Or.inl (by omega))
  -- the reference up to its tests
  have refT : ∀ M, Rel m M → ∀ Φ : it_Me → Prop, ((x.toInt + 3) / 4 * 4 < bc.toInt → w_291_50 kc Φ (nI i) M) → (¬ (x.toInt + 3) / 4 * 4 < bc.toInt → ∀ u : Int64, u.toInt = (x.toInt + 3) / 4 * 4 → ((lg_cmp u (Int32.toInt64 (M 92 i))) ≤ 0 → vp_in (nI i) 8 ∧ (vp_in (nI i) 8 ∧ ((t = 0 → w_280 kc (nI i) (it_sv M 91 i (Int64.toInt32 u)) (fun m3 => w_291_120 kc Φ m3)) ∧ (¬ t = 0 → w_281 kc (nI i) (M 91 i) (it_sv M 91 i (Int64.toInt32 u)) (fun m4 => w_291_120 kc Φ m4))))) ∧ (¬ (lg_cmp u (Int32.toInt64 (M 92 i))) ≤ 0 → w_282 kc (nI i) 9 M (fun m5 => w_291_120 kc Φ m5))) → w_291 kc (nI i) x t M Φ := fun M hM Φ h1 h2 => by
    obtain ⟨br, b1, b2, b3⟩ := refB M hM
    unfold w_291 w_291_23
    rw [cI i8, hM.base hi, lgge, e0]
    refine ⟨fun z => ⟨by decide, vI i8, ?_⟩, fun z => ⟨vI i8, ?_⟩⟩
    · have r := rdL z (by omega)
      rw [lgl, r.2, Int32.toInt_toInt64]
      refine ⟨fun y => h1 (by omega), fun y => b3 _ ?_⟩
      rw [lgge, r.2, Int32.toInt_toInt64]
      have bb := b2 ((x.toInt + 3) / 4 * 4) (by omega)
      refine ⟨fun w => ⟨vI i8, ?_⟩, fun w => h1 (bb.mp (by omega))⟩
      exact h2 (fun v => by have := bb.mpr v; omega) _ r.2
    · rw [lgl, Int32.toInt_toInt64]
      refine ⟨fun y => h1 (by omega), fun y => ?_⟩
      exfalso
      omega
  by_cases z1 : (x.toInt + 3) / 4 * 4 < bc.toInt
  · obtain ⟨m', c1, c2, c3, c4, c5⟩ := lv_fail (kc := kc) hI hi 6
    refine ⟨m', fun Φ h => ?_, c2, c3, c4, fun M hM Φ h => refT M hM Φ (fun _ => ?_) (fun z => absurd z1 z)⟩
    · unfold w_184 w_184_86
      refine ⟨_, a3 _ _ ?_⟩
      unfold w_91_104
      dsimp only
      rw [lgge, eE, Int32.toInt_toInt64]
      exact ⟨fun z => by omega, fun _ => c1 _ h⟩
    · unfold w_291_50 w_291_120
      exact c5 M hM _ h
  by_cases z2 : (x.toInt + 3) / 4 * 4 ≤ (m (14 + 5 * i) 8).toInt
  · have ev : (Int64.toInt32 ((x + 3) &&& -4)).toInt = (x.toInt + 3) / 4 * 4 := by rw [i64_32] <;> rw [eE] <;> omega
    have hP1 : PI (it_sv m (14 + 5 * i) 7 (Int64.toInt32 ((x + 3) &&& -4))) i := hP.brk (by rw [ev]; omega) (by rw [ev]; exact z2) (by rw [ev]; omega) (fun d hd k hk' => by
      rw [ev]
      by_cases y : bE m i d k ≤ (x.toInt + 3) / 4 * 4
      · exact y
      · exfalso
        apply z1
        rw [a2, lt_fm2]
        exact Or.inr ⟨d, List.mem_range'.mpr ⟨d, hd, by omega⟩, bE m i d k, List.mem_map.mpr ⟨k, List.mem_range.mpr hk', rfl⟩, by omega⟩)
    have I1 : Inv B (it_sv m (14 + 5 * i) 7 (Int64.toInt32 ((x + 3) &&& -4))) := hI.prc hi (fun k h1 _ _ => sv_cell _ _ _ _ h1) (sv_n2 _ _ _ _ (by omega)) (sv_n2 _ _ _ _ (by omega)) (sv_n2 _ _ _ _ (by omega)) (fun _ => hP1)
    have k1 : i < cnt (it_sv m (14 + 5 * i) 7 (Int64.toInt32 ((x + 3) &&& -4))) := by rw [cnt_sv _ _ _ (by omega)]; exact hi
    have R1 := fun M (hM : Rel m M) => hM.ps1 h8 hi (a := 91) (c := 7) (by decide) (by omega) (by omega) (Int64.toInt32 ((x + 3) &&& -4)) (fun q => absurd q (by omega)) (fun q => absurd q (by omega))
    have kp1 : Kp m (it_sv m (14 + 5 * i) 7 (Int64.toInt32 ((x + 3) &&& -4))) := Kp.rfl.sv (by omega)
    have fr1 : FrC m (it_sv m (14 + 5 * i) 7 (Int64.toInt32 ((x + 3) &&& -4))) := FrC.rfl.sv (by omega)
    have cls : ∀ Φ : it_Me → Prop, ((t = 0 → w_138 kc (14 + 5 * i) (it_sv m (14 + 5 * i) 7 (Int64.toInt32 ((x + 3) &&& -4))) Φ) ∧ (¬ t = 0 → w_139 kc (14 + 5 * i) (m (14 + 5 * i) 7) (it_sv m (14 + 5 * i) 7 (Int64.toInt32 ((x + 3) &&& -4))) Φ)) → w_184 kc (14 + 5 * i) x t m Φ := fun Φ h => by
      unfold w_184 w_184_86
      refine ⟨_, a3 _ _ ?_⟩
      unfold w_91_104
      dsimp only
      rw [lgge, eE, Int32.toInt_toInt64, lgle, eE, Int32.toInt_toInt64]
      exact ⟨fun _ => ⟨fun _ => h, fun z => absurd z2 z⟩, fun z => by omega⟩
    have eu : ∀ u : Int64, u.toInt = (x.toInt + 3) / 4 * 4 → Int64.toInt32 u = Int64.toInt32 ((x + 3) &&& -4) := fun u hu => by rw [show u = (x + 3) &&& -4 from Int64.toInt_inj.mp (by rw [hu, eE])]
    by_cases ht : t = 0
    · obtain ⟨m', c1, c2, c3, c4, c5⟩ := lv_ok (kc := kc) I1 k1
      refine ⟨m', fun Φ h => cls Φ ⟨fun _ => c1 _ h, fun z => absurd ht z⟩, c2, fr1.trans c3, kp1.trans c4, fun M hM Φ h => refT M hM Φ (fun z => absurd z z1) (fun _ u hu => ?_)⟩
      rw [hM.low hi, lgle, hu, Int32.toInt_toInt64, eu u hu]
      refine ⟨fun _ => ⟨vI i8, vI i8, fun _ => ?_, fun z => absurd ht z⟩, fun z => absurd z2 z⟩
      exact c5 _ (R1 M hM) _ (fun M' r f => h M' r ((FrM.rfl.sv (by omega)).trans f))
    · obtain ⟨m', c1, c2, c3, c4, c5⟩ := lv_ok1 (kc := kc) I1 k1 (m (14 + 5 * i) 7)
      refine ⟨m', fun Φ h => cls Φ ⟨fun z => absurd z ht, fun _ => c1 _ h⟩, c2, fr1.trans c3, kp1.trans c4, fun M hM Φ h => refT M hM Φ (fun z => absurd z z1) (fun _ u hu => ?_)⟩
      rw [hM.low hi, lgle, hu, Int32.toInt_toInt64, eu u hu, hM.brk hi]
      refine ⟨fun _ => ⟨vI i8, vI i8, fun z => absurd z ht, fun _ => ?_⟩, fun z => absurd z2 z⟩
      exact c5 _ (R1 M hM) _ (fun M' r f => h M' r ((FrM.rfl.sv (by omega)).trans f))
  · obtain ⟨m', c1, c2, c3, c4, c5⟩ := lv_fail (kc := kc) hI hi 9
    refine ⟨m', fun Φ h => ?_, c2, c3, c4, fun M hM Φ h => refT M hM Φ (fun z => absurd z z1) (fun _ u hu => ?_)⟩
    · unfold w_184 w_184_86
      refine ⟨_, a3 _ _ ?_⟩
      unfold w_91_104
      dsimp only
      rw [lgge, eE, Int32.toInt_toInt64, lgle, eE, Int32.toInt_toInt64]
      exact ⟨fun _ => ⟨fun z => absurd z z2, fun _ => c1 _ h⟩, fun z => by omega⟩
    · rw [hM.low hi, lgle, hu, Int32.toInt_toInt64]
      exact ⟨fun z => absurd z z2, fun _ => c5 M hM _ h⟩
theorem am {kc : it_Kc} (hk : KC kc) {B : Nat} {m : it_Me} (hI : Inv B m) {i : Nat} (hi : i < cnt m) : Lv (w_183 kc (14 + 5 * i)) (w_290 kc (nI i) (m (14 + 5 * i + 2) 10) (m (14 + 5 * i + 2) 11)) B m (Kp m) := by
  have h8 := cnt_le hI
  have i8 : i < 8 := by omega
  have hP := hI.p hi
  have t1 := tlo (m (14 + 5 * i + 2) 11)
  have t2 := thi (m (14 + 5 * i + 2) 11)
  have t3 := tlo (m (14 + 5 * i) 7)
  have t4 := thi (m (14 + 5 * i) 7)
  have one : ∀ v : Int32, ∀ a0 : Int32, m (14 + 5 * i + 2) 10 = a0 → (∀ Φ, w_139 kc (14 + 5 * i) v m (fun m3 => w_183_163 kc Φ m3) → w_183 kc (14 + 5 * i) m Φ) → (∀ M, Rel m M → ∀ Φ, w_281 kc (nI i) v M (fun m3 => w_290_155 kc Φ m3) → w_290 kc (nI i) (m (14 + 5 * i + 2) 10) (m (14 + 5 * i + 2) 11) M Φ) → Lv (w_183 kc (14 + 5 * i)) (w_290 kc (nI i) (m (14 + 5 * i + 2) 10) (m (14 + 5 * i + 2) 11)) B m (Kp m) := fun v a0 _ hc hr => by
    obtain ⟨m', c1, c2, c3, c4, c5⟩ := lv_ok1 (kc := kc) hI hi v
    exact ⟨m', fun Φ h => hc Φ (c1 _ h), c2, c3, c4, fun M hM Φ h => hr M hM Φ (c5 M hM _ h)⟩
  by_cases a0 : m (14 + 5 * i + 2) 10 = 0
  · obtain ⟨m', c1, c2, c3, c4, c5⟩ := mv (kc := kc) hk hI hi (x := Int32.toInt64 (m (14 + 5 * i + 2) 11) &&& 4294967295) (by rw [u32]; omega) (by rw [u32]; omega) 0
    refine ⟨m', fun Φ h => ?_, c2, c3, c4, fun M hM Φ h => ?_⟩
    · unfold w_183
      rw [cl_10, cl_11]
      exact ⟨v32_11, v32_10, fun _ => c1 _ h, fun z => absurd a0 z⟩
    · unfold w_290
      exact ⟨fun _ => c5 M hM _ h, fun z => absurd a0 z⟩
  by_cases a1 : m (14 + 5 * i + 2) 10 = 1
  · have es : (Int32.toInt64 (m (14 + 5 * i) 7) + Int32.toInt64 (m (14 + 5 * i + 2) 11)).toInt = (m (14 + 5 * i) 7).toInt + (m (14 + 5 * i + 2) 11).toInt := by rw [add64] <;> rw [Int32.toInt_toInt64, Int32.toInt_toInt64] <;> omega
    obtain ⟨m', c1, c2, c3, c4, c5⟩ := mv (kc := kc) hk hI hi (x := Int32.toInt64 (m (14 + 5 * i) 7) + Int32.toInt64 (m (14 + 5 * i + 2) 11)) (by rw [es]; omega) (by rw [es]; omega) 1
    refine ⟨m', fun Φ h => ?_, c2, c3, c4, fun M hM Φ h => ?_⟩
    · unfold w_183
      rw [cl_10, cl_11]
      exact ⟨v32_11, v32_10, fun z => absurd z a0, fun _ => ⟨fun _ => c1 _ h, fun z => absurd a1 z⟩⟩
    · unfold w_290
      rw [cI i8, hM.brk hi]
      exact ⟨fun z => absurd z a0, fun _ => ⟨fun _ => ⟨vI i8, c5 M hM _ h⟩, fun z => absurd a1 z⟩⟩
  by_cases a2 : m (14 + 5 * i + 2) 10 = 2
  · refine one (m (14 + 5 * i + 1) 1) 2 a2 (fun Φ h => ?_) (fun M hM Φ h => ?_)
    · unfold w_183
      rw [cl_10, cl_11]
      exact ⟨v32_11, v32_10, fun z => absurd z a0, fun _ => ⟨fun z => absurd z a1, fun _ => ⟨fun _ => h, fun z => absurd a2 z⟩⟩⟩
    · unfold w_290
      rw [cI i8, hM.addr hi]
      exact ⟨fun z => absurd z a0, fun _ => ⟨fun z => absurd z a1, fun _ => ⟨fun _ => ⟨vI i8, h⟩, fun z => absurd a2 z⟩⟩⟩
  by_cases a3 : m (14 + 5 * i + 2) 10 = 3
  · refine one (m (14 + 5 * i + 1) 1 + m (14 + 5 * i + 1) 3) 3 a3 (fun Φ h => ?_) (fun M hM Φ h => ?_)
    · unfold w_183
      rw [cl_10, cl_11]
      exact ⟨v32_11, v32_10, fun z => absurd z a0, fun _ => ⟨fun z => absurd z a1, fun _ => ⟨fun z => absurd z a2, fun _ => ⟨fun _ => h, fun z => absurd a3 z⟩⟩⟩⟩
    · unfold w_290
      rw [cI i8, (hM.app i hi).1]
      exact ⟨fun z => absurd z a0, fun _ => ⟨fun z => absurd z a1, fun _ => ⟨fun z => absurd z a2, fun _ => ⟨fun _ => ⟨vI i8, h⟩, fun z => absurd a3 z⟩⟩⟩⟩
  by_cases a4 : m (14 + 5 * i + 2) 10 = 4
  · refine one (m (14 + 5 * i) 5) 4 a4 (fun Φ h => ?_) (fun M hM Φ h => ?_)
    · unfold w_183
      rw [cl_10, cl_11]
      exact ⟨v32_11, v32_10, fun z => absurd z a0, fun _ => ⟨fun z => absurd z a1, fun _ => ⟨fun z => absurd z a2, fun _ => ⟨fun z => absurd z a3, fun _ => ⟨fun _ => h, fun z => absurd a4 z⟩⟩⟩⟩⟩
    · unfold w_290
      rw [cI i8, hM.base hi]
      exact ⟨fun z => absurd z a0, fun _ => ⟨fun z => absurd z a1, fun _ => ⟨fun z => absurd z a2, fun _ => ⟨fun z => absurd z a3, fun _ => ⟨fun _ => ⟨vI i8, h⟩, fun z => absurd a4 z⟩⟩⟩⟩⟩
  by_cases a5 : m (14 + 5 * i + 2) 10 = 5
  · refine one (m (14 + 5 * i) 7) 5 a5 (fun Φ h => ?_) (fun M hM Φ h => ?_)
    · unfold w_183
      rw [cl_10, cl_11]
      exact ⟨v32_11, v32_10, fun z => absurd z a0, fun _ => ⟨fun z => absurd z a1, fun _ => ⟨fun z => absurd z a2, fun _ => ⟨fun z => absurd z a3, fun _ => ⟨fun z => absurd z a4, fun _ => ⟨fun _ => h, fun z => absurd a5 z⟩⟩⟩⟩⟩⟩
    · unfold w_290
      rw [cI i8, hM.brk hi]
      exact ⟨fun z => absurd z a0, fun _ => ⟨fun z => absurd z a1, fun _ => ⟨fun z => absurd z a2, fun _ => ⟨fun z => absurd z a3, fun _ => ⟨fun z => absurd z a4, fun _ => ⟨fun _ => ⟨vI i8, h⟩, fun z => absurd a5 z⟩⟩⟩⟩⟩⟩
  by_cases a6 : m (14 + 5 * i + 2) 10 = 6
  · refine one (m (14 + 5 * i) 8) 6 a6 (fun Φ h => ?_) (fun M hM Φ h => ?_)
    · unfold w_183
      rw [cl_10, cl_11]
      exact ⟨v32_11, v32_10, fun z => absurd z a0, fun _ => ⟨fun z => absurd z a1, fun _ => ⟨fun z => absurd z a2, fun _ => ⟨fun z => absurd z a3, fun _ => ⟨fun z => absurd z a4, fun _ => ⟨fun z => absurd z a5, fun _ => ⟨fun _ => h, fun z => absurd a6 z⟩⟩⟩⟩⟩⟩⟩
    · unfold w_290
      rw [cI i8, hM.low hi]
      exact ⟨fun z => absurd z a0, fun _ => ⟨fun z => absurd z a1, fun _ => ⟨fun z => absurd z a2, fun _ => ⟨fun z => absurd z a3, fun _ => ⟨fun z => absurd z a4, fun _ => ⟨fun z => absurd z a5, fun _ => ⟨fun _ => ⟨vI i8, h⟩, fun z => absurd a6 z⟩⟩⟩⟩⟩⟩⟩
  · obtain ⟨m', c1, c2, c3, c4, c5⟩ := lv_fail (kc := kc) hI hi 10
    refine ⟨m', fun Φ h => ?_, c2, c3, c4, fun M hM Φ h => ?_⟩
    · unfold w_183
      rw [cl_10, cl_11]
      exact ⟨v32_11, v32_10, fun z => absurd z a0, fun _ => ⟨fun z => absurd z a1, fun _ => ⟨fun z => absurd z a2, fun _ => ⟨fun z => absurd z a3, fun _ => ⟨fun z => absurd z a4, fun _ => ⟨fun z => absurd z a5, fun _ => ⟨fun z => absurd z a6, fun _ => c1 _ h⟩⟩⟩⟩⟩⟩⟩
    · unfold w_290
      exact ⟨fun z => absurd z a0, fun _ => ⟨fun z => absurd z a1, fun _ => ⟨fun z => absurd z a2, fun _ => ⟨fun z => absurd z a3, fun _ => ⟨fun z => absurd z a4, fun _ => ⟨fun z => absurd z a5, fun _ => ⟨fun z => absurd z a6, fun _ => c5 M hM _ h⟩⟩⟩⟩⟩⟩⟩
/-- exit -/
theorem zs_sv (m : it_Me) (i : Nat) {k j : Nat} (v : Int32) (h : k ≠ 2 ∧ k ≠ 14 + 5 * i + 4) : zsC (it_sv m k j v) i = it_sv (zsC m i) k j v := by
  unfold zsC
  rw [filL_sv _ _ _ h.1]
  have : rnC (it_sv m k j v) i = rnC m i := by
    funext d
    unfold rnC
    rw [sv_cell _ _ _ _ (Ne.symm h.2)]
  rw [this]
theorem ov_sv (m : it_Me) (i : Nat) (s : Int32) {k j : Nat} (v : Int32) (h : k ≠ 2 ∧ k ≠ 14 + 5 * i + 4 ∧ (k ≠ 14 + 5 * i ∨ j ≠ 9 ∧ j ≠ 14)) : ovC (it_sv m k j v) i s = it_sv (ovC m i s) k j v := by
  unfold ovC
  rw [zs_sv _ _ _ ⟨h.1, h.2.1⟩, sv_comm _ k j v _ 9 _ (by omega), sv_comm _ k j v _ 14 _ (by omega)]
theorem ov_nt (m : it_Me) (i : Nat) (s p : Int32) (k : Nat) (n : Int32) : ovC (nt m p k n) i s = nt (ovC m i s) p k n := by
  unfold nt ntC
  rw [ov_c (k := 4) _ _ _ (by omega), ov_c (k := 5) _ _ _ (by omega)]
  split
  · rw [ov_sv _ _ _ _ (by omega), ov_sv _ _ _ _ (by omega), ov_sv _ _ _ _ (by omega), ov_sv _ _ _ _ (by omega), ov_sv _ _ _ _ (by omega), ov_sv _ _ _ _ (by omega), ov_sv _ _ _ _ (by omega)]
  · rw [ov_sv _ _ _ _ (by omega), ov_sv _ _ _ _ (by omega), ov_sv _ _ _ _ (by omega), ov_sv _ _ _ _ (by omega), ov_sv _ _ _ _ (by omega), ov_sv _ _ _ _ (by omega), ov_sv _ _ _ _ (by omega), ov_sv _ _ _ _ (by omega)]
theorem xt {kc : it_Kc} (hk : KC kc) {B : Nat} {m : it_Me} (hI : Inv B m) (hB : B < 2147483000) {i : Nat} (hi : i < cnt m) : Lv (w_185 kc (14 + 5 * i)) (w_293 kc (nI i) (m (14 + 5 * i + 2) 10) (m (14 + 5 * i + 2) 11)) (B + 1) m (Kp m) := by
  have h8 := cnt_le hI
  have i8 : i < 8 := by omega
  by_cases a0 : m (14 + 5 * i + 2) 10 = 0
  · have I1 := hI.fld (c := 11) (v := m (14 + 5 * i + 2) 11) hi (by omega) (fun q => absurd q (by omega)) (fun q => absurd q (by omega))
    have k1 : i < cnt (it_sv m (14 + 5 * i) 11 (m (14 + 5 * i + 2) 11)) := by rw [cnt_sv _ _ _ (by omega)]; exact hi
    have I2 : Inv (B + 1) (nt (it_sv m (14 + 5 * i) 11 (m (14 + 5 * i + 2) 11)) (nI i) 4 (m (14 + 5 * i + 2) 11)) := I1.note hB (Nat.le_refl _) _ (by omega) _
    have k2 : i < cnt (nt (it_sv m (14 + 5 * i) 11 (m (14 + 5 * i + 2) 11)) (nI i) 4 (m (14 + 5 * i + 2) 11)) := by rw [cnt_nt]; exact k1
    have ee : ovC (nt (it_sv m (14 + 5 * i) 11 (m (14 + 5 * i + 2) 11)) (nI i) 4 (m (14 + 5 * i + 2) 11)) i 4 = nt (it_sv (ovC m i 4) (14 + 5 * i) 11 (m (14 + 5 * i + 2) 11)) (nI i) 4 (m (14 + 5 * i + 2) 11) := by rw [ov_nt, ov_sv _ _ _ _ (by omega)]
    refine ⟨ovC (nt (it_sv m (14 + 5 * i) 11 (m (14 + 5 * i + 2) 11)) (nI i) 4 (m (14 + 5 * i + 2) 11)) i 4, fun Φ h => ?_, ov_I I2 k2 (Or.inl rfl), ?_, ?_, fun M hM Φ h => ?_⟩
    · unfold w_185 w_185_67 w_78
      rw [cl_10, cl_11, sv_n2 _ _ _ _ (by omega), hI.num i i8]
      exact ⟨v32_10, fun _ => ⟨v32_11, c_69 hk I1 (k := 4) (by omega) (c_79 hk (I2.p k2) h)⟩, fun z => absurd a0 z⟩
    · intro k hk'
      rw [ov_c _ _ _ (by omega), nt_c _ _ _ _ (by omega), sv_cell _ _ _ _ (by omega)]
    · exact Kp.of (fun k hk' => by rw [ov_c _ _ _ (by omega), nt_c _ _ _ _ (by omega), sv_cell _ _ _ _ (by omega)]) (by rw [ov_c _ _ _ (by omega), nt_40, sv_n1 _ _ _ _ _ (by omega)])
    · unfold w_293 w_293_47
      rw [cI i8]
      refine ⟨fun _ => ov hk hI hi (Or.inl rfl) hM (fun M1 r1 f1 => ⟨vI i8, ?_⟩), fun z => absurd a0 z⟩
      have I3 := ov_I hI hi (s := 4) (Or.inl rfl)
      have k3 : cnt (ovC m i 4) = cnt m := cnt_ov
      have R2 := r1.ps1 (i := i) (a := 101) (c := 11) (by rw [k3]; exact h8) (by rw [k3]; exact hi) (by decide) (by omega) (by omega) (m (14 + 5 * i + 2) 11) (fun q => absurd q (by omega)) (fun q => absurd q (by omega))
      have I4 := I3.fld (i := i) (c := 11) (v := m (14 + 5 * i + 2) 11) (by rw [k3]; exact hi) (by omega) (fun q => absurd q (by omega)) (fun q => absurd q (by omega))
      have R3 := R2.note4 I4 (nI i) (m (14 + 5 * i + 2) 11)
      rw [← ee] at R3
      refine r_257 I4 (R2.counts 11 (by omega)) (h _ R3 (fun k hk' => ?_))
      rw [ntM_c _ _ _ _ (by omega), sv_cell _ _ _ _ (by omega)]
      exact f1 k hk'
  by_cases a1 : m (14 + 5 * i + 2) 10 = 1
  · obtain ⟨m', c1, c2, c3, c4, c5⟩ := sg hk hI hB hi
    refine ⟨m', fun Φ h => ?_, c2, c3, c4, fun M hM Φ h => ?_⟩
    · unfold w_185
      rw [cl_10, cl_11]
      exact ⟨v32_10, fun z => absurd z a0, fun _ => ⟨fun _ => c1 _ h, fun z => absurd a1 z⟩⟩
    · unfold w_293
      exact ⟨fun z => absurd z a0, fun _ => ⟨fun _ => c5 M hM _ h, fun z => absurd a1 z⟩⟩
  · obtain ⟨m', c1, c2, c3, c4, c5⟩ := lv_fail (kc := kc) hI hi 10
    refine ⟨m', fun Φ h => ?_, c2.mono (by omega), c3, c4, fun M hM Φ h => ?_⟩
    · unfold w_185
      rw [cl_10, cl_11]
      exact ⟨v32_10, fun z => absurd z a0, fun _ => ⟨fun z => absurd z a1, fun _ => c1 _ h⟩⟩
    · unfold w_293
      exact ⟨fun z => absurd z a0, fun _ => ⟨fun z => absurd z a1, fun _ => c5 M hM _ h⟩⟩
