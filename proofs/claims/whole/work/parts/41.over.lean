/-! Starting again; the end of a process; faults. -/
theorem fil_sv (m : it_Me) (k j : Nat) (v : Int32) (c a b : Nat) (z : Int32) (h : k ≠ c) : it_fil (it_sv m k j v) c a b z = it_sv (it_fil m c a b z) k j v := by
  funext x y
  by_cases hx : x = c
  · subst hx
    rw [fil_rd, sv_n1 _ _ _ _ _ (Ne.symm h), sv_n1 _ _ _ _ _ (Ne.symm h), fil_rd]
  · rw [fil_n1 _ _ _ _ _ _ hx, sv_rd, sv_rd, fil_n1 _ _ _ _ _ _ hx]
theorem st_sv (m : it_Me) (i : Nat) {k j : Nat} (v : Int32) (h : k ≠ 2 ∧ k ≠ 14 + 5 * i + 1 ∧ k ≠ 14 + 5 * i + 2 ∧ k ≠ 14 + 5 * i + 4 ∧ (k ≠ 14 + 5 * i ∨ j = 12)) : stC (it_sv m k j v) i = it_sv (stC m i) k j v := by
  have r5 : it_sv m k j v (14 + 5 * i) 5 = m (14 + 5 * i) 5 := sv_ne _ _ _ _ (by omega)
  have r6 : it_sv m k j v (14 + 5 * i) 6 = m (14 + 5 * i) 6 := sv_ne _ _ _ _ (by omega)
  have ra : it_sv m k j v (14 + 5 * i + 1) = m (14 + 5 * i + 1) := sv_cell _ _ _ _ (by omega)
  unfold stC st3 st2 st1 brkOf pcOf ctl
  rw [r5, r6, ra]
  rw [fil_sv m k j v 2 _ _ _ (by omega)]
  rw [sv_comm _ k j v (14 + 5 * i) 7 _ (by omega)]
  rw [sv_comm _ k j v (14 + 5 * i) 8 _ (by omega)]
  rw [fil_sv _ k j v (14 + 5 * i + 4) _ _ _ (by omega)]
  rw [sv_comm _ k j v (14 + 5 * i) 18 _ (by omega)]
  rw [sv_comm _ k j v (14 + 5 * i) 14 _ (by omega)]
  rw [fil_sv _ k j v (14 + 5 * i + 2) _ _ _ (by omega)]
  rw [sv_comm _ k j v (14 + 5 * i + 2) 2 _ (by omega)]
  rw [sv_comm _ k j v (14 + 5 * i + 2) 10 _ (by omega)]
  rw [sv_comm _ k j v (14 + 5 * i + 2) 11 _ (by omega)]
  rw [sv_comm _ k j v (14 + 5 * i + 2) 12 _ (by omega)]
  rw [sv_comm _ k j v (14 + 5 * i + 2) 13 _ (by omega)]
  rw [sv_comm _ k j v (14 + 5 * i) 3 _ (by omega)]
  rw [sv_comm _ k j v (14 + 5 * i) 4 _ (by omega)]
  rw [sv_comm _ k j v (14 + 5 * i) 9 _ (by omega)]
  rw [sv_comm _ k j v (14 + 5 * i) 11 _ (by omega)]
def sgC (m : it_Me) (i : Nat) : it_Me := nt (it_sv (stC m i) (14 + 5 * i) 12 (m (14 + 5 * i) 12 + 1)) (nI i) 3 (m (14 + 5 * i) 12 + 1)
theorem c_76 {kc : it_Kc} (hk : KC kc) {B : Nat} {m : it_Me} (hI : Inv B m) {i : Nat} (hi : i < cnt m) {Φ : it_Me → Prop} (h : Φ (sgC m i)) : w_76 kc (14 + 5 * i) m Φ := by
  have h8 := cnt_le hI
  have b := blk_I ((hI.p hi) 0)
  have I1 := st_I hI hi
  have ec : cnt (stC m i) = cnt m := cnt_cg (by rw [st_c _ _ (by omega)])
  have I2 := I1.fld (c := 12) (v := m (14 + 5 * i) 12 + 1) (by rw [ec]; exact hi) (by omega) (fun q => absurd q (by omega)) (fun q => absurd q (by omega))
  unfold w_76
  refine c_75 (by omega) (by omega) ?_
  rw [sv_same, sv_n2 _ _ _ _ (by omega), st_P _ _ (by omega), st_P _ _ (by omega), hI.num i (by omega)]
  exact c_69 hk I2 (k := 3) (by omega) h
theorem sg_I {B B' : Nat} {m : it_Me} (hI : Inv B m) (hB : B < 2147483000) (hB' : B + 1 ≤ B') {i : Nat} (hi : i < cnt m) : Inv B' (sgC m i) := by
  have ec : cnt (stC m i) = cnt m := cnt_cg (by rw [st_c _ _ (by omega)])
  exact ((st_I hI hi).fld (c := 12) (v := m (14 + 5 * i) 12 + 1) (by rw [ec]; exact hi) (by omega) (fun q => absurd q (by omega)) (fun q => absurd q (by omega))).note hB hB' _ (by omega) _
theorem sg_K (m : it_Me) {i : Nat} (i8 : i < 8) : Kp m (sgC m i) ∧ FrC m (sgC m i) := by
  unfold sgC
  refine ⟨Kp.of (fun k hk => ?_) ?_, fun k hk => ?_⟩
  · rw [nt_c _ _ _ _ (by omega), sv_cell _ _ _ _ (by omega), st_c _ _ (by omega)]
  · rw [nt_40, sv_n1 _ _ _ _ _ (by omega), st_c _ _ (by omega)]
  · rw [nt_c _ _ _ _ (by omega), sv_cell _ _ _ _ (by omega), st_c _ _ (by omega)]
/-- startAgain -/
theorem sg_R {kc : it_Kc} {B : Nat} {m M : it_Me} (hI : Inv B m) (h : Rel m M) {i : Nat} (hi : i < cnt m) {Φ : it_Me → Prop} (hp : ∀ M', Rel (sgC m i) M' → FrM M M' → Φ M') : w_255 kc (nI i) M Φ := by
  have h8 := cnt_le hI
  have i8 : i < 8 := by omega
  have hP := hI.p hi
  have b := blk_I (hP 0)
  have ap := hP.app
  have R1 := h.ps1 h8 hi (a := 100) (c := 12) (by decide) (by omega) (by omega) (m (14 + 5 * i) 12 + 1) (fun q => absurd q (by omega)) (fun q => absurd q (by omega))
  have I1 := hI.fld (c := 12) (v := m (14 + 5 * i) 12 + 1) hi (by omega) (fun q => absurd q (by omega)) (fun q => absurd q (by omega))
  have k1 : cnt (it_sv m (14 + 5 * i) 12 (m (14 + 5 * i) 12 + 1)) = cnt m := cnt_sv _ _ _ (by omega)
  have R2 := R1.cn (by rw [k1]; exact h8) 8 (m 5 8 + 1)
  have I2 := I1.cnt5 (c := 8) (by omega) (by omega) (m 5 8 + 1)
  have k2 : i < cnt (it_sv (it_sv m (14 + 5 * i) 12 (m (14 + 5 * i) 12 + 1)) 5 8 (m 5 8 + 1)) := by rw [cnt_sv _ _ _ (by omega), k1]; exact hi
  have R3 := st_Rl I2 R2 k2
  have I3 := st_I I2 k2
  have R4 := nt_R I3 R3 (nI i) 3 (m (14 + 5 * i) 12 + 1)
  have e1 : it_sv (it_sv m (14 + 5 * i) 12 (m (14 + 5 * i) 12 + 1)) 5 8 (m 5 8 + 1) (14 + 5 * i + 1) = m (14 + 5 * i + 1) := by rw [sv_cell _ _ _ _ (by omega), sv_cell _ _ _ _ (by omega)]
  rw [e1] at R3 R4
  have eC : ntC (stC (it_sv (it_sv m (14 + 5 * i) 12 (m (14 + 5 * i) 12 + 1)) 5 8 (m 5 8 + 1)) i) (nI i) 3 (m (14 + 5 * i) 12 + 1) = sgC m i := by
    unfold sgC nt
    rw [if_neg (by decide), st_sv _ _ _ (by omega), st_sv _ _ _ (by omega), ntC_cn _ _ _ _ (by omega)]
    rw [sv_n1 _ _ _ _ _ (by omega), st_c _ _ (by omega)]
    rfl
  rw [eC] at R4
  have ea : (M 79 i + 2).toInt = (M 79 i).toInt + 2 := by rw [h.addr hi]; exact adI (k := 2) (by omega) (by omega) (by omega)
  have hA : InM (m (14 + 5 * i + 1) 1 + 2) := by rw [← h.addr hi]; exact ⟨by rw [ea, h.addr hi]; omega, by rw [ea, h.addr hi]; omega⟩
  have hwi := wi_eq hA
  rw [h.addr hi] at ea
  unfold w_255
  rw [cI i8, cl_8, h.rest hi, sv_n1 _ _ _ _ _ (by omega), h.counts 8 (by omega)]
  refine ⟨vI i8, vI i8, v12_8, v12_8, ?_⟩
  have g79 : it_sv (it_sv M 100 i (m (14 + 5 * i) 12 + 1)) 69 8 (m 5 8 + 1) 79 i = m (14 + 5 * i + 1) 1 := by rw [sv_n1 _ _ _ _ _ (by omega), sv_n1 _ _ _ _ _ (by omega)]; exact h.addr hi
  have g89 : it_sv (it_sv M 100 i (m (14 + 5 * i) 12 + 1)) 69 8 (m 5 8 + 1) 89 i = m (14 + 5 * i) 5 := by rw [sv_n1 _ _ _ _ _ (by omega), sv_n1 _ _ _ _ _ (by omega)]; exact h.base hi
  have g90 : it_sv (it_sv M 100 i (m (14 + 5 * i) 12 + 1)) 69 8 (m 5 8 + 1) 90 i = m (14 + 5 * i) 6 := by rw [sv_n1 _ _ _ _ _ (by omega), sv_n1 _ _ _ _ _ (by omega)]; exact h.size hi
  refine r_253 i8 (w := m 2 (wi (m (14 + 5 * i + 1) 1 + 2))) (by rw [g89, g90]; omega) (by rw [g79]; omega) (fun j hj => ?_) ⟨vI i8, ?_⟩
  · rw [g79, sv_n1 _ _ _ _ _ (by omega), sv_n1 _ _ _ _ _ (by omega)]
    exact h.mem _ (wi_lt hA) (nexF hI (by omega)) j hj
  · have hh : hf (m 2 (wi (m (14 + 5 * i + 1) 1 + 2))) (bj (m (14 + 5 * i + 1) 1 + 2)) = m (14 + 5 * i + 1) 2 := by rw [hP.hd, gh_in hA]
    rw [g79, hh]
    have g100 : stM (it_sv (it_sv M 100 i (m (14 + 5 * i) 12 + 1)) 69 8 (m 5 8 + 1)) i (m (14 + 5 * i + 1) 1 + m (14 + 5 * i + 1) 2) 100 i = m (14 + 5 * i) 12 + 1 := by
      rw [sm_o _ _ _ (by omega) (by omega) (by omega), sv_n1 _ _ _ _ _ (by omega), sv_same]
    rw [g100]
    refine r_257 I3 (R3.counts 11 (by omega)) (hp _ R4 (fun k hk => ?_))
    rw [ntM_c _ _ _ _ (by omega), sm_c _ _ _ (by simp only [List.mem_cons, List.not_mem_nil, or_false, not_or]; omega), sv_cell _ _ _ _ (by omega), sv_cell _ _ _ _ (by omega)]
theorem sg {kc : it_Kc} (hk : KC kc) {B : Nat} {m : it_Me} (hI : Inv B m) (hB : B < 2147483000) {i : Nat} (hi : i < cnt m) : Lv (w_76 kc (14 + 5 * i)) (w_255 kc (nI i)) (B + 1) m (Kp m) :=
  ⟨sgC m i, fun Φ h => c_76 hk hI hi h, sg_I hI hB (Nat.le_refl _) hi, (sg_K m (by have := cnt_le hI; omega)).2, (sg_K m (by have := cnt_le hI; omega)).1, fun M hM Φ h => sg_R hI hM hi h⟩
theorem a_restart {kc : it_Kc} (hk : KC kc) {B : Nat} {m : it_Me} (hI : Inv B m) (hB : B < 2147483000) (hl : m 7 4 = 0) (n : Int32) : Lk (w_198 kc n) (w_346 kc n) (B + 1) m := by
  have hI' : Inv (B + 1) m := hI.mono (by omega)
  by_cases ho : m 0 10 = 0
  · refine Lk.ro hI' hl (-3) (fun Φ hp => ?_) (fun M hM Φ hp => ?_)
    · unfold w_198
      exact ⟨fun _ => hp, fun h => absurd ho h⟩
    · unfold w_346
      rw [hM.on]
      exact ⟨fun _ => hp, fun h => absurd ho h⟩
  rcases pr_cases hI n with hn | ⟨i, hi, hx⟩
  · refine Lk.ro hI' hl (-1) (fun Φ hp => ?_) (fun M hM Φ hp => ?_)
    · unfold w_198
      exact ⟨fun h => absurd h ho, fun _ => c_72n hn (cm_none hp)⟩
    · unfold w_346
      rw [hM.on]
      exact ⟨fun h => absurd h ho, fun _ => r_341n hM hn ⟨fun _ => hp, fun h => absurd rfl h⟩⟩
  obtain ⟨m', h1, h2, h3, h4, h5⟩ := sg hk hI hB hi
  have en : n = nI i := Int32.toInt_inj.mp (by rw [nI_toInt (by have := cnt_le hI; omega)]; exact hx)
  refine ⟨1, m', fun Φ hp => ?_, h2, h3, by rw [h4.2.2.1]; exact hl, fun M hM Φ hp => ?_⟩
  · unfold w_198
    exact ⟨fun h => absurd h ho, fun _ => c_72s hI hi hx (cm_some (h1 _ hp))⟩
  · unfold w_346
    rw [hM.on]
    refine ⟨fun h => absurd h ho, fun _ => r_341s hI hM hi hx ⟨fun h => absurd h (by decide), fun _ => ?_⟩⟩
    rw [en]
    exact h5 M hM _ hp
/-- places set to 0, range by range -/
def filL (m : it_Me) (c : Nat) : List (Nat × Nat) → it_Me
  | [] => m
  | r :: l => filL (it_fil m c r.1 r.2 0) c l
theorem filL_c {c : Nat} : ∀ (l : List (Nat × Nat)) (m : it_Me) {k : Nat}, k ≠ c → filL m c l k = m k
  | [], _, _, _ => rfl
  | r :: l, m, k, h => by rw [filL, filL_c l _ h, fil_cell _ _ _ _ _ h]
theorem filL_no {c x : Nat} : ∀ (l : List (Nat × Nat)) (m : it_Me), (∀ r ∈ l, ¬ (r.1 ≤ x ∧ x < r.2)) → filL m c l c x = m c x
  | [], _, _ => rfl
  | r :: l, m, h => by rw [filL, filL_no l _ (fun y hy => h y (List.mem_cons_of_mem _ hy)), fil_rd, if_neg (h r List.mem_cons_self)]
theorem filL_z {c x : Nat} : ∀ (l : List (Nat × Nat)) (m : it_Me), m c x = 0 → filL m c l c x = 0
  | [], _, h => h
  | r :: l, m, h => by
    rw [filL, filL_z l]
    rw [fil_rd]
    split
    · rfl
    · exact h
theorem filL_in {c x : Nat} : ∀ (l : List (Nat × Nat)) (m : it_Me), (∃ r ∈ l, r.1 ≤ x ∧ x < r.2) → filL m c l c x = 0
  | [], _, h => by obtain ⟨r, hr, _⟩ := h; exact absurd hr List.not_mem_nil
  | r :: l, m, h => by
    obtain ⟨y, hy, h1⟩ := h
    rw [filL]
    rcases List.mem_cons.mp hy with rfl | hy
    · exact filL_z l _ (by rw [fil_rd, if_pos h1])
    · exact filL_in l _ ⟨y, hy, h1⟩
theorem filL_sv {c : Nat} (k j : Nat) (v : Int32) (h : k ≠ c) : ∀ (l : List (Nat × Nat)) (m : it_Me), filL (it_sv m k j v) c l = it_sv (filL m c l) k j v
  | [], _ => rfl
  | r :: l, m => by rw [filL, filL, fil_sv _ _ _ _ _ _ _ _ h, filL_sv k j v h l]
/-- the own words of a driver, in words and in bytes -/
noncomputable def rnC (m : it_Me) (i d : Nat) : Nat × Nat := if m (14 + 5 * i + 4) d = 0 ∨ owN d = 0 then (0, 0) else (wi (m (14 + 5 * i + 4) d + nI (owA d)), wi (m (14 + 5 * i + 4) d + nI (owA d)) + owN d)
def rnM (m : it_Me) (i d : Nat) : Nat × Nat := (Int32.toNatClampNeg (m (14 + 5 * i + 4) d + nI (owA d)), Int32.toNatClampNeg (m (14 + 5 * i + 4) d + nI (gsz d)))
theorem fil_e (m : it_Me) (c a : Nat) (v : Int32) : it_fil m c a a v = m := by
  funext x y
  by_cases hx : x = c
  · subst hx; rw [fil_rd, if_neg (by omega)]
  · rw [fil_n1 _ _ _ _ _ _ hx]
noncomputable def zsC (m : it_Me) (i : Nat) : it_Me := filL m 2 ((List.range 9).map (rnC m i))
theorem gI' {m : it_Me} {i d : Nat} (h : PI m i) (hd : d < 9) (hg : m (14 + 5 * i + 4) d ≠ 0) {k : Nat} (hk : k ≤ gsz d) : (m (14 + 5 * i + 4) d + nI k).toInt = (m (14 + 5 * i + 4) d).toInt + k ∧ (k < gsz d → InM (m (14 + 5 * i + 4) d + nI k)) := by
  have g := h.gI hd hg
  have l := h.low0
  have n := kN hd
  have e := adI (a := m (14 + 5 * i + 4) d) (k := k) (by omega) (by omega) (by omega)
  exact ⟨e, fun _ => ⟨by omega, by omega⟩⟩
theorem c_79l {kc : it_Kc} (hk : KC kc) {m : it_Me} {i : Nat} (hP : PI m i) {Φ K : it_Me → Prop} : ∀ (r v : Nat) (N : it_Me), v + r = 9 → N (14 + 5 * i + 4) = m (14 + 5 * i + 4) → K (filL N 2 ((List.range' v r).map (rnC m i))) → w_79_12 kc Φ K (r + 1) (14 + 5 * i) (nI v) N := by
  intro r
  induction r with
  | zero =>
    intro v N hv hN h
    unfold w_79_12
    exact ⟨fun _ => h, fun q => absurd (by rw [Int32.le_iff_toInt_le, nI_toInt (by omega)]; show (9 : Int) ≤ _; omega) q⟩
  | succ r ih =>
    intro v N hv hN h
    have hd : v < 9 := by omega
    have n := kN hd
    unfold w_79_12
    refine ⟨fun q => ?_, fun _ => c_90 hk hd ?_⟩
    · exfalso; rw [Int32.le_iff_toInt_le, nI_toInt (by omega)] at q; simp only [Int32.reduceToInt] at q; omega
    rw [hk.k1, nI_clamp (by omega)]
    dsimp only
    rw [kT1 hd, show nI (owN v) * 4 = nI (owN v * 4) from nI_mul _ 4, nI_1, hN]
    have e4 : (nI (owN v * 4)).toInt = owN v * 4 := nI_toInt (by omega)
    refine ⟨v9 hd, ?_⟩
    rw [List.range'_succ, List.map_cons, filL] at h
    by_cases hz : m (14 + 5 * i + 4) v = 0 ∨ owN v = 0
    · refine c_18n ?_ (ih (v + 1) N (by omega) hN ?_)
      · rcases hz with hz | hz
        · right
          rw [hz, Int32.zero_add, nI_toInt (by omega)]
          omega
        · left; rw [e4, hz]; omega
      · rw [show rnC m i v = (0, 0) by unfold rnC; rw [if_pos hz]] at h
        dsimp only at h
        rw [fil_e] at h
        exact h
    · have hg : m (14 + 5 * i + 4) v ≠ 0 := fun q => hz (Or.inl q)
      have ho : owN v ≠ 0 := fun q => hz (Or.inr q)
      have g := hP.gI hd hg
      have l := hP.low0
      have a := gI' hP hd hg (k := owA v) (by omega)
      refine c_18 (a.2 (by omega)) (by omega) (by omega) (by omega) (ih (v + 1) _ (by omega) (by rw [fil_cell _ _ _ _ _ (by omega)]; exact hN) ?_)
      rw [show rnC m i v = (wi (m (14 + 5 * i + 4) v + nI (owA v)), wi (m (14 + 5 * i + 4) v + nI (owA v)) + owN v) by unfold rnC; rw [if_neg hz]] at h
      rw [show (nI (owN v * 4)).toInt.toNat / 4 = owN v by omega]
      exact h
theorem c_79 {kc : it_Kc} (hk : KC kc) {m : it_Me} {i : Nat} (hP : PI m i) {s : Int32} {Φ : it_Me → Prop} (h : Φ (it_sv (it_sv (zsC m i) (14 + 5 * i) 9 s) (14 + 5 * i) 14 0)) : w_79 kc (14 + 5 * i) s m Φ := by
  refine ⟨10, c_79l hk hP 9 0 _ (by omega) ?_ ?_⟩
  · rw [sv_cell _ _ _ _ (by omega), sv_cell _ _ _ _ (by omega)]
  · rw [filL_sv _ _ _ (by omega), filL_sv _ _ _ (by omega), ← List.range_eq_range']
    exact h
theorem zs1 {B : Nat} {m N : it_Me} (hI : Inv B N) {i d : Nat} (hi : i < cnt N) (hd : d < 9) (hN : N (14 + 5 * i + 4) = m (14 + 5 * i + 4)) : Inv B (it_fil N 2 (rnC m i d).1 (rnC m i d).2 0) := by
  unfold rnC
  rw [← hN]
  by_cases hz : N (14 + 5 * i + 4) d = 0 ∨ owN d = 0
  · rw [if_pos hz]; dsimp only; rw [fil_e]; exact hI
  rw [if_neg hz]
  dsimp only
  have hg : N (14 + 5 * i + 4) d ≠ 0 := fun q => hz (Or.inl q)
  have hP := hI.p hi
  have n := kN hd
  have g := hP.gI hd hg
  have a := gI' hP hd hg (k := owA d) (by omega)
  have hA := a.2 (by omega)
  have hw := wi_eq hA
  have rd : ∀ k, k < gsz d → k % 4 = 0 → gw (it_fil N 2 (wi (N (14 + 5 * i + 4) d + nI (owA d))) (wi (N (14 + 5 * i + 4) d + nI (owA d)) + owN d) 0) (N (14 + 5 * i + 4) d + nI k) = if owA d ≤ k then 0 else gw N (N (14 + 5 * i + 4) d + nI k) := fun k hk hk4 => by
    have a' := gI' hP hd hg (k := k) (by omega)
    have hA' := a'.2 hk
    have hw' := wi_eq hA'
    rw [gw_in hA', gw_in hA', fil_rd]
    by_cases q : owA d ≤ k
    · rw [if_pos q, if_pos (by omega)]
    · rw [if_neg q, if_neg (by omega)]
  refine hI.grw hi hd hg (fun k hk => fil_cell _ _ _ _ _ hk) (fun w hw' => ?_) (fun k hk => ?_) (fun e k hk => ?_) (fun e => ?_) (fun _ k hk => ?_) (fun e hu => ?_) (fun e hu => ?_) (fun x hx => by rw [rd _ (by omega) (by omega), if_neg (by omega)]; exact hP.sfe d hd hg x hx)
  · rw [fil_rd] at hw'
    by_cases q : wi (N (14 + 5 * i + 4) d + nI (owA d)) ≤ w ∧ w < wi (N (14 + 5 * i + 4) d + nI (owA d)) + owN d
    · omega
    · rw [if_neg q] at hw'; exact absurd rfl hw'
  · rw [rd _ (by omega) (by omega), rd _ (by omega) (by omega), if_neg (by omega), if_neg (by omega)]
    exact hP.bf d hd hg k hk
  · subst e
    rw [rd _ (by show 64 + 4 * k < 80; omega) (by omega), if_pos (by show 64 ≤ 64 + 4 * k; omega)]
    decide
  · subst e
    have := rd 16 (by decide) (by omega)
    rw [if_pos (by decide)] at this
    rw [show N (14 + 5 * i + 4) 6 + 16 = N (14 + 5 * i + 4) 6 + nI 16 from rfl, this]
    decide
  · rw [rd _ (by omega) (by omega), if_pos (by omega)]
  · subst e
    exfalso
    unfold undW at hu
    rw [fil_cell _ _ _ _ _ (by omega)] at hu
    have := rd 64 (by decide) (by omega)
    rw [if_pos (by decide)] at this
    exact hu.2 this
  · subst e
    exfalso
    unfold undR at hu
    rw [fil_cell _ _ _ _ _ (by omega)] at hu
    have := rd 72 (by decide) (by omega)
    rw [if_pos (by decide)] at this
    exact hu.2 this
theorem zsL {B : Nat} {m : it_Me} {i : Nat} : ∀ (l : List Nat) (N : it_Me), Inv B N → i < cnt N → N (14 + 5 * i + 4) = m (14 + 5 * i + 4) → (∀ d ∈ l, d < 9) → Inv B (filL N 2 (l.map (rnC m i)))
  | [], _, h, _, _, _ => h
  | d :: l, N, h, hi, hN, hl => by
    rw [List.map_cons, filL]
    exact zsL l _ (zs1 h hi (hl d List.mem_cons_self) hN) (by unfold cnt; rw [fil_n1 _ _ _ _ _ _ (by omega)]; exact hi) (by rw [fil_cell _ _ _ _ _ (by omega)]; exact hN) (fun x hx => hl x (List.mem_cons_of_mem _ hx))
theorem zs_I {B : Nat} {m : it_Me} (hI : Inv B m) {i : Nat} (hi : i < cnt m) : Inv B (zsC m i) := zsL _ m hI hi rfl (fun d hd => List.mem_range.mp hd)
theorem zs_c (m : it_Me) (i : Nat) {k : Nat} (h : k ≠ 2) : zsC m i k = m k := filL_c _ _ h
/-- where zsC puts 0 -/
theorem zs_rd {m : it_Me} {i : Nat} (hP : PI m i) (w : Nat) : (∃ d, d < 9 ∧ m (14 + 5 * i + 4) d ≠ 0 ∧ (m (14 + 5 * i + 4) d).toInt + owA d ≤ 65536 + 4 * (w : Int) ∧ 65536 + 4 * (w : Int) < (m (14 + 5 * i + 4) d).toInt + gsz d) ∧ zsC m i 2 w = 0 ∨ (¬ ∃ d, d < 9 ∧ m (14 + 5 * i + 4) d ≠ 0 ∧ (m (14 + 5 * i + 4) d).toInt + owA d ≤ 65536 + 4 * (w : Int) ∧ 65536 + 4 * (w : Int) < (m (14 + 5 * i + 4) d).toInt + gsz d) ∧ zsC m i 2 w = m 2 w := by
  by_cases q : ∃ d, d < 9 ∧ m (14 + 5 * i + 4) d ≠ 0 ∧ (m (14 + 5 * i + 4) d).toInt + owA d ≤ 65536 + 4 * (w : Int) ∧ 65536 + 4 * (w : Int) < (m (14 + 5 * i + 4) d).toInt + gsz d
  · refine Or.inl ⟨q, ?_⟩
    obtain ⟨d, hd, hg, h1, h2⟩ := q
    have n := kN hd
    have a := gI' hP hd hg (k := owA d) (by omega)
    have hw := wi_eq (a.2 (by omega))
    have g := hP.gI hd hg
    refine filL_in _ _ ⟨rnC m i d, List.mem_map.mpr ⟨d, List.mem_range.mpr hd, rfl⟩, ?_⟩
    unfold rnC
    rw [if_neg (by intro q; rcases q with q | q; exact hg q; omega)]
    dsimp only
    omega
  · refine Or.inr ⟨q, filL_no _ _ (fun r hr h => q ?_)⟩
    obtain ⟨d, hd, rfl⟩ := List.mem_map.mp hr
    have hd := List.mem_range.mp hd
    unfold rnC at h
    by_cases hz : m (14 + 5 * i + 4) d = 0 ∨ owN d = 0
    · rw [if_pos hz] at h; dsimp only at h; omega
    · rw [if_neg hz] at h
      dsimp only at h
      have hg : m (14 + 5 * i + 4) d ≠ 0 := fun q => hz (Or.inl q)
      have n := kN hd
      have a := gI' hP hd hg (k := owA d) (by omega)
      have hw := wi_eq (a.2 (by omega))
      have g := hP.gI hd hg
      exact ⟨d, hd, hg, by omega, by omega⟩
