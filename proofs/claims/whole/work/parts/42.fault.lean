/-! The reference's over; faults; exit with a code. -/
theorem r_220b {kc : it_Kc} {M : it_Me} {a v : Int32} (ha : InM a) (h4 : a.toInt % 4 = 0) (hb : ∀ j, j < 4 → M 67 (65536 + 4 * wi a + j) = sb8 v j) {Φ : Int32 → it_Me → Prop} (hp : Φ v M) : w_220 kc a M Φ := by
  have h1 := ha.1
  have h3 := ha.2
  have e : (a + 2).toInt = a.toInt + 2 := add_I (by show -2147483648 ≤ a.toInt + 2; omega) (by show a.toInt + 2 < 2147483648; omega)
  have ha1 : InM (a + 2) := ⟨by omega, by omega⟩
  have ew : wi (a + 2) = wi a := wi_of ha1 ha (by omega)
  have e0 : bj a = 0 := by unfold bj; omega
  have eb : bj (a + 2) = 2 := by unfold bj; omega
  unfold w_220
  refine r_219b ha (by omega) hb (r_219b ha1 (by omega) (by rw [ew]; exact hb) ?_)
  have q0 : hf v 0 = v &&& 65535 := by unfold hf; show it_us _ (nI 0) &&& 65535 = _; rw [us_0]
  rw [eb, e0, q0, show hf v 2 = it_us v 16 &&& 65535 from rfl, word_of]
  exact hp
theorem r_256i {kc : it_Kc} {Φ : it_Me → Prop} {K : Int32 → Int32 → it_Me → Prop} {x v5 : Int32} (h5 : v5.toInt ≤ 196608) : ∀ (r : Nat) (N : it_Me) (v6 : Int32), 65536 ≤ v6.toInt → v6.toInt % 4 = 0 → v6.toInt + 4 * r = v5.toInt → K x v5 (it_fil N 67 (Int32.toNatClampNeg v6) (Int32.toNatClampNeg v5) 0) → w_256_61 kc Φ K (r + 1) x v5 v6 N := by
  intro r
  induction r with
  | zero =>
    intro N v6 h0 h4 hr h
    have e : v6 = v5 := Int32.toInt_inj.mp (by omega)
    subst e
    rw [fil_e] at h
    unfold w_256_61
    exact ⟨fun _ => h, fun q => absurd (by rw [Int32.le_iff_toInt_le]; omega) q⟩
  | succ r ih =>
    intro N v6 h0 h4 hr h
    have e4 : (v6 + 4).toInt = v6.toInt + 4 := adI (k := 4) (by omega) (by omega) (by omega)
    unfold w_256_61
    refine ⟨fun q => ?_, fun _ => r_221 0 ⟨by omega, by omega⟩ h4 (ih _ _ (by omega) (by omega) (by omega) ?_)⟩
    · exfalso; rw [Int32.le_iff_toInt_le] at q; omega
    · have f4 : Int32.toNatClampNeg (v6 + 4) = Int32.toNatClampNeg v6 + 4 := by rw [clampI, clampI, e4]; omega
      have f5 : Int32.toNatClampNeg v6 + 4 ≤ Int32.toNatClampNeg v5 := by rw [clampI, clampI]; omega
      have : it_fil (pwM N v6 0) 67 (Int32.toNatClampNeg (v6 + 4)) (Int32.toNatClampNeg v5) 0 = it_fil N 67 (Int32.toNatClampNeg v6) (Int32.toNatClampNeg v5) 0 := by
        rw [f4]
        funext a y
        by_cases ha : a = 67
        · subst ha
          rw [fil_rd, fil_rd, pwM_r]
          by_cases q1 : Int32.toNatClampNeg v6 + 4 ≤ y ∧ y < Int32.toNatClampNeg v5
          · rw [if_pos q1, if_pos (by omega)]
          · rw [if_neg q1]
            by_cases q2 : Int32.toNatClampNeg v6 ≤ y ∧ y < Int32.toNatClampNeg v6 + 4
            · rw [if_pos q2, if_pos (by omega), sb_0 (by omega)]
            · rw [if_neg q2, if_neg (by omega)]
        · rw [fil_cell _ _ _ _ _ ha, fil_cell _ _ _ _ _ ha, pwM_c _ _ _ ha]
      rw [this]
      exact h
theorem r_256w {kc : it_Kc} {Φ K : it_Me → Prop} {m : it_Me} {i : Nat} (i8 : i < 8) (hP : PI m i) : ∀ (ds : List Nat) (a : Int32) (N : it_Me), Ch m i a ds → 131072 ≤ a.toInt → a.toInt % 4 = 0 → N 89 i = m (14 + 5 * i) 5 → N 90 i = m (14 + 5 * i) 6 → (∀ d ∈ ds, ∀ j, j < 4 → N 67 (65536 + 4 * wi (m (14 + 5 * i + 4) d) + j) = sb8 (nI d) j) → K (filL N 67 (ds.map (rnM m i))) → w_256_28 kc Φ K (ds.length + 1) (nI i) a N := by
  have l := hP.low0
  intro ds
  induction ds with
  | nil =>
    intro a N h h0 h4 e1 e2 hd hp
    unfold w_256_28 w_252
    rw [cI i8, e1, e2]
    exact ⟨vI i8, vI i8, fun _ => hp, fun q => absurd h q⟩
  | cons d ds ih =>
    intro a N h h0 h4 e1 e2 hd hp
    obtain ⟨q1, q2, q3, q5, q8, q6, q7⟩ := h
    have k := kN q1
    have eg := adI (a := a) (k := gsz d) (by omega) (by omega) (by omega)
    have eo := adI (a := a) (k := owA d) (by omega) (by omega) (by omega)
    have hA : InM a := ⟨by omega, by omega⟩
    have at' := Ch_at (by omega) ds _ q7 (by omega) (by omega)
    show w_256_28 kc Φ K ((ds.length + 1) + 1) (nI i) a N
    unfold w_256_28 w_252
    rw [cI i8, e1, e2]
    refine ⟨vI i8, vI i8, fun q => ?_, fun _ => r_220b (v := nI d) hA h4 ?_ (r_268 q1 (r_269 q1 ⟨owN d + 1, r_256i (by omega) (owN d) N _ (by omega) (by omega) (by omega) ?_⟩))⟩
    · exfalso
      have : a = ctl m i := q
      rw [this] at q6
      omega
    · intro j hj
      have := hd d List.mem_cons_self j hj
      rw [q3] at this
      exact this
    · unfold w_256_81
      refine ih _ _ q7 (by omega) (by omega) ?_ ?_ ?_ ?_
      · rw [fil_n1 _ _ _ _ _ _ (by omega)]; exact e1
      · rw [fil_n1 _ _ _ _ _ _ (by omega)]; exact e2
      · intro d' hd' j hj
        have t := at'.2 d' hd'
        have hA' : InM (m (14 + 5 * i + 4) d') := ⟨by omega, by have := kN t.1; omega⟩
        have hw' := wi_eq hA'
        rw [fil_rd, if_neg (by rw [clampI, clampI]; omega)]
        exact hd d' (List.mem_cons_of_mem _ hd') j hj
      · rw [List.map_cons, filL] at hp
        have er : rnM m i d = (Int32.toNatClampNeg (a + nI (owA d)), Int32.toNatClampNeg (a + nI (gsz d))) := by unfold rnM; rw [q3]
        rw [er] at hp
        exact hp
theorem r_256 {kc : it_Kc} {B : Nat} {m M : it_Me} (hI : Inv B m) (hR : Rel m M) {i : Nat} (hi : i < cnt m) {ds : List Nat} (hC : Ch m i (m (14 + 5 * i) 8) ds) {s : Int32} {Φ : it_Me → Prop} (h : Φ (it_sv (it_sv (it_sv (filL M 67 (ds.map (rnM m i))) 95 i s) 110 i 0) 97 i 0)) : w_256 kc (nI i) s M Φ := by
  have h8 := cnt_le hI
  have i8 : i < 8 := by omega
  have hP := hI.p hi
  have l := hP.low0
  have o := hP.ord
  have at' := Ch_at (by omega) ds _ hC (by omega) (by omega)
  unfold w_256
  rw [cI i8, sv_n1 _ _ _ _ _ (by omega), sv_n1 _ _ _ _ _ (by omega), sv_n1 _ _ _ _ _ (by omega), hR.low hi]
  refine ⟨vI i8, vI i8, vI i8, vI i8, ds.length + 1, r_256w i8 hP ds _ _ hC (by omega) (by omega) ?_ ?_ ?_ ?_⟩
  · rw [sv_n1 _ _ _ _ _ (by omega), sv_n1 _ _ _ _ _ (by omega), sv_n1 _ _ _ _ _ (by omega)]; exact hR.base hi
  · rw [sv_n1 _ _ _ _ _ (by omega), sv_n1 _ _ _ _ _ (by omega), sv_n1 _ _ _ _ _ (by omega)]; exact hR.size hi
  · intro d hd j hj
    have t := at'.2 d hd
    have k := kN t.1
    have na := nexA hI (a := m (14 + 5 * i + 4) d) (Or.inr ⟨i, hi, by omega, by omega⟩)
    rw [sv_n1 _ _ _ _ _ (by omega), sv_n1 _ _ _ _ _ (by omega), sv_n1 _ _ _ _ _ (by omega), hR.mem _ (wi_lt na.1) na.2 j hj, ← gw_in (m := m) na.1, t.2.2.2.2.2]
  · rw [filL_sv _ _ _ (by omega), filL_sv _ _ _ (by omega), filL_sv _ _ _ (by omega)]
    exact h
theorem zs_R {B : Nat} {m M : it_Me} (hI : Inv B m) (h : Rel m M) {i : Nat} (hi : i < cnt m) {ds : List Nat} (hC : Ch m i (m (14 + 5 * i) 8) ds) (hN : ∀ d, d < 9 → d ∉ ds → m (14 + 5 * i + 4) d = 0) : Rel (zsC m i) (filL M 67 (ds.map (rnM m i))) := by
  have h8 := cnt_le hI
  have hP := hI.p hi
  have l := hP.low0
  have o := hP.ord
  have ho := on_of hI hi
  have at' := Ch_at (by omega) ds _ hC (by omega) (by omega)
  have hm : ∀ k, k ≠ 2 → zsC m i k = m k := fun k hk => zs_c m i hk
  have hM : ∀ k, k ≠ 67 → filL M 67 (ds.map (rnM m i)) k = M k := fun k hk => filL_c _ _ hk
  have ecn : cnt (zsC m i) = cnt m := cnt_cg (by rw [hm _ (by omega)])
  have hct : ∀ j, ctl (zsC m i) j = ctl m j := fun j => ctl_cg (hm _ (by omega))
  have hex := fun w => excl_ctl (m' := zsC m i) (m := m) (by rw [hm _ (by omega)]) (fun j _ => hct j) w
  have g0 : ∀ a, gw (zsC m i) a = 0 ∨ gw (zsC m i) a = gw m a := fun a => by
    by_cases hA : InM a
    · rw [gw_in hA, gw_in hA]
      rcases zs_rd hP (wi a) with q | q
      · exact Or.inl q.2
      · exact Or.inr q.2
    · rcases InM.no hA with q | q
      · right; unfold gw; rw [if_pos q, if_pos q]
      · right; unfold gw; rw [if_neg q.1, if_neg q.2, if_neg q.1, if_neg q.2]
  have gc : ∀ j, j < cnt m → ∀ k, k < 64 → k % 4 = 0 → gw (zsC m i) (ctl m j + nI k) = gw m (ctl m j + nI k) := fun j hj k hk hk4 => gw_w (fun hA => by
    have b' := blk_I ((hI.p hj) 0)
    have b := blk_I (hP 0)
    have ek := adI (a := ctl m j) (k := k) (by omega) (by omega) (by omega)
    have := wi_eq hA
    rcases zs_rd hP (wi (ctl m j + nI k)) with q | q
    · exfalso
      obtain ⟨⟨d, hd, hg, h1, h2⟩, _⟩ := q
      have g := hP.gI hd hg
      have n := kN hd
      rcases Nat.lt_trichotomy j i with h' | h' | h'
      · have := hI.dis ho j i hi h'
        omega
      · subst h'; omega
      · have := hI.dis ho i j hj h'
        omega
    · exact q.2)
  exact (Rel.upd (h) (h8) ([2]) ([67]) (fun k hk => hm k (by simpa using hk)) (fun k hk => hM k (by simpa using hk)) (by first | (refine Or.inl (And.intro ?_ (And.intro ?_ ?_)) <;> first | (simp only [List.mem_cons, List.not_mem_nil, or_false, forall_eq_or_imp, forall_eq, false_implies, implies_true, and_true] <;> omega) | (repeat' (first | exact True.intro | rfl | refine And.intro ?_ ?_ | (rw [sv_ne _ _ _ _ (by omega)]) | (rw [up_cell _ _ _ (by omega)]) | (rw [fil_cell _ _ _ _ _ (by omega)]) | (rw [hM _ (by omega)]) | (rw [hm _ (by omega)])))) | (have t_ := Rel.tapeLen (h); exact Or.inr t_)) (by first | (refine Or.inl (And.intro ?_ (And.intro ?_ ?_)) <;> first | (simp only [List.mem_cons, List.not_mem_nil, or_false, forall_eq_or_imp, forall_eq, false_implies, implies_true, and_true] <;> omega) | (repeat' (first | exact True.intro | rfl | refine And.intro ?_ ?_ | (rw [sv_ne _ _ _ _ (by omega)]) | (rw [up_cell _ _ _ (by omega)]) | (rw [fil_cell _ _ _ _ _ (by omega)]) | (rw [hM _ (by omega)]) | (rw [hm _ (by omega)])))) | (have t_ := Rel.on (h); exact Or.inr t_)) (by first | (refine Or.inl (And.intro ?_ (And.intro ?_ ?_)) <;> first | (simp only [List.mem_cons, List.not_mem_nil, or_false, forall_eq_or_imp, forall_eq, false_implies, implies_true, and_true] <;> omega) | (repeat' (first | exact True.intro | rfl | refine And.intro ?_ ?_ | (rw [sv_ne _ _ _ _ (by omega)]) | (rw [up_cell _ _ _ (by omega)]) | (rw [fil_cell _ _ _ _ _ (by omega)]) | (rw [hM _ (by omega)]) | (rw [hm _ (by omega)])))) | (have t_ := Rel.lost (h); exact Or.inr t_)) (by first | (refine Or.inl (And.intro ?_ (And.intro ?_ ?_)) <;> first | (simp only [List.mem_cons, List.not_mem_nil, or_false, forall_eq_or_imp, forall_eq, false_implies, implies_true, and_true] <;> omega) | (repeat' (first | exact True.intro | rfl | refine And.intro ?_ ?_ | (rw [sv_ne _ _ _ _ (by omega)]) | (rw [up_cell _ _ _ (by omega)]) | (rw [fil_cell _ _ _ _ _ (by omega)]) | (rw [hM _ (by omega)]) | (rw [hm _ (by omega)])))) | (have t_ := Rel.power (h); exact Or.inr t_)) (by first | (refine Or.inl (And.intro ?_ (And.intro ?_ ?_)) <;> first | (simp only [List.mem_cons, List.not_mem_nil, or_false, forall_eq_or_imp, forall_eq, false_implies, implies_true, and_true] <;> omega) | (repeat' (first | exact True.intro | rfl | refine And.intro ?_ ?_ | (rw [sv_ne _ _ _ _ (by omega)]) | (rw [up_cell _ _ _ (by omega)]) | (rw [fil_cell _ _ _ _ _ (by omega)]) | (rw [hM _ (by omega)]) | (rw [hm _ (by omega)])))) | (have t_ := Rel.time (h); exact Or.inr t_)) (by first | (refine Or.inl (And.intro ?_ (And.intro ?_ ?_)) <;> first | (simp only [List.mem_cons, List.not_mem_nil, or_false, forall_eq_or_imp, forall_eq, false_implies, implies_true, and_true] <;> omega) | (repeat' (first | exact True.intro | rfl | refine And.intro ?_ ?_ | (rw [sv_ne _ _ _ _ (by omega)]) | (rw [up_cell _ _ _ (by omega)]) | (rw [fil_cell _ _ _ _ _ (by omega)]) | (rw [hM _ (by omega)]) | (rw [hm _ (by omega)])))) | (have t_ := Rel.z (h); exact Or.inr t_)) (by first | (refine Or.inl (And.intro ?_ (And.intro ?_ ?_)) <;> first | (simp only [List.mem_cons, List.not_mem_nil, or_false, forall_eq_or_imp, forall_eq, false_implies, implies_true, and_true] <;> omega) | (repeat' (first | exact True.intro | rfl | refine And.intro ?_ ?_ | (rw [sv_ne _ _ _ _ (by omega)]) | (rw [up_cell _ _ _ (by omega)]) | (rw [fil_cell _ _ _ _ _ (by omega)]) | (rw [hM _ (by omega)]) | (rw [hm _ (by omega)])))) | (have t_ := Rel.count (h); exact Or.inr t_)) (by first | (refine Or.inl (And.intro ?_ (And.intro ?_ ?_)) <;> first | (simp only [List.mem_cons, List.not_mem_nil, or_false, forall_eq_or_imp, forall_eq, false_implies, implies_true, and_true] <;> omega) | (repeat' (first | exact True.intro | rfl | refine And.intro ?_ ?_ | (rw [sv_ne _ _ _ _ (by omega)]) | (rw [up_cell _ _ _ (by omega)]) | (rw [fil_cell _ _ _ _ _ (by omega)]) | (rw [hM _ (by omega)]) | (rw [hm _ (by omega)])))) | (have t_ := Rel.turn (h); exact Or.inr t_)) (by first | (refine Or.inl (And.intro ?_ (And.intro ?_ ?_)) <;> first | (simp only [List.mem_cons, List.not_mem_nil, or_false, forall_eq_or_imp, forall_eq, false_implies, implies_true, and_true] <;> omega) | (repeat' (first | exact True.intro | rfl | refine And.intro ?_ ?_ | (rw [sv_ne _ _ _ _ (by omega)]) | (rw [up_cell _ _ _ (by omega)]) | (rw [fil_cell _ _ _ _ _ (by omega)]) | (rw [hM _ (by omega)]) | (rw [hm _ (by omega)])))) | (have t_ := Rel.bank (h); exact Or.inr t_)) (by first | (refine Or.inl (And.intro ?_ (And.intro ?_ ?_)) <;> first | (simp only [List.mem_cons, List.not_mem_nil, or_false, forall_eq_or_imp, forall_eq, false_implies, implies_true, and_true] <;> omega) | (repeat' (first | exact True.intro | rfl | refine And.intro ?_ ?_ | (rw [sv_ne _ _ _ _ (by omega)]) | (rw [up_cell _ _ _ (by omega)]) | (rw [fil_cell _ _ _ _ _ (by omega)]) | (rw [hM _ (by omega)]) | (rw [hm _ (by omega)])))) | (have t_ := Rel.tape (h); exact Or.inr t_)) (by first | (refine Or.inl (And.intro ?_ (And.intro ?_ ?_)) <;> first | (simp only [List.mem_cons, List.not_mem_nil, or_false, forall_eq_or_imp, forall_eq, false_implies, implies_true, and_true] <;> omega) | (repeat' (first | exact True.intro | rfl | refine And.intro ?_ ?_ | (rw [sv_ne _ _ _ _ (by omega)]) | (rw [up_cell _ _ _ (by omega)]) | (rw [fil_cell _ _ _ _ _ (by omega)]) | (rw [hM _ (by omega)]) | (rw [hm _ (by omega)])))) | (have t_ := Rel.counts (h); exact Or.inr t_)) (by first | (refine Or.inl (And.intro ?_ (And.intro ?_ ?_)) <;> first | (simp only [List.mem_cons, List.not_mem_nil, or_false, forall_eq_or_imp, forall_eq, false_implies, implies_true, and_true] <;> omega) | (repeat' (first | exact True.intro | rfl | refine And.intro ?_ ?_ | (rw [sv_ne _ _ _ _ (by omega)]) | (rw [up_cell _ _ _ (by omega)]) | (rw [fil_cell _ _ _ _ _ (by omega)]) | (rw [hM _ (by omega)]) | (rw [hm _ (by omega)])))) | (have t_ := Rel.events (h); exact Or.inr t_)) (by first | (refine Or.inl (And.intro ?_ (And.intro ?_ ?_)) <;> first | (simp only [List.mem_cons, List.not_mem_nil, or_false, forall_eq_or_imp, forall_eq, false_implies, implies_true, and_true] <;> omega) | (repeat' (first | exact True.intro | rfl | refine And.intro ?_ ?_ | (rw [sv_ne _ _ _ _ (by omega)]) | (rw [up_cell _ _ _ (by omega)]) | (rw [fil_cell _ _ _ _ _ (by omega)]) | (rw [hM _ (by omega)]) | (rw [hm _ (by omega)])))) | (have t_ := Rel.out (h); exact Or.inr t_)) (by first | (refine Or.inl (And.intro ?_ (And.intro ?_ ?_)) <;> first | (simp only [List.mem_cons, List.not_mem_nil, or_false, forall_eq_or_imp, forall_eq, false_implies, implies_true, and_true] <;> omega) | (repeat' (first | exact True.intro | rfl | refine And.intro ?_ ?_ | (rw [sv_ne _ _ _ _ (by omega)]) | (rw [up_cell _ _ _ (by omega)]) | (rw [fil_cell _ _ _ _ _ (by omega)]) | (rw [hM _ (by omega)]) | (rw [hm _ (by omega)])))) | (have t_ := Rel.lamps (h); exact Or.inr t_)) (by first | (refine Or.inl (And.intro ?_ (And.intro ?_ ?_)) <;> first | (simp only [List.mem_cons, List.not_mem_nil, or_false, forall_eq_or_imp, forall_eq, false_implies, implies_true, and_true] <;> omega) | (repeat' (first | exact True.intro | rfl | refine And.intro ?_ ?_ | (rw [sv_ne _ _ _ _ (by omega)]) | (rw [up_cell _ _ _ (by omega)]) | (rw [fil_cell _ _ _ _ _ (by omega)]) | (rw [hM _ (by omega)]) | (rw [hm _ (by omega)])))) | (have t_ := Rel.buttons (h); exact Or.inr t_)) (by first | (refine Or.inl (And.intro ?_ (And.intro ?_ ?_)) <;> first | (simp only [List.mem_cons, List.not_mem_nil, or_false, forall_eq_or_imp, forall_eq, false_implies, implies_true, and_true] <;> omega) | (repeat' (first | exact True.intro | rfl | refine And.intro ?_ ?_ | (rw [sv_ne _ _ _ _ (by omega)]) | (rw [up_cell _ _ _ (by omega)]) | (rw [fil_cell _ _ _ _ _ (by omega)]) | (rw [hM _ (by omega)]) | (rw [hm _ (by omega)])))) | (have t_ := Rel.lev (h); exact Or.inr t_)) (Or.inr (by
    intro w hw hx j hj
    have hx' : ¬ excl m w := fun q => hx ((hex w).mpr q)
    rcases zs_rd hP w with q | q
    · obtain ⟨⟨d, hd, hg, h1, h2⟩, hz⟩ := q
      rw [hz, sb_0 hj]
      have n := kN hd
      have a1 := gI' hP hd hg (k := owA d) (by omega)
      have a2 := gI' hP hd hg (k := gsz d) (by omega)
      refine filL_in _ _ ⟨rnM m i d, List.mem_map.mpr ⟨d, ?_, rfl⟩, ?_⟩
      · by_cases hm' : d ∈ ds
        · exact hm'
        · exact absurd (hN d hd hm') hg
      · unfold rnM
        dsimp only
        rw [clampI, clampI]
        have g := hP.gI hd hg
        omega
    · rw [q.2, filL_no]
      · exact h.mem w hw hx' j hj
      · intro r hr hh
        obtain ⟨d, hd, rfl⟩ := List.mem_map.mp hr
        have t := at'.2 d hd
        have n := kN t.1
        have hg : m (14 + 5 * i + 4) d ≠ 0 := fun q => by rw [q] at t; simp only [Int32.reduceToInt] at t; omega
        have a1 := gI' hP t.1 hg (k := owA d) (by omega)
        have a2 := gI' hP t.1 hg (k := gsz d) (by omega)
        unfold rnM at hh
        dsimp only at hh
        rw [clampI, clampI] at hh
        exact q.1 ⟨d, t.1, hg, by omega, by omega⟩)) (by first | (refine Or.inl (And.intro ?_ (And.intro ?_ ?_)) <;> first | (simp only [List.mem_cons, List.not_mem_nil, or_false, forall_eq_or_imp, forall_eq, false_implies, implies_true, and_true] <;> omega) | (repeat' (first | exact True.intro | rfl | refine And.intro ?_ ?_ | (rw [sv_ne _ _ _ _ (by omega)]) | (rw [up_cell _ _ _ (by omega)]) | (rw [fil_cell _ _ _ _ _ (by omega)]) | (rw [hM _ (by omega)]) | (rw [hm _ (by omega)])))) | (have t_ := Rel.sched (h); exact Or.inr t_)) (by first | (refine Or.inl (And.intro ?_ (And.intro ?_ ?_)) <;> first | (simp only [List.mem_cons, List.not_mem_nil, or_false, forall_eq_or_imp, forall_eq, false_implies, implies_true, and_true] <;> omega) | (repeat' (first | exact True.intro | rfl | refine And.intro ?_ ?_ | (rw [sv_ne _ _ _ _ (by omega)]) | (rw [up_cell _ _ _ (by omega)]) | (rw [fil_cell _ _ _ _ _ (by omega)]) | (rw [hM _ (by omega)]) | (rw [hm _ (by omega)])))) | (have t_ := Rel.done (h); exact Or.inr t_)) (by first | (refine Or.inl (And.intro ?_ (And.intro ?_ ?_)) <;> first | (simp only [List.mem_cons, List.not_mem_nil, or_false, forall_eq_or_imp, forall_eq, false_implies, implies_true, and_true] <;> omega) | (repeat' (first | exact True.intro | rfl | refine And.intro ?_ ?_ | (rw [sv_ne _ _ _ _ (by omega)]) | (rw [up_cell _ _ _ (by omega)]) | (rw [fil_cell _ _ _ _ _ (by omega)]) | (rw [hM _ (by omega)]) | (rw [hm _ (by omega)])))) | (have t_ := Rel.levels (h); exact Or.inr t_)) (by first | (refine Or.inl (And.intro ?_ (And.intro ?_ ?_)) <;> first | (simp only [List.mem_cons, List.not_mem_nil, or_false, forall_eq_or_imp, forall_eq, false_implies, implies_true, and_true] <;> omega) | (repeat' (first | exact True.intro | rfl | refine And.intro ?_ ?_ | (rw [sv_ne _ _ _ _ (by omega)]) | (rw [up_cell _ _ _ (by omega)]) | (rw [fil_cell _ _ _ _ _ (by omega)]) | (rw [hM _ (by omega)]) | (rw [hm _ (by omega)])))) | (have t_ := Rel.places (h); exact Or.inr t_)) (by first | (refine Or.inl (And.intro ?_ (And.intro ?_ ?_)) <;> first | (simp only [List.mem_cons, List.not_mem_nil, or_false, forall_eq_or_imp, forall_eq, false_implies, implies_true, and_true] <;> omega) | (repeat' (first | exact True.intro | rfl | refine And.intro ?_ ?_ | (rw [sv_ne _ _ _ _ (by omega)]) | (rw [up_cell _ _ _ (by omega)]) | (rw [fil_cell _ _ _ _ _ (by omega)]) | (rw [hM _ (by omega)]) | (rw [hm _ (by omega)])))) | (have t_ := Rel.asked (h); exact Or.inr t_)) (Or.inr (by
    intro j hj hu
    rw [ecn] at hj
    rw [hM _ (by omega), hm _ (by omega)]
    unfold undW at hu
    rw [hm _ (by omega)] at hu
    refine h.worder j hj ⟨hu.1, ?_⟩
    rcases g0 (m (14 + 5 * j + 4) 1 + 64) with q | q
    · exact absurd q hu.2
    · rw [← q]; exact hu.2)) (Or.inr (by
    intro j hj hu
    rw [ecn] at hj
    rw [hM _ (by omega), hm _ (by omega)]
    unfold undR at hu
    rw [hm _ (by omega)] at hu
    refine h.rorder j hj ⟨hu.1, ?_⟩
    rcases g0 (m (14 + 5 * j + 4) 1 + 72) with q | q
    · exact absurd q hu.2
    · rw [← q]; exact hu.2)) (by first | (refine Or.inl (And.intro ?_ (And.intro ?_ ?_)) <;> first | (simp only [List.mem_cons, List.not_mem_nil, or_false, forall_eq_or_imp, forall_eq, false_implies, implies_true, and_true] <;> omega) | (repeat' (first | exact True.intro | rfl | refine And.intro ?_ ?_ | (rw [sv_ne _ _ _ _ (by omega)]) | (rw [up_cell _ _ _ (by omega)]) | (rw [fil_cell _ _ _ _ _ (by omega)]) | (rw [hM _ (by omega)]) | (rw [hm _ (by omega)])))) | (have t_ := Rel.ps (h); exact Or.inr t_)) (by first | (refine Or.inl (And.intro ?_ (And.intro ?_ ?_)) <;> first | (simp only [List.mem_cons, List.not_mem_nil, or_false, forall_eq_or_imp, forall_eq, false_implies, implies_true, and_true] <;> omega) | (repeat' (first | exact True.intro | rfl | refine And.intro ?_ ?_ | (rw [sv_ne _ _ _ _ (by omega)]) | (rw [up_cell _ _ _ (by omega)]) | (rw [fil_cell _ _ _ _ _ (by omega)]) | (rw [hM _ (by omega)]) | (rw [hm _ (by omega)])))) | (have t_ := Rel.app (h); exact Or.inr t_)) (by first | (refine Or.inl (And.intro ?_ (And.intro ?_ ?_)) <;> first | (simp only [List.mem_cons, List.not_mem_nil, or_false, forall_eq_or_imp, forall_eq, false_implies, implies_true, and_true] <;> omega) | (repeat' (first | exact True.intro | rfl | refine And.intro ?_ ?_ | (rw [sv_ne _ _ _ _ (by omega)]) | (rw [up_cell _ _ _ (by omega)]) | (rw [fil_cell _ _ _ _ _ (by omega)]) | (rw [hM _ (by omega)]) | (rw [hm _ (by omega)])))) | (have t_ := Rel.name (h); exact Or.inr t_)) (by first | (refine Or.inl (And.intro ?_ (And.intro ?_ ?_)) <;> first | (simp only [List.mem_cons, List.not_mem_nil, or_false, forall_eq_or_imp, forall_eq, false_implies, implies_true, and_true] <;> omega) | (repeat' (first | exact True.intro | rfl | refine And.intro ?_ ?_ | (rw [sv_ne _ _ _ _ (by omega)]) | (rw [up_cell _ _ _ (by omega)]) | (rw [fil_cell _ _ _ _ _ (by omega)]) | (rw [hM _ (by omega)]) | (rw [hm _ (by omega)])))) | (have t_ := Rel.number (h); exact Or.inr t_)) (by first | (refine Or.inl (And.intro ?_ (And.intro ?_ ?_)) <;> first | (simp only [List.mem_cons, List.not_mem_nil, or_false, forall_eq_or_imp, forall_eq, false_implies, implies_true, and_true] <;> omega) | (repeat' (first | exact True.intro | rfl | refine And.intro ?_ ?_ | (rw [sv_ne _ _ _ _ (by omega)]) | (rw [up_cell _ _ _ (by omega)]) | (rw [fil_cell _ _ _ _ _ (by omega)]) | (rw [hM _ (by omega)]) | (rw [hm _ (by omega)])))) | (have t_ := Rel.bits (h); exact Or.inr t_)) (by first | (refine Or.inl (And.intro ?_ (And.intro ?_ ?_)) <;> first | (simp only [List.mem_cons, List.not_mem_nil, or_false, forall_eq_or_imp, forall_eq, false_implies, implies_true, and_true] <;> omega) | (repeat' (first | exact True.intro | rfl | refine And.intro ?_ ?_ | (rw [sv_ne _ _ _ _ (by omega)]) | (rw [up_cell _ _ _ (by omega)]) | (rw [fil_cell _ _ _ _ _ (by omega)]) | (rw [hM _ (by omega)]) | (rw [hm _ (by omega)])))) | (have t_ := Rel.regs (h); exact Or.inr t_)) (by first | (refine Or.inl (And.intro ?_ (And.intro ?_ ?_)) <;> first | (simp only [List.mem_cons, List.not_mem_nil, or_false, forall_eq_or_imp, forall_eq, false_implies, implies_true, and_true] <;> omega) | (repeat' (first | exact True.intro | rfl | refine And.intro ?_ ?_ | (rw [sv_ne _ _ _ _ (by omega)]) | (rw [up_cell _ _ _ (by omega)]) | (rw [fil_cell _ _ _ _ _ (by omega)]) | (rw [hM _ (by omega)]) | (rw [hm _ (by omega)])))) | (have t_ := Rel.rsv (h); exact Or.inr t_)) (by first | (refine Or.inl (And.intro ?_ (And.intro ?_ ?_)) <;> first | (simp only [List.mem_cons, List.not_mem_nil, or_false, forall_eq_or_imp, forall_eq, false_implies, implies_true, and_true] <;> omega) | (repeat' (first | exact True.intro | rfl | refine And.intro ?_ ?_ | (rw [sv_ne _ _ _ _ (by omega)]) | (rw [up_cell _ _ _ (by omega)]) | (rw [fil_cell _ _ _ _ _ (by omega)]) | (rw [hM _ (by omega)]) | (rw [hm _ (by omega)])))) | (have t_ := Rel.queue (h); exact Or.inr t_)) (Or.inr (by
    intro j hj
    rw [ecn] at hj
    rw [hct, hM _ (by omega), hM _ (by omega), hM _ (by omega), hM _ (by omega)]
    rw [show ctl m j + 24 = ctl m j + nI 24 from rfl, show ctl m j + 28 = ctl m j + nI 28 from rfl, show ctl m j + 32 = ctl m j + nI 32 from rfl, show ctl m j + 40 = ctl m j + nI 40 from rfl, gc j hj 24 (by omega) (by omega), gc j hj 28 (by omega) (by omega), gc j hj 32 (by omega) (by omega), gc j hj 40 (by omega) (by omega)]
    exact h.ctlw j hj)) (by first | (refine Or.inl (And.intro ?_ (And.intro ?_ ?_)) <;> first | (simp only [List.mem_cons, List.not_mem_nil, or_false, forall_eq_or_imp, forall_eq, false_implies, implies_true, and_true] <;> omega) | (repeat' (first | exact True.intro | rfl | refine And.intro ?_ ?_ | (rw [sv_ne _ _ _ _ (by omega)]) | (rw [up_cell _ _ _ (by omega)]) | (rw [fil_cell _ _ _ _ _ (by omega)]) | (rw [hM _ (by omega)]) | (rw [hm _ (by omega)])))) | (have t_ := Rel.wt (h); exact Or.inr t_)))
noncomputable def ovC (m : it_Me) (i : Nat) (s : Int32) : it_Me := it_sv (it_sv (zsC m i) (14 + 5 * i) 9 s) (14 + 5 * i) 14 0
theorem ov_c (m : it_Me) (i : Nat) (s : Int32) {k : Nat} (h : k ≠ 2 ∧ k ≠ 14 + 5 * i) : ovC m i s k = m k := by
  unfold ovC
  rw [sv_cell _ _ _ _ h.2, sv_cell _ _ _ _ h.2, zs_c _ _ h.1]
theorem ov_K (m : it_Me) {i : Nat} (i8 : i < 8) (s : Int32) : Kp m (ovC m i s) ∧ FrC m (ovC m i s) :=
  ⟨Kp.of (fun k hk => ov_c _ _ _ (by omega)) (by rw [ov_c _ _ _ (by omega)]), fun k hk => ov_c _ _ _ (by omega)⟩
theorem cnt_ov {m : it_Me} {i : Nat} {s : Int32} : cnt (ovC m i s) = cnt m := cnt_cg (by rw [ov_c _ _ _ (by omega)])
theorem ov_I {B : Nat} {m : it_Me} (hI : Inv B m) {i : Nat} (hi : i < cnt m) {s : Int32} (hs : s = 4 ∨ s = 5) : Inv B (ovC m i s) := by
  have hP := hI.p hi
  have I1 := zs_I hI hi
  have k1 : i < cnt (zsC m i) := by rw [cnt_cg (by rw [zs_c _ _ (by omega)])]; exact hi
  have P1 := I1.p k1
  have e4 : zsC m i (14 + 5 * i + 4) = m (14 + 5 * i + 4) := zs_c _ _ (by omega)
  have fm : ∀ k, k ≠ 14 + 5 * i → k ≠ 14 + 5 * i + 2 → k ≠ 14 + 5 * i + 3 → ovC m i s k = zsC m i k := fun k q1 q2 q3 => by unfold ovC; rw [sv_cell _ _ _ _ q1, sv_cell _ _ _ _ q1]
  have f : ∀ j, j ≠ 9 → j ≠ 14 → ovC m i s (14 + 5 * i) j = zsC m i (14 + 5 * i) j := fun j h1 h2 => by unfold ovC; rw [sv_n2 _ _ _ _ h2, sv_n2 _ _ _ _ h1]
  have f9 : ovC m i s (14 + 5 * i) 9 = s := by unfold ovC; rw [sv_n2 _ _ _ _ (by omega), sv_same]
  have f14 : ovC m i s (14 + 5 * i) 14 = 0 := by unfold ovC; rw [sv_same]
  refine I1.prc k1 fm (f _ (by omega) (by omega)) (f _ (by omega) (by omega)) (f _ (by omega) (by omega)) (fun _ => P1.prc fm (f _ (by omega) (by omega)) (f _ (by omega) (by omega)) (f _ (by omega) (by omega)) (f _ (by omega) (by omega)) (f _ (by omega) (by omega)) ?_ ?_ ?_ ?_ ?_ (by rw [f _ (by omega) (by omega)]; exact P1.pce) (by unfold ovC; rw [sv_n1 _ _ _ _ _ (by omega), sv_n1 _ _ _ _ _ (by omega)]; exact P1.r0))
  · rw [f9]; rcases hs with rfl | rfl <;> decide
  · rw [f _ (by omega) (by omega)]; exact P1.he
  · rw [f14]; decide
  · intro k hk
    rw [f14] at hk
    simp only [Int32.reduceToInt] at hk
    omega
  · intro _
    refine ⟨f14, fun d hd hg k hk => ?_⟩
    rw [e4] at hg ⊢
    have n := kN hd
    have a := gI' hP hd hg (k := owA d + 4 * k) (by omega)
    have hA := a.2 (by omega)
    have hw := wi_eq hA
    have g := hP.gI hd hg
    rw [gw_in hA]
    rcases zs_rd hP (wi (m (14 + 5 * i + 4) d + nI (owA d + 4 * k))) with q | q
    · exact q.2
    · exact absurd ⟨d, hd, hg, by omega, by omega⟩ q.1
/-- stop and over -/
theorem ov {kc : it_Kc} (hk : KC kc) {B : Nat} {m : it_Me} (hI : Inv B m) {i : Nat} (hi : i < cnt m) {s : Int32} (hs : s = 4 ∨ s = 5) {M : it_Me} (hM : Rel m M) {Φ : it_Me → Prop} (hp : ∀ M', Rel (ovC m i s) M' → FrM M M' → Φ M') : w_256 kc (nI i) s M Φ := by
  obtain ⟨ds, h1, h2, h3, h4⟩ := (hI.p hi).gr
  have h8 := cnt_le hI
  have R1 := zs_R hI hM hi h1 h3
  have k1 : cnt (zsC m i) = cnt m := cnt_cg (by rw [zs_c _ _ (by omega)])
  have R2 := R1.ps1 (i := i) (a := 95) (c := 9) (by rw [k1]; exact h8) (by rw [k1]; exact hi) (by decide) (by omega) (by omega) s (fun _ n4 n5 => by rcases hs with q | q; exact absurd q n4; exact absurd q n5) (fun q => absurd q (by omega))
  have k2 : cnt (it_sv (zsC m i) (14 + 5 * i) 9 s) = cnt m := by rw [cnt_sv _ _ _ (by omega), k1]
  have R3 := R2.ps1 (i := i) (a := 110) (c := 14) (by rw [k2]; exact h8) (by rw [k2]; exact hi) (by decide) (by omega) (by omega) 0 (fun q => absurd q (by omega)) (fun _ k hk => by simp only [Int32.reduceToInt] at hk; omega)
  have R4 := R3.rs0 (i := i) (by rw [cnt_sv _ _ _ (by omega), k2]; exact h8) (by rw [sv_n2 _ _ _ _ (by omega), sv_same]; exact hs) 0
  refine r_256 hI hM hi h1 (hp _ R4 (fun k hk => ?_))
  rw [sv_cell _ _ _ _ (by omega), sv_cell _ _ _ _ (by omega), sv_cell _ _ _ _ (by omega), filL_c _ _ (by omega)]
theorem ctl_pw (m : it_Me) (a v : Int32) (j : Nat) : ctl (pw m a v) j = ctl m j := ctl_cg (pw_c _ _ _ (by omega))
theorem cnt_pw {m : it_Me} {a v : Int32} : cnt (pw m a v) = cnt m := cnt_cg (by rw [pw_c _ _ _ (by omega)])
noncomputable def ftC (m : it_Me) (i : Nat) (f v : Int32) : it_Me := pw (pw (pw m (ctl m i + nI 24) (1 + f)) (ctl m i + nI 28) v) (ctl m i + nI 32) (m (14 + 5 * i) 3)
theorem ft_c (m : it_Me) (i : Nat) (f v : Int32) {k : Nat} (h : k ≠ 2) : ftC m i f v k = m k := by
  unfold ftC
  rw [pw_c _ _ _ h, pw_c _ _ _ h, pw_c _ _ _ h]
theorem ft_I {B : Nat} {m : it_Me} (hI : Inv B m) {i : Nat} (hi : i < cnt m) (f v : Int32) : Inv B (ftC m i f v) := by
  have I1 := ctw_I hI hi (k := 24) (by omega) (1 + f)
  have I2 := ctw_I I1 (i := i) (by rw [cnt_pw]; exact hi) (k := 28) (by omega) v
  rw [ctl_pw] at I2
  have I3 := ctw_I I2 (i := i) (by rw [cnt_pw, cnt_pw]; exact hi) (k := 32) (by omega) (m (14 + 5 * i) 3)
  rw [ctl_pw, ctl_pw] at I3
  exact I3
theorem ft_R {B : Nat} {m M : it_Me} (hI : Inv B m) (h : Rel m M) {i : Nat} (hi : i < cnt m) (f v : Int32) : Rel (ftC m i f v) (it_sv (it_sv (it_sv M 102 i (1 + f)) 103 i v) 104 i (m (14 + 5 * i) 3)) := by
  have I1 := ctw_I hI hi (k := 24) (by omega) (1 + f)
  have R1 := h.ctw hI hi (k := 24) (a := 102) (by decide) (1 + f)
  have I2 := ctw_I I1 (i := i) (by rw [cnt_pw]; exact hi) (k := 28) (by omega) v
  have R2 := R1.ctw I1 (i := i) (by rw [cnt_pw]; exact hi) (k := 28) (a := 103) (by decide) v
  rw [ctl_pw] at I2 R2
  have R3 := R2.ctw I2 (i := i) (by rw [cnt_pw, cnt_pw]; exact hi) (k := 32) (a := 104) (by decide) (m (14 + 5 * i) 3)
  rw [ctl_pw, ctl_pw] at R3
  exact R3
theorem ft {kc : it_Kc} (hk : KC kc) {B : Nat} {m : it_Me} (hI : Inv B m) (hB : B + 1 < 2147483000) {i : Nat} (hi : i < cnt m) (f v : Int32) : Lv (w_77 kc (14 + 5 * i) f v) (w_258 kc (nI i) f v) (B + 2) m (Kp m) := by
  have h8 := cnt_le hI
  have i8 : i < 8 := by omega
  have I1 := ft_I hI hi f v
  have I2 : Inv (B + 1) (nt (ftC m i f v) (nI i) 2 f) := I1.note (by omega) (Nat.le_refl _) _ (by omega) _
  have k2 : cnt (nt (ftC m i f v) (nI i) 2 f) = cnt m := by rw [cnt_nt]; exact cnt_cg (by rw [ft_c _ _ _ _ (by omega)])
  have hi2 : i < cnt (nt (ftC m i f v) (nI i) 2 f) := by omega
  have kp : Kp m (nt (ftC m i f v) (nI i) 2 f) := Kp.of (fun k hk => by rw [nt_c _ _ _ _ (by omega), ft_c _ _ _ _ (by omega)]) (by rw [nt_40, ft_c _ _ _ _ (by omega)])
  have fr : FrC m (nt (ftC m i f v) (nI i) 2 f) := fun k hk => by rw [nt_c _ _ _ _ (by omega), ft_c _ _ _ _ (by omega)]
  have on2 := on_of I2 hi2
  have cC : ∀ Φ, ((nt (ftC m i f v) (nI i) 2 f 9 8 ≤ nt (ftC m i f v) (nI i) 2 f (14 + 5 * i) 12 → w_79 kc (14 + 5 * i) 5 (nt (ftC m i f v) (nI i) 2 f) Φ) ∧ (¬ nt (ftC m i f v) (nI i) 2 f 9 8 ≤ nt (ftC m i f v) (nI i) 2 f (14 + 5 * i) 12 → w_76 kc (14 + 5 * i) (nt (ftC m i f v) (nI i) 2 f) Φ)) → w_77 kc (14 + 5 * i) f v m Φ := fun Φ h => by
    unfold w_77 w_129 w_77_87
    refine c_13 (c_13 (c_13 ?_))
    have e1 : m (14 + 5 * i) 5 + m (14 + 5 * i) 6 - 64 + 24 + 4 = ctl m i + nI 28 := by
      rw [Int32.add_assoc]; rfl
    have e2 : m (14 + 5 * i) 5 + m (14 + 5 * i) 6 - 64 + 24 + 8 = ctl m i + nI 32 := by
      rw [Int32.add_assoc]; rfl
    rw [e1, e2, show m (14 + 5 * i) 5 + m (14 + 5 * i) 6 - 64 + 24 = ctl m i + nI 24 from rfl]
    have e3 : pw (pw m (ctl m i + nI 24) (1 + f)) (ctl m i + nI 28) v (14 + 5 * i) 3 = m (14 + 5 * i) 3 := by rw [pw_c _ _ _ (by omega), pw_c _ _ _ (by omega)]
    rw [e3]
    have e4 : pw (pw (pw m (ctl m i + nI 24) (1 + f)) (ctl m i + nI 28) v) (ctl m i + nI 32) (m (14 + 5 * i) 3) (14 + 5 * i) 0 = nI i := by rw [pw_c _ _ _ (by omega), pw_c _ _ _ (by omega), pw_c _ _ _ (by omega)]; exact hI.num i i8
    rw [e4]
    exact c_69 hk I1 (k := 2) (by omega) h
  have rM : ∀ M, Rel m M → ∀ Φ, (∀ M', Rel (nt (ftC m i f v) (nI i) 2 f) M' → FrM M M' → ((M' 66 9 ≤ M' 100 i → w_256 kc (nI i) 5 M' Φ) ∧ (¬ M' 66 9 ≤ M' 100 i → w_255 kc (nI i) M' Φ))) → w_258 kc (nI i) f v M Φ := fun M hM Φ h => by
    have R1 := (ft_R hI hM hi f v).note I1 (nI i) (k := 2) (by omega) (by omega) f
    rw [sv_n1 _ _ _ _ _ (by decide), sv_n1 _ _ _ _ _ (by decide), sv_n1 _ _ _ _ _ (by decide)] at R1
    rw [show cof 2 = 7 from rfl] at R1
    rw [sv_comm _ 104 i _ 69 7 _ (by omega), sv_comm _ 103 i _ 69 7 _ (by omega), sv_comm _ 102 i _ 69 7 _ (by omega)] at R1
    unfold w_258 w_258_73
    rw [cI i8, cl_7, sv_n1 _ _ _ _ _ (by omega), sv_n1 _ _ _ _ _ (by omega), sv_n1 _ _ _ _ _ (by omega), hM.pc hi]
    refine ⟨v12_7, v12_7, vI i8, vI i8, vI i8, vI i8, r_257 hI ?_ ⟨vI i8, h _ R1 (fun k hk => ?_)⟩⟩
    · rw [sv_n1 _ _ _ _ _ (by omega), sv_n1 _ _ _ _ _ (by omega), sv_n1 _ _ _ _ _ (by omega), sv_n2 _ _ _ _ (by omega)]; exact hM.counts 11 (by omega)
    · rw [ntM_c _ _ _ _ (by omega), sv_cell _ _ _ _ (by omega), sv_cell _ _ _ _ (by omega), sv_cell _ _ _ _ (by omega), sv_cell _ _ _ _ (by omega)]
  by_cases q : nt (ftC m i f v) (nI i) 2 f 9 8 ≤ nt (ftC m i f v) (nI i) 2 f (14 + 5 * i) 12
  · refine ⟨ovC (nt (ftC m i f v) (nI i) 2 f) i 5, fun Φ h => cC Φ ⟨fun _ => c_79 hk (I2.p hi2) h, fun q' => absurd q q'⟩, (ov_I I2 hi2 (Or.inr rfl)).mono (by omega), fr.trans (ov_K _ i8 _).2, kp.trans (ov_K _ i8 _).1, fun M hM Φ h => rM M hM Φ (fun M' hR' hF' => ?_)⟩
    rw [(hR'.sched on2).2.2, hR'.rest hi2]
    exact ⟨fun _ => ov hk I2 hi2 (Or.inr rfl) hR' (fun M'' h1 h2 => h M'' h1 (hF'.trans h2)), fun q' => absurd q q'⟩
  · refine ⟨sgC (nt (ftC m i f v) (nI i) 2 f) i, fun Φ h => cC Φ ⟨fun q' => absurd q' q, fun _ => c_76 hk I2 hi2 h⟩, sg_I I2 (by omega) (by omega) hi2, fr.trans (sg_K _ i8).2, kp.trans (sg_K _ i8).1, fun M hM Φ h => rM M hM Φ (fun M' hR' hF' => ?_)⟩
    rw [(hR'.sched on2).2.2, hR'.rest hi2]
    exact ⟨fun q' => absurd q' q, fun _ => sg_R I2 hR' hi2 (fun M'' h1 h2 => h M'' h1 (hF'.trans h2))⟩
