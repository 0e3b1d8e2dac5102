/-! The machine: atomics, instructions of 32 bits in lockstep. Written by wip/whole/gen_m4.py -/
theorem x_map {kc : it_Kc} {i : Nat} {B' : Nat} {m : it_Me} {C C1 : it_Me → (Int32 → it_Me → Prop) → Prop} {R R1 : it_Me → (it_Me → Prop) → Prop} (h : Lo kc i C1 R1 B' m) (hC : ∀ Φ, C1 m Φ → C m Φ) (hR : ∀ M, Rel m M → ∀ Φ, R1 M Φ → R M Φ) : Lo kc i C R B' m := by
  obtain ⟨m', a1, a2, a3, a4, a5⟩ := h
  exact ⟨m', fun Φ h => hC _ (a1 Φ h), a2, a3, a4, fun M hM Φ h => hR M hM Φ (a5 M hM Φ h)⟩
theorem b_ge (x : Int32) {i : Nat} (h : 32 ≤ i) : bt x i = false := BitVec.getLsbD_of_ge _ _ h
theorem us27 (x : Int32) : it_us x 27 = it_us x 27 &&& 31 := b_ext (fun i hi => by
  rw [b_and]
  by_cases h : i < 5
  · rw [(by decide +kernel : ∀ i, i < 5 → bt 31 i = true) i h, Bool.and_true]
  · rw [bu_27, b_ge _ (by omega)]
    rfl)
def knw (k : Nat) : Bool := ([0, 1, 2, 3, 4, 8, 12, 16, 20, 24, 28] : List Nat).contains k
theorem knC : ∀ k, k < 32 → ((nI k < 4 ∨ nI k &&& 3 = 0) ↔ knw k = true) := by decide +kernel
theorem knR : ∀ k, k < 32 → ((nI k ≤ 4 ∨ nI k = 8 ∨ nI k = 12 ∨ nI k = 16 ∨ nI k = 20 ∨ nI k = 24 ∨ nI k = 28) ↔ knw k = true) := by decide +kernel
theorem knL {k : Nat} (h : knw k = true) (h2 : k ≠ 2) (h3 : k ≠ 3) : k = 0 ∨ k = 1 ∨ k = 4 ∨ k = 8 ∨ k = 12 ∨ k = 16 ∨ k = 20 ∨ k = 24 ∨ k = 28 := by
  have t : k ∈ ([0, 1, 2, 3, 4, 8, 12, 16, 20, 24, 28] : List Nat) := List.contains_iff_mem.mp h
  simp only [List.mem_cons, List.not_mem_nil, or_false] at t
  omega
theorem bfl {b : Bool} (h : ¬ b = true) : b = false := by cases b; rfl; exact absurd rfl h
theorem c_121 {kc : it_Kc} {m : it_Me} {x0 k : Nat} {w p : Int32} (hk : k < 32) (e : it_us w 27 = nI k) {Φ : Int32 → it_Me → Prop} (h : w_121_24 kc Φ x0 w p (nI k) (if knw k = true then 1 else 0) m) : w_121 kc x0 w p m Φ := by
  have t := knC k hk
  unfold w_121 w_121_19
  rw [e]
  refine ⟨fun q => ?_, fun q => ⟨fun q1 => ?_, fun q1 => ?_⟩⟩
  · rw [if_pos (t.1 (Or.inl q))] at h; exact h
  · rw [if_pos (t.1 (Or.inr q1))] at h; exact h
  · rw [if_neg (fun y => (t.2 y).elim q q1)] at h; exact h
theorem r_331 {kc : it_Kc} {M : it_Me} {k : Nat} {x0 w rd f a b : Int32} (hk : k < 32) (e : it_us w 27 = nI k) {Φ : it_Me → Prop} (h : w_331_59 kc Φ x0 w rd f a b (nI k) (if knw k = true then 1 else 0) M) : w_331 kc x0 w rd f a b M Φ := by
  have t := knR k hk
  unfold w_331 w_331_54
  rw [e]
  have yes : knw k = true → w_331_59 kc Φ x0 w rd f a b (nI k) 1 M := fun y => by rw [if_pos y] at h; exact h
  refine ⟨fun q => yes (t.1 (Or.inl q)), fun q => ⟨fun q1 => yes (t.1 (Or.inr (Or.inl q1))), fun q1 => ⟨fun q2 => yes (t.1 (Or.inr (Or.inr (Or.inl q2)))), fun q2 => ⟨fun q3 => yes (t.1 (Or.inr (Or.inr (Or.inr (Or.inl q3))))), fun q3 => ⟨fun q4 => yes (t.1 (Or.inr (Or.inr (Or.inr (Or.inr (Or.inl q4)))))), fun q4 => ⟨fun q5 => yes (t.1 (Or.inr (Or.inr (Or.inr (Or.inr (Or.inr (Or.inl q5))))))), fun q5 => ⟨fun q6 => yes (t.1 (Or.inr (Or.inr (Or.inr (Or.inr (Or.inr (Or.inr q6))))))), fun q6 => ?_⟩⟩⟩⟩⟩⟩⟩
  rw [if_neg (fun y => by
    rcases t.2 y with y | y | y | y | y | y | y
    · exact q y
    · exact q1 y
    · exact q2 y
    · exact q3 y
    · exact q4 y
    · exact q5 y
    · exact q6 y)] at h
  exact h
/-- atomics -/
theorem x_am {kc : it_Kc} (hk : KC kc) {B : Nat} {m : it_Me} (hI : Inv B m) (hB : B + 1 < 2147483000) {i : Nat} (hi : i < cnt m) (hs : m (14 + 5 * i) 9 = 1) (w : Int32) : Lo kc i (w_121 kc (14 + 5 * i) w (m (14 + 5 * i) 3 + 4)) (w_331 kc (nI i) w (it_us w 7 &&& 31) (it_us w 12 &&& 7) (m (14 + 5 * i + 2) (Int32.toNatClampNeg (it_us w 15 &&& 31))) (m (14 + 5 * i + 2) (Int32.toNatClampNeg (it_us w 20 &&& 31)))) (B + 2) m := by
  have h8 := cnt_le hI
  have i8 : i < 8 := by omega
  have hP := hI.p hi
  have ep : (m (14 + 5 * i) 3 + 4).toInt % 2 = 0 := evA hP.pce (by decide)
  obtain ⟨k, hk32, ek⟩ := numN (x := it_us w 27) (k := 32) (by omega) (by rw [us27, and31]; omega)
  have z4 : (4 : Int32).toInt = 4 := rfl
  have bad : ∀ {C : it_Me → (Int32 → it_Me → Prop) → Prop} {R : it_Me → (it_Me → Prop) → Prop}, (∀ Φ, Φ 2 (it_sv (it_sv m 58 1 2) 58 2 w) → C m Φ) → (∀ M, Rel m M → ∀ Φ, w_258 kc (nI i) 2 w M Φ → R M Φ) → Lo kc i C R (B + 2) m := fun h1 h2 => x_flt hk hI hB hi 2 w h1 h2
  by_cases kn : knw k = true
  · by_cases hf : it_us w 12 &&& 7 = 2
    · by_cases h2 : k = 2 ∧ ¬ it_us w 20 &&& 31 = 0
      · refine bad (fun Φ h => c_121 hk32 ek ?_) (fun M hM Φ h => r_331 hk32 ek ?_)
        · unfold w_121_24 w_121_55 w_108
          rw [if_pos kn]
          exact ⟨fun _ => ⟨fun q => absurd q (by decide), fun _ => ⟨fun _ => ⟨fun q => absurd q h2.2, fun _ => h⟩, fun q => absurd (by rw [h2.1]; rfl) q⟩⟩, fun q => absurd hf q⟩
        · unfold w_331_59 w_331_88 w_321
          rw [if_pos kn]
          exact ⟨fun _ => ⟨fun q => absurd q (by decide), fun _ => ⟨fun _ => ⟨fun q => absurd q h2.2, fun _ => h⟩, fun q => absurd (by rw [h2.1]; rfl) q⟩⟩, fun q => absurd hf q⟩
      have k2e : ∀ n : Nat, n < 32 → (nI k = nI n ↔ k = n) := fun n hn => nEq (by omega) (by omega)
      have cls : ∀ Φ : Int32 → it_Me → Prop, ((k = 2 → w_121_80 kc Φ (14 + 5 * i) w (m (14 + 5 * i) 3 + 4) (nI k) (m (14 + 5 * i + 2) (Int32.toNatClampNeg (it_us w 15 &&& 31))) 1 m) ∧ (¬ k = 2 → w_121_80 kc Φ (14 + 5 * i) w (m (14 + 5 * i) 3 + 4) (nI k) (m (14 + 5 * i + 2) (Int32.toNatClampNeg (it_us w 15 &&& 31))) 0 m)) → w_121 kc (14 + 5 * i) w (m (14 + 5 * i) 3 + 4) m Φ := fun Φ h => c_121 hk32 ek (by
        have t : w_121_62 kc Φ (14 + 5 * i) w (m (14 + 5 * i) 3 + 4) (nI k) m := by
          unfold w_121_62
          refine c_109 ?_
          rw [show (2 : Int32) = nI 2 from rfl, k2e 2 (by omega)]
          exact h
        unfold w_121_24 w_108
        rw [if_pos kn]
        refine ⟨fun _ => ⟨fun q => absurd q (by decide), fun _ => ⟨fun q => ⟨fun _ => t, fun q1 => absurd ⟨(k2e 2 (by omega)).1 q, q1⟩ h2⟩, fun _ => t⟩⟩, fun q => absurd hf q⟩)
      have ref : ∀ (M : it_Me) (Φ : it_Me → Prop), w_331_95 kc Φ (nI i) (it_us w 7 &&& 31) (m (14 + 5 * i + 2) (Int32.toNatClampNeg (it_us w 15 &&& 31))) (m (14 + 5 * i + 2) (Int32.toNatClampNeg (it_us w 20 &&& 31))) (nI k) M → w_331 kc (nI i) w (it_us w 7 &&& 31) (it_us w 12 &&& 7) (m (14 + 5 * i + 2) (Int32.toNatClampNeg (it_us w 15 &&& 31))) (m (14 + 5 * i + 2) (Int32.toNatClampNeg (it_us w 20 &&& 31))) M Φ := fun M Φ h => r_331 hk32 ek (by
        unfold w_331_59
        rw [if_pos kn]
        exact ⟨fun _ => ⟨fun q => absurd q (by decide), fun _ => ⟨fun q => ⟨fun _ => h, fun q1 => absurd ⟨(k2e 2 (by omega)).1 q, q1⟩ h2⟩, fun _ => h⟩⟩, fun q => absurd hf q⟩)
      obtain ⟨a, ea⟩ : ∃ x, x = m (14 + 5 * i + 2) (Int32.toNatClampNeg (it_us w 15 &&& 31)) := ⟨_, rfl⟩
      obtain ⟨b, eb⟩ : ∃ x, x = m (14 + 5 * i + 2) (Int32.toNatClampNeg (it_us w 20 &&& 31)) := ⟨_, rfl⟩
      rw [← ea] at cls ref ⊢
      rw [← eb] at ref ⊢
      by_cases k2 : k = 2
      · have r95 : ∀ (M : it_Me) (Φ : it_Me → Prop), ((a &&& (3 : Int32)) = 0 → w_259 kc (nI i) a (4 : Int32) (1 : Int32) M (fun r1 m2 => (r1 = 0 → w_258 kc (nI i) (5 : Int32) a m2 (fun m3 => w_331_162 kc Φ m3)) ∧ (¬ r1 = 0 → vp_in (nI i) 8 ∧ (w_220 kc a (it_sv m2 97 (Int32.toNatClampNeg (nI i)) a) (fun r4 m5 => w_323 kc (nI i) (it_us w 7 &&& 31) r4 m5 (fun m6 => w_331_162 kc Φ m6)))))) ∧ (¬ (a &&& (3 : Int32)) = 0 → w_258 kc (nI i) (4 : Int32) a M (fun m7 => w_331_162 kc Φ m7)) → w_331_95 kc Φ (nI i) (it_us w 7 &&& 31) a b (nI k) M := fun M Φ h => by
          unfold w_331_95
          exact ⟨fun _ => h, fun q => absurd (by rw [k2]; rfl) q⟩
        by_cases al : (a &&& 3) = 0
        · have al' : a.toInt % 4 = 0 := (alg a (n := 4) (Or.inr (Or.inr rfl))).1 al
          have mr := may_r hI hi (n := (4 : Int32).toInt) (Or.inr (Or.inr rfl)) al'
          by_cases hm : inR m i a ∨ inA m i a
          · have AA := may_A hI hi hm
            have I1 : Inv B (it_sv m (14 + 5 * i) 4 a) := hI.fld hi (by omega) (fun q => absurd q (by omega)) (fun q => absurd q (by omega))
            have ct : cnt (it_sv m (14 + 5 * i) 4 a) = cnt m := cnt_sv _ _ _ (by omega)
            have ra : rsI a = a := by
              unfold rsI
              rw [if_neg (fun q => by rw [q] at al'; exact absurd al' (by decide))]
            refine x_pre (m1 := it_sv m (14 + 5 * i) 4 a) (C1 := fun m1 Φ => Φ 0 (it_sv (wr m1 i (it_us w 7 &&& 31) (gw m a)) (14 + 5 * i) 3 (m (14 + 5 * i) 3 + 4))) (R1 := fun M1 Φ => Φ (it_sv (wrM M1 i (it_us w 7 &&& 31) (gw m a)) 94 i (m (14 + 5 * i) 3 + 4))) (x_fin I1 (by rw [ct]; exact hi) (x := it_us w 7 &&& 31) (R32_and _) _ _ ep (fun Φ h => h) (fun M hM Φ h => h)) (fun Φ h => cls Φ ⟨fun _ => ?_, fun q => absurd k2 q⟩) (FrC.rfl.sv (by omega)) ⟨sv_cell _ _ _ _ (by omega), sv_cell _ _ _ _ (by omega)⟩ (fun M hM => ⟨it_sv M 97 i a, ?_, FrM.rfl.sv (by omega), fun Φ h => ref M Φ (r95 M Φ ⟨fun _ => r_259 hI hM hi (by decide) ?_, fun q => absurd al q⟩)⟩)
            · have fin : w_121_148 kc Φ (14 + 5 * i) w (m (14 + 5 * i) 3 + 4) (nI k) a 1 m := by
                unfold w_121_148
                refine ⟨fun q => absurd q (by decide), fun _ => c_12 ?_⟩
                rw [gw_sv _ _ _ _ (by omega)]
                exact c_107 h
              unfold w_121_80
              refine ⟨fun _ => cR ?_, fun q => absurd al q⟩
              by_cases h1 : inR m i a
              · rw [bI_t h1]
                exact ⟨fun q => absurd q (by decide), fun _ => fin⟩
              · rw [bI_f h1]
                refine ⟨fun _ => ⟨fun q => absurd q (by decide), fun _ => cA hP ?_⟩, fun q => absurd rfl q⟩
                rw [bI_t (hm.resolve_left h1)]
                exact ⟨fun q => absurd q (by decide), fun _ => fin⟩
            · have := hM.rs h8 hi a
              rw [ra] at this
              exact this
            · rw [bI_t (mr.2 hm), cI i8]
              refine ⟨fun q => absurd q (by decide), fun _ => ⟨vI i8, ?_⟩⟩
              have R1 := hM.rs h8 hi a
              rw [ra] at R1
              refine r_220 R1 AA.1 al' (fun q => AA.2 ((excl_ctl (sv_n1 _ _ _ _ _ (by omega)) (fun j _ => ctl_sv2 _ _ (by omega) (by omega)) _).1 q)) (r_323 i8 (R32_and _) ?_)
              rw [gw_sv _ _ _ _ (by omega), sv_n1 (k' := 94) _ _ _ _ _ (by omega), hM.pc hi]
              exact h
          · refine x_flt hk hI hB hi 5 a (fun Φ h => cls Φ ⟨fun _ => ?_, fun q => absurd k2 q⟩) (fun M hM Φ h => ref M Φ (r95 M Φ ⟨fun _ => r_259 hI hM hi (by decide) ?_, fun q => absurd al q⟩))
            · unfold w_121_80 w_121_130 w_121_142
              refine ⟨fun _ => cR ?_, fun q => absurd al q⟩
              rw [bI_f (fun y => hm (Or.inl y))]
              refine ⟨fun _ => ⟨fun q => absurd q (by decide), fun _ => cA hP ?_⟩, fun q => absurd rfl q⟩
              rw [bI_f (fun y => hm (Or.inr y))]
              exact ⟨fun _ => ⟨fun q => absurd q (by decide), fun _ => h⟩, fun q => absurd rfl q⟩
            · rw [bI_f (fun y => hm (mr.1 y))]
              exact ⟨fun _ => h, fun q => absurd rfl q⟩
        · refine x_flt hk hI hB hi 4 a (fun Φ h => cls Φ ⟨fun _ => ?_, fun q => absurd k2 q⟩) (fun M hM Φ h => ref M Φ (r95 M Φ ⟨fun q => absurd q al, fun _ => h⟩))
          unfold w_121_80 w_121_101
          exact ⟨fun q => absurd q al, fun _ => ⟨fun q => absurd q (by decide), fun _ => h⟩⟩
      · have r95 : ∀ (M : it_Me) (Φ : it_Me → Prop), ((a &&& (3 : Int32)) = 0 → (nI k = (3 : Int32) → w_331_198 kc Φ (nI i) (it_us w 7 &&& 31) a b (nI k) (nI i) a (4 : Int32) (2 : Int32) M) ∧ (¬ nI k = (3 : Int32) → w_331_198 kc Φ (nI i) (it_us w 7 &&& 31) a b (nI k) (nI i) a (4 : Int32) (3 : Int32) M)) ∧ (¬ (a &&& (3 : Int32)) = 0 → w_258 kc (nI i) (6 : Int32) a M (fun m8 => w_331_311 kc Φ m8)) → w_331_95 kc Φ (nI i) (it_us w 7 &&& 31) a b (nI k) M := fun M Φ h => by
          unfold w_331_95
          exact ⟨fun q => absurd ((k2e 2 (by omega)).1 q) k2, fun _ => h⟩
        have k3e : nI k = (3 : Int32) ↔ k = 3 := k2e 3 (by omega)
        by_cases al : (a &&& 3) = 0
        · have al' : a.toInt % 4 = 0 := (alg a (n := 4) (Or.inr (Or.inr rfl))).1 al
          have mw2 := may_w hI hi (h := 2) (Or.inl rfl) (n := (4 : Int32).toInt) (Or.inr (Or.inr rfl)) al'
          have mw3 := may_w hI hi (h := 3) (Or.inr rfl) (n := (4 : Int32).toInt) (Or.inr (Or.inr rfl)) al'
          by_cases hm : inR m i a
          · have AA := may_A hI hi (Or.inl hm)
            have hm1 := hm.1
            have sz := hP.szI
            have c148 : ∀ Φ : Int32 → it_Me → Prop, w_121_148 kc Φ (14 + 5 * i) w (m (14 + 5 * i) 3 + 4) (nI k) a 0 m → w_121 kc (14 + 5 * i) w (m (14 + 5 * i) 3 + 4) m Φ := fun Φ h => cls Φ ⟨fun q => absurd q k2, fun _ => by
              unfold w_121_80
              refine ⟨fun _ => cR ?_, fun q => absurd al q⟩
              rw [bI_t hm]
              exact ⟨fun q => absurd q (by decide), fun _ => h⟩⟩
            by_cases k3 : k = 3
            · -- SC
              have I1 : Inv B (it_sv m (14 + 5 * i) 4 1) := hI.fld hi (by omega) (fun q => absurd q (by omega)) (fun q => absurd q (by omega))
              have ct : cnt (it_sv m (14 + 5 * i) 4 1) = cnt m := cnt_sv _ _ _ (by omega)
              have R1 : ∀ M, Rel m M → Rel (it_sv m (14 + 5 * i) 4 1) (it_sv M 97 i 0) := fun M hM => by
                have := hM.rs h8 hi 1
                rw [rs1] at this
                exact this
              have e97 : ∀ M, Rel m M → (M 97 i = a ↔ m (14 + 5 * i) 4 = a) := fun M hM => by
                rw [hM.rsv i hi (by rw [hs]; decide) (by rw [hs]; decide)]
                unfold rsI
                by_cases q : m (14 + 5 * i) 4 = 1
                · rw [if_pos q, q]
                  refine ⟨fun y => ?_, fun y => ?_⟩
                  · rw [← y] at hm1; have z0 : (0 : Int32).toInt = 0 := rfl; omega
                  · rw [← y] at al'; exact absurd al' (by decide)
                · rw [if_neg q]
              have ref2 : ∀ M, Rel m M → ∀ (u : Int32) (Φ : it_Me → Prop), (u = 1 ∧ m (14 + 5 * i) 4 = a ∨ u = 0 ∧ ¬ m (14 + 5 * i) 4 = a) → w_331_238 kc Φ (nI i) (it_us w 7 &&& 31) a b u M → w_331 kc (nI i) w (it_us w 7 &&& 31) (it_us w 12 &&& 7) a b M Φ := fun M hM u Φ hu h => ref M Φ (r95 M Φ ⟨fun _ => ⟨fun _ => by
                unfold w_331_198
                refine r_259 hI hM hi (by decide) ?_
                rw [bI_t (mw2.2 hm), cI i8]
                refine ⟨fun q => absurd q (by decide), fun _ => ⟨fun _ => ⟨vI i8, fun q => ?_, fun q => ?_⟩, fun q => absurd (k3e.2 k3) q⟩⟩
                · rcases hu with y | y
                  · rw [y.1] at h; exact h
                  · exact absurd ((e97 M hM).1 q) y.2
                · rcases hu with y | y
                  · exact absurd ((e97 M hM).2 y.2) q
                  · rw [y.1] at h; exact h, fun q => absurd (k3e.2 k3) q⟩, fun q => absurd al q⟩)
              by_cases kept : m (14 + 5 * i) 4 = a
              · obtain ⟨o1, o2, o3⟩ := own_w I1 (i := i) (a := a) (by rw [ct]; exact hi) (by rw [sv_n2 _ _ _ _ (by omega), sv_n2 _ _ _ _ (by omega)]; exact hm) al' b
                have ct2 : cnt (pw (it_sv m (14 + 5 * i) 4 1) a b) = cnt m := by rw [cnt_pw, ct]
                refine x_pre (m1 := pw (it_sv m (14 + 5 * i) 4 1) a b) (C1 := fun m1 Φ => Φ 0 (it_sv (wr m1 i (it_us w 7 &&& 31) 0) (14 + 5 * i) 3 (m (14 + 5 * i) 3 + 4))) (R1 := fun M1 Φ => Φ (it_sv (wrM M1 i (it_us w 7 &&& 31) 0) 94 i (m (14 + 5 * i) 3 + 4))) (x_fin o2 (by rw [ct2]; exact hi) (x := it_us w 7 &&& 31) (R32_and _) _ _ ep (fun Φ h => h) (fun M hM Φ h => h)) (fun Φ h => c148 Φ ?_) (fun x hx => by rw [pw_c _ _ _ (by omega), sv_cell _ _ _ _ (by omega)]) ⟨by rw [pw_c _ _ _ (by omega), sv_cell _ _ _ _ (by omega)], by rw [pw_c _ _ _ (by omega), sv_cell _ _ _ _ (by omega)]⟩ (fun M hM => ⟨pwM (it_sv M 97 i 0) a b, o3 _ (R1 M hM), (FrM.rfl.sv (by omega)).pwF _ _, fun Φ h => ref2 M hM 1 Φ (Or.inl ⟨rfl, kept⟩) ?_⟩)
                · unfold w_121_148 w_122
                  refine ⟨fun _ => ⟨fun _ => c_109 ?_, fun q => absurd (k3e.2 k3) q⟩, fun q => absurd rfl q⟩
                  rw [← ea]
                  refine ⟨fun _ => ?_, fun q => absurd kept q⟩
                  unfold w_122_21 w_122_42 w_122_59
                  refine ⟨fun q => absurd q (by decide), fun _ => c_110 ?_⟩
                  rw [← eb]
                  refine c_13 ⟨fun q => absurd q (by decide), fun _ => c_107 ?_⟩
                  rw [← pw_sv _ _ _ _ (by omega)]
                  exact h
                · unfold w_331_238 w_331_260 w_331_273 w_331_311
                  rw [cI i8]
                  refine ⟨vI i8, fun q => absurd q (by decide), fun _ => r_221 b AA.1 al' ⟨fun q => absurd q (by decide), fun _ => r_323 i8 (R32_and _) ?_⟩⟩
                  rw [pwM_c _ _ _ (by omega), sv_n1 (k' := 94) _ _ _ _ _ (by omega), hM.pc hi]
                  exact h
              · refine x_pre (m1 := it_sv m (14 + 5 * i) 4 1) (C1 := fun m1 Φ => Φ 0 (it_sv (wr m1 i (it_us w 7 &&& 31) 1) (14 + 5 * i) 3 (m (14 + 5 * i) 3 + 4))) (R1 := fun M1 Φ => Φ (it_sv (wrM M1 i (it_us w 7 &&& 31) 1) 94 i (m (14 + 5 * i) 3 + 4))) (x_fin I1 (by rw [ct]; exact hi) (x := it_us w 7 &&& 31) (R32_and _) _ _ ep (fun Φ h => h) (fun M hM Φ h => h)) (fun Φ h => c148 Φ ?_) (FrC.rfl.sv (by omega)) ⟨sv_cell _ _ _ _ (by omega), sv_cell _ _ _ _ (by omega)⟩ (fun M hM => ⟨it_sv M 97 i 0, R1 M hM, FrM.rfl.sv (by omega), fun Φ h => ref2 M hM 0 Φ (Or.inr ⟨rfl, kept⟩) ?_⟩)
                · unfold w_121_148 w_122
                  refine ⟨fun _ => ⟨fun _ => c_109 ?_, fun q => absurd (k3e.2 k3) q⟩, fun q => absurd rfl q⟩
                  rw [← ea]
                  refine ⟨fun q => absurd q kept, fun _ => ?_⟩
                  unfold w_122_21 w_122_42 w_122_59
                  exact ⟨fun _ => ⟨fun _ => c_107 h, fun q => absurd rfl q⟩, fun q => absurd rfl q⟩
                · unfold w_331_238 w_331_260 w_331_273 w_331_311
                  rw [cI i8]
                  refine ⟨vI i8, fun _ => ⟨fun _ => r_323 i8 (R32_and _) ?_, fun q => absurd rfl q⟩, fun q => absurd rfl q⟩
                  rw [sv_n1 (k' := 94) _ _ _ _ _ (by omega), hM.pc hi]
                  exact h
            · -- AMO
              obtain ⟨v, v1, v2⟩ := cmb (kc := kc) (knL kn k2 k3) (rfl : nI k = nI k) (gw m a) b
              obtain ⟨o1, o2, o3⟩ := own_w hI hi hm al' v
              refine x_pre (m1 := pw m a v) (C1 := fun m1 Φ => Φ 0 (it_sv (wr m1 i (it_us w 7 &&& 31) (gw m a)) (14 + 5 * i) 3 (m (14 + 5 * i) 3 + 4))) (R1 := fun M1 Φ => Φ (it_sv (wrM M1 i (it_us w 7 &&& 31) (gw m a)) 94 i (m (14 + 5 * i) 3 + 4))) (x_fin o2 (by rw [cnt_pw]; exact hi) (x := it_us w 7 &&& 31) (R32_and _) _ _ ep (fun Φ h => h) (fun M hM Φ h => h)) (fun Φ h => c148 Φ ?_) (FrC.rfl.pwF _ _) ⟨pw_c _ _ _ (by omega), pw_c _ _ _ (by omega)⟩ (fun M hM => ⟨pwM M a v, o3 M hM, FrM.rfl.pwF _ _, fun Φ h => ref M Φ (r95 M Φ ⟨fun _ => ⟨fun q => absurd (k3e.1 q) k3, fun _ => ?_⟩, fun q => absurd al q⟩)⟩)
              · unfold w_121_148
                refine ⟨fun _ => ⟨fun q => absurd (k3e.1 q) k3, fun _ => c_12 (c_110 ?_)⟩, fun q => absurd rfl q⟩
                rw [← eb]
                exact v1 _ _ (c_13 (c_107 h))
              · unfold w_331_198 w_331_311
                refine r_259 hI hM hi (by decide) ?_
                rw [bI_t (mw3.2 hm)]
                refine ⟨fun q => absurd q (by decide), fun _ => ⟨fun q => absurd (k3e.1 q) k3, fun _ => r_220 hM AA.1 al' AA.2 (v2 _ _ (r_221 v AA.1 al' (r_323 i8 (R32_and _) ?_)))⟩⟩
                rw [pwM_c _ _ _ (by omega), hM.pc hi]
                exact h
          · refine x_flt hk hI hB hi 7 a (fun Φ h => cls Φ ⟨fun q => absurd q k2, fun _ => ?_⟩) (fun M hM Φ h => ref M Φ (r95 M Φ ⟨fun _ => ⟨fun _ => ?_, fun _ => ?_⟩, fun q => absurd al q⟩))
            · unfold w_121_80 w_121_130 w_121_142
              refine ⟨fun _ => cR ?_, fun q => absurd al q⟩
              rw [bI_f hm]
              exact ⟨fun _ => ⟨fun _ => ⟨fun _ => h, fun q => absurd rfl q⟩, fun q => absurd rfl q⟩, fun q => absurd rfl q⟩
            · unfold w_331_198 w_331_311
              refine r_259 hI hM hi (by decide) ?_
              rw [bI_f (fun y => hm (mw2.1 y))]
              exact ⟨fun _ => h, fun q => absurd rfl q⟩
            · unfold w_331_198 w_331_311
              refine r_259 hI hM hi (by decide) ?_
              rw [bI_f (fun y => hm (mw3.1 y))]
              exact ⟨fun _ => h, fun q => absurd rfl q⟩
        · refine x_flt hk hI hB hi 6 a (fun Φ h => cls Φ ⟨fun q => absurd q k2, fun _ => ?_⟩) (fun M hM Φ h => ref M Φ (r95 M Φ ⟨fun q => absurd q al, fun _ => h⟩))
          unfold w_121_80 w_121_101
          exact ⟨fun q => absurd q al, fun _ => ⟨fun _ => h, fun q => absurd rfl q⟩⟩
    · refine bad (fun Φ h => c_121 hk32 ek ?_) (fun M hM Φ h => r_331 hk32 ek ?_)
      · unfold w_121_24 w_121_55 w_108
        exact ⟨fun q => absurd q hf, fun _ => h⟩
      · unfold w_331_59 w_331_88 w_321
        exact ⟨fun q => absurd q hf, fun _ => h⟩
  · refine bad (fun Φ h => c_121 hk32 ek ?_) (fun M hM Φ h => r_331 hk32 ek ?_)
    · unfold w_121_24 w_121_55 w_108
      rw [if_neg kn]
      exact ⟨fun _ => ⟨fun _ => h, fun q => absurd rfl q⟩, fun _ => h⟩
    · unfold w_331_59 w_331_88 w_321
      rw [if_neg kn]
      exact ⟨fun _ => ⟨fun _ => h, fun q => absurd rfl q⟩, fun _ => h⟩
