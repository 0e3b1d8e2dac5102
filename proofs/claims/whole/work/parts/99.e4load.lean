/-! The class loads: the loop. -/
theorem csL_s (F : Nat → Int32) (s : Int32) (n A : Nat) : csL F s (n + 1) A = if frP F A then (if cand F s A then A :: csL F s n (A + tsz F A) else csL F s n (A + tsz F A)) else [] := by rw [csL]
theorem csL_z (F : Nat → Int32) (s : Int32) (A : Nat) : csL F s 0 A = [] := by rw [csL]
theorem LdR_8 {F : Nat → Int32} {L t : List Nat} {R c : Nat} {P : List (Nat × Nat × Nat)} (h : LdR F L t R c P) (h8 : 8 ≤ c) : P = [] := by
  cases t with
  | nil => exact h
  | cons A t =>
    rcases h with ⟨_, e⟩ | ⟨h, _⟩
    · exact e
    · omega
def clF (m m' : it_Me) (c : Nat) : Prop := m' 2 = m 2 ∧ (∀ k, k ≠ 9 → k ≠ 13 → (k < 14 + 5 * c ∨ 54 ≤ k) → m' k = m k) ∧ (∀ j, j ≠ 7 → m' 9 j = m 9 j) ∧ ∀ i j, i < 8 → j = 15 ∨ j = 16 → m' (14 + 5 * i) j = m (14 + 5 * i) j
theorem clF.trans {a b d : it_Me} {c c' : Nat} (h : clF a b c) (g : clF b d c') (hc : c ≤ c') : clF a d c := ⟨g.1.trans h.1, fun k h1 h2 h3 => (g.2.1 k h1 h2 (by omega)).trans (h.2.1 k h1 h2 h3), fun j hj => (g.2.2.1 j hj).trans (h.2.2.1 j hj), fun i j hi hj => (g.2.2.2 i j hi hj).trans (h.2.2.2 i j hi hj)⟩
theorem LpC.cg {F : Nat → Int32} {m m' : it_Me} {i : Nat} {p : Nat × Nat × Nat} (h : LpC F m i p) (e : ∀ b, b < 5 → m' (14 + 5 * i + b) = m (14 + 5 * i + b)) : LpC F m' i p := by
  have e0 := e 0 (by omega)
  rw [Nat.add_zero] at e0
  unfold LpC
  rw [e0, e 1 (by omega), e 2 (by omega), e 4 (by omega)]
  exact h
theorem c_73l {kc : it_Kc} {B : Nat} {F : Nat → Int32} {s : Int32} : ∀ (n A R c : Nat) (m : it_Me) (P : List (Nat × Nat × Nat)), n ≤ 3840 → 65536 ≤ A → A ≤ 126976 → A % 4 = 0 → 126976 ≤ A + 16 * n → 131072 ≤ R → R ≤ 196608 → Inv B m → cnt m = c → m 0 10 = 1 → s0 m → FlC F m → (∀ w, 16384 ≤ w → w < 32768 → m 2 w = 0) → (∀ i, i < c → (m (14 + 5 * i) 5).toInt + (m (14 + 5 * i) 6).toInt ≤ (R : Int)) → LdR F (csL F s 3840 65536) (csL F s n A) R c P → ∃ m', (∀ (Φ K53 K155 : it_Me → Prop), K53 m' → K155 m' → w_73_9 kc Φ K53 K155 (n + 1) s (nI A) (nI R) (nI (3840 - n)) m) ∧ Inv B m' ∧ cnt m' = c + P.length ∧ (∀ i, i < P.length → LpC F m' (c + i) (P.getD i (0, 0, 0))) ∧ clF m m' c := by
  intro n
  induction n with
  | zero =>
    intro A R c m P hn a1 a2 a4 a3 r1 r2 hI hc ho hs hF hz hlow hP
    rw [csL_z F s A] at hP
    have e : P = [] := hP
    subst e
    refine ⟨m, fun Φ K53 K155 _ h => ?_, hI, hc, fun i hi => absurd hi (Nat.not_lt_zero _), ⟨rfl, fun _ _ _ _ => rfl, fun _ _ => rfl, fun _ _ _ _ => rfl⟩⟩
    unfold w_73_9
    exact ⟨fun _ => h, fun q => absurd ((nLe (a := 3840) (by omega) (by omega)).2 (by omega)) q⟩
  | succ n ih =>
    intro A R c m P hn a1 a2 a4 a3 r1 r2 hI hc ho hs hF hz hlow hP
    have e97 := cntI hI
    rw [hc] at e97
    have hc8 := cnt_le hI
    have lt : ¬ (3840 : Int32) ≤ nI (3840 - (n + 1)) := fun q => absurd ((nLe (a := 3840) (by omega) (by omega)).1 q) (by omega)
    by_cases h8 : 8 ≤ c
    · have e := LdR_8 hP h8
      subst e
      refine ⟨m, fun Φ K53 K155 _ h => ?_, hI, hc, fun i hi => absurd hi (Nat.not_lt_zero _), ⟨rfl, fun _ _ _ _ => rfl, fun _ _ => rfl, fun _ _ _ _ => rfl⟩⟩
      unfold w_73_9
      rw [e97]
      exact ⟨fun q => absurd q lt, fun _ => ⟨fun _ => h, fun q => absurd ((nLe (a := 8) (by omega) (by omega)).2 (by omega)) q⟩⟩
    have c8 : c < 8 := by omega
    have n8 : ¬ (8 : Int32) ≤ nI c := fun q => absurd ((nLe (a := 8) (by omega) (by omega)).1 q) (by omega)
    obtain ⟨m1, x1, x2, x3⟩ := c_1 (kc := kc) hF (k := 14 + 5 * c + 1) (by omega) ⟨a1, a2⟩
    -- states that differ in the cell of the head and in cell 13 only
    have keep : ∀ m' : it_Me, (∀ k, k ≠ 13 → k ≠ 14 + 5 * c + 1 → m' k = m k) → Inv B m' ∧ cnt m' = c ∧ m' 0 10 = 1 ∧ s0 m' ∧ FlC F m' ∧ (∀ w, 16384 ≤ w → w < 32768 → m' 2 w = 0) ∧ (∀ i, i < c → (m' (14 + 5 * i) 5).toInt + (m' (14 + 5 * i) 6).toInt ≤ (R : Int)) ∧ clF m m' c := fun m' h => by
      refine ⟨hI.hi (by omega) (fun k h13 hk => h k h13 (by omega)) (by rw [hc, h _ (by omega) (by omega)]), by rw [cnt_cg (by rw [h 9 (by omega) (by omega)]), hc], by rw [h 0 (by omega) (by omega)]; exact ho, by unfold s0; rw [h 54 (by omega) (by omega), h 55 (by omega) (by omega), h 56 (by omega) (by omega), h 57 (by omega) (by omega)]; exact hs, hF.cg (h 2 (by omega) (by omega)), fun w h1 h2 => by rw [h 2 (by omega) (by omega)]; exact hz w h1 h2, fun i hi => by rw [h _ (by omega) (by omega)]; exact hlow i hi, ⟨h 2 (by omega) (by omega), fun k _ h13 hk => h k h13 (by omega), fun j _ => by rw [h 9 (by omega) (by omega)], fun i j _ _ => by rw [h (14 + 5 * i) (by omega) (by omega)]⟩⟩
    by_cases fr : frP F A
    · obtain ⟨f1, f2, f3, f4, f5, f6, f7, f8⟩ := frF fr a1
      have e1 := x3 fr
      have F1 : FlC F m1 := hF.cg (x2 2 (by omega))
      have w1 : m1 (14 + 5 * c + 1) 1 = nI A := by rw [e1]; unfold frC; rw [sv_n2 _ _ _ _ (by omega), sv_n2 _ _ _ _ (by omega), sv_same]
      have w2 : m1 (14 + 5 * c + 1) 2 = Hh F (A + 2) := by rw [e1]; unfold frC; rw [sv_n2 _ _ _ _ (by omega), sv_same]
      have w3 : m1 (14 + 5 * c + 1) 3 = Gf F (A + 4) := by rw [e1]; unfold frC; rw [sv_same]
      obtain ⟨m2, y1, y2, y3, y4⟩ := c_2 (kc := kc) F1 (k := 14 + 5 * c + 1) (by omega) a1 a4 fr w1 w2 w3
      have d2 : ∀ k, k ≠ 13 → k ≠ 14 + 5 * c + 1 → m2 k = m k := fun k _ hk => by rw [y2 k hk, x2 k hk]
      have nx : nI A + m1 (14 + 5 * c + 1) 3 = nI (A + tsz F A) := by rw [w3, f2]; exact nI_add _ _
      have nv : nI (3840 - (n + 1)) + 1 = nI (3840 - n) := by rw [nI_s1]; congr 1; omega
      -- the app is passed over
      have pass : ∀ m' : it_Me, (∀ k, k ≠ 13 → k ≠ 14 + 5 * c + 1 → m' k = m k) → LdR F (csL F s 3840 65536) (csL F s n (A + tsz F A)) R c P → ∃ m'', (∀ (Φ K53 K155 : it_Me → Prop), K53 m'' → K155 m'' → w_73_149 kc Φ (w_73_9 kc Φ K53 K155 (n + 1)) K53 K155 s (nI (A + tsz F A)) (nI R) (nI (3840 - (n + 1))) m') ∧ Inv B m'' ∧ cnt m'' = c + P.length ∧ (∀ i, i < P.length → LpC F m'' (c + i) (P.getD i (0, 0, 0))) ∧ clF m m'' c := fun m' h hP' => by
        obtain ⟨k1, k2, k3, k4, k5, k6, k7, k8⟩ := keep m' h
        obtain ⟨m'', z1, z2, z3, z4, z5⟩ := ih (A + tsz F A) R c m' P (by omega) (by omega) (by omega) (by omega) (by omega) r1 r2 k1 k2 k3 k4 k5 k6 k7 hP'
        refine ⟨m'', fun Φ K53 K155 g1 g2 => ?_, z2, z3, z4, k8.trans z5 (Nat.le_refl _)⟩
        unfold w_73_149
        rw [nv]
        exact z1 Φ K53 K155 g1 g2
      have start : ∀ {Φ K53 K155 : it_Me → Prop}, ((bI (rsP F A) = 0 → w_73_149 kc Φ (w_73_9 kc Φ K53 K155 (n + 1)) K53 K155 s (nI (A + tsz F A)) (nI R) (nI (3840 - (n + 1))) m2) ∧ (¬ bI (rsP F A) = 0 → w_6 kc (14 + 5 * c + 1) s m2 (fun r5 m6 => (r5 = 0 → w_73_149 kc Φ (w_73_9 kc Φ K53 K155 (n + 1)) K53 K155 s (nI (A + tsz F A)) (nI R) (nI (3840 - (n + 1))) m6) ∧ (¬ r5 = 0 → w_74 kc (14 + 5 * c + 1) s m6 (fun r7 m8 => (r7 = 0 → w_10 kc (14 + 5 * c + 1) m8 (fun r9 m10 => (((196608 : Int32) - (((nI R + r9) - (1 : Int32)) &&& (-r9))) < r9 → w_73_149 kc Φ (w_73_9 kc Φ K53 K155 (n + 1)) K53 K155 s (nI (A + tsz F A)) (nI R) (nI (3840 - (n + 1))) m10) ∧ (¬ ((196608 : Int32) - (((nI R + r9) - (1 : Int32)) &&& (-r9))) < r9 → w_127 kc (14 + 5 * c) (((nI R + r9) - (1 : Int32)) &&& (-r9)) r9 m10 (fun m11 => w_75 kc (14 + 5 * c) m11 (fun m12 => w_73_149 kc Φ (w_73_9 kc Φ K53 K155 (n + 1)) K53 K155 s (nI (A + tsz F A)) ((((nI R + r9) - (1 : Int32)) &&& (-r9)) + r9) (nI (3840 - (n + 1))) (it_sv m12 9 7 ((m12 9 7) + (1 : Int32)))))))) ∧ (¬ r7 = 0 → w_73_149 kc Φ (w_73_9 kc Φ K53 K155 (n + 1)) K53 K155 s (nI (A + tsz F A)) (nI R) (nI (3840 - (n + 1))) m8)))))) → w_73_9 kc Φ K53 K155 (n + 1 + 1) s (nI A) (nI R) (nI (3840 - (n + 1))) m := fun {Φ K53 K155} g => by
        rw [w_73_9]
        rw [e97, cI c8]
        refine ⟨fun q => absurd q lt, fun _ => ⟨fun q => absurd q n8, fun _ => ⟨vI c8, x1 _ ?_⟩⟩⟩
        rw [bI_t fr]
        refine ⟨fun q => absurd q (by decide), fun _ => y1 _ ?_⟩
        rw [nx]
        exact g
      by_cases cd : cand F s A
      · have hd := y4 cd.1
        have z5 : m2 (14 + 5 * c + 1) 5 = rmF F A := hd.1.2.1
        have z6 : m2 (14 + 5 * c + 1) 6 = beF F A := hd.1.2.2.1
        have z7 : m2 (14 + 5 * c + 1) 7 = vrF F A := hd.1.2.2.2
        obtain ⟨I2, k2, k3, k4, k5, k6, k7, k8⟩ := keep m2 d2
        have rb := ram_b cd
        have bm := bkS_m (rmF F A)
        have b5 := bk5 bm
        have pf := plS_f (R := R) (b := bkS (rmF F A)) (by omega)
        have pc := pl_c (R := R) (b := bkS (rmF F A)) r2 bm
        have e10 := hd.2.1 10 (by omega)
        -- outdone or not
        have od : ∃ m3, (∀ k, k ≠ 13 → m3 k = m2 k) ∧ ∀ Ψ : Int32 → it_Me → Prop, (odP F (csL F s 3840 65536) A → Ψ 1 m3) → (¬ odP F (csL F s 3840 65536) A → Ψ 0 m3) → w_74 kc (14 + 5 * c + 1) s m2 Ψ := by
          by_cases nm : sE F A 10 = 0
          · refine ⟨m2, fun _ _ => rfl, fun Ψ _ g0 => ?_⟩
            unfold w_74
            exact ⟨fun _ => g0 (fun y => y.1 nm), fun q => absurd (by rw [← e10]; exact nm) q⟩
          · obtain ⟨m3, t1, t2⟩ := c_74l (kc := kc) (B := B) (F := F) (s := s) (k := 14 + 5 * c + 1) (A := A) (by omega) (by omega) ⟨a1, a4, by omega⟩ nm 3840 65536 m2 (Nat.le_refl _) (Nat.le_refl _) (by omega) (by omega) (by omega) k5 I2 y3.1 z7 e10.symm (hd.2.2.1 nm).symm
            refine ⟨m3, t1, fun Ψ g1 g0 => ?_⟩
            unfold w_74
            exact ⟨fun q => absurd (by rw [e10]; exact q) nm, fun _ => ⟨3841, t2 Ψ (fun m => w_74_94 kc Ψ m) (fun m => w_74_102 kc Ψ m) (fun y => g1 ⟨nm, y⟩) (fun y => g0 (fun z => y z.2))⟩⟩
        obtain ⟨m3, t1, t2⟩ := od
        have d3 : ∀ k, k ≠ 13 → k ≠ 14 + 5 * c + 1 → m3 k = m k := fun k h h' => by rw [t1 k h]; exact d2 k h h'
        have kh : m3 (14 + 5 * c + 1) = m2 (14 + 5 * c + 1) := t1 _ (by omega)
        obtain ⟨I3, j2, j3, j4, j5, j6, j7, j8⟩ := keep m3 d3
        have g6 : ∀ {Ψ : Int32 → it_Me → Prop}, Ψ 1 m2 → w_6 kc (14 + 5 * c + 1) s m2 Ψ := fun h => c_6 I2 k5 a1 fr y3.1 y3.2.1 y3.2.2 (by rw [z5, z6, bI_t cd.2]; exact h)
        have g10 : ∀ {Ψ : Int32 → it_Me → Prop}, Ψ (nI (bkS (rmF F A))) m3 → w_10 kc (14 + 5 * c + 1) m3 Ψ := fun h => c_10 (by rw [kh, z5]; exact rb) (by rw [kh, z5]; exact h)
        have far : (196608 : Int32) - nI (plS R (bkS (rmF F A))) < nI (bkS (rmF F A)) ↔ 196608 < plS R (bkS (rmF F A)) + bkS (rmF F A) := by
          rw [Int32.lt_iff_toInt_lt, sub_I (by rw [nI_toInt (by omega)]; show _ ≤ (196608 : Int) - _; omega) (by rw [nI_toInt (by omega)]; show (196608 : Int) - _ < _; omega), nI_toInt (by omega), nI_toInt (by omega)]
          show (196608 : Int) - _ < _ ↔ _
          omega
        rw [csL_s F s n A, if_pos fr, if_pos cd] at hP
        rcases hP with ⟨q, _⟩ | ⟨_, ⟨sk, hP⟩ | ⟨sk, P', eP, hP⟩⟩
        · omega
        · obtain ⟨m'', p1, p2, p3, p4, p5⟩ := pass m3 d3 hP
          refine ⟨m'', fun Φ K53 K155 g1 g2 => start ?_, p2, p3, p4, p5⟩
          rw [bI_t cd.1]
          refine ⟨fun q => absurd q (by decide), fun _ => g6 ⟨fun q => absurd q (by decide), fun _ => t2 _ (fun _ => ⟨fun q => absurd q (by decide), fun _ => p1 Φ K53 K155 g1 g2⟩) (fun no => ⟨fun _ => g10 ?_, fun q => absurd rfl q⟩)⟩⟩
          rw [pc]
          refine ⟨fun _ => p1 Φ K53 K155 g1 g2, fun q => ?_⟩
          rcases sk with z | z
          · exact absurd z no
          · exact absurd (far.2 z) q
        · have nod : ¬ odP F (csL F s 3840 65536) A := fun y => sk (Or.inl y)
          have nfar : ¬ 196608 < plS R (bkS (rmF F A)) + bkS (rmF F A) := fun y => sk (Or.inr y)
          subst eP
          obtain ⟨N1, N2, N3, N4, N5, N6, N7⟩ := nw (b := bkS (rmF F A)) (S := plS R (bkS (rmF F A))) I3 j2 c8 j3 j4 j5 j6 ⟨a1, a4⟩ fr cd rfl ⟨by omega, by omega, pf.2.2⟩ (by rw [kh]; exact y3.1) (by rw [kh]; exact y3.2.1) (by rw [kh]; exact y3.2.2) (by rw [kh]; exact hd) (fun i hi => by have := j7 i hi; omega)
          have lowN : ∀ i, i < c + 1 → (nwC m3 c (plS R (bkS (rmF F A))) (bkS (rmF F A)) (14 + 5 * i) 5).toInt + (nwC m3 c (plS R (bkS (rmF F A))) (bkS (rmF F A)) (14 + 5 * i) 6).toInt ≤ ((plS R (bkS (rmF F A)) + bkS (rmF F A) : Nat) : Int) := fun i hi => by
            by_cases e : i = c
            · rw [e, N3.1.1, N3.1.2.1, nI_toInt (by show plS R (bkS (rmF F A)) < _; omega), nI_toInt (by show bkS (rmF F A) < _; omega)]
              show ((plS R (bkS (rmF F A)) : Nat) : Int) + ((bkS (rmF F A) : Nat) : Int) ≤ _
              omega
            · rw [N5 _ (by omega) (by omega)]
              have := j7 i (by omega)
              omega
          obtain ⟨m'', p1, p2, p3, p4, p5⟩ := ih (A + tsz F A) (plS R (bkS (rmF F A)) + bkS (rmF F A)) (c + 1) (nwC m3 c (plS R (bkS (rmF F A))) (bkS (rmF F A))) P' (by omega) (by omega) (by omega) (by omega) (by omega) (by omega) (by omega) N1 N2 (by rw [N5 0 (by omega) (by omega)]; exact j3) (by unfold s0; rw [N5 54 (by omega) (by omega), N5 55 (by omega) (by omega), N5 56 (by omega) (by omega), N5 57 (by omega) (by omega)]; exact j4) (j5.cg N4) (by rw [N4]; exact j6) lowN hP
          have D : clF m3 (nwC m3 c (plS R (bkS (rmF F A))) (bkS (rmF F A))) c := ⟨N4, fun k h9 _ hk => N5 k h9 (by omega), N6, fun i j hi hj => by
            by_cases e : i = c
            · rw [e]; exact N7 j hj
            · rw [N5 (14 + 5 * i) (by omega) (by omega)]⟩
          refine ⟨m'', fun Φ K53 K155 g1 g2 => start ?_, p2, by rw [p3, List.length_cons]; omega, fun i hi => ?_, (j8.trans D (Nat.le_refl _)).trans p5 (by omega)⟩
          · rw [bI_t cd.1]
            refine ⟨fun q => absurd q (by decide), fun _ => g6 ⟨fun q => absurd q (by decide), fun _ => t2 _ (fun y => absurd y nod) (fun no => ⟨fun _ => g10 ?_, fun q => absurd rfl q⟩)⟩⟩
            rw [pc]
            refine ⟨fun q => absurd (far.1 q) nfar, fun _ => ?_⟩
            unfold w_127
            have f5 : f4C m3 c (plS R (bkS (rmF F A))) (bkS (rmF F A)) (14 + 5 * c) 5 = nI (plS R (bkS (rmF F A))) := by unfold f4C; simp (disch := omega) only [sv_n2, sv_same]
            have f6' : f4C m3 c (plS R (bkS (rmF F A))) (bkS (rmF F A)) (14 + 5 * c) 6 = nI (bkS (rmF F A)) := by unfold f4C; simp (disch := omega) only [sv_n2, sv_same]
            refine c_75 (m := f4C m3 c (plS R (bkS (rmF F A))) (bkS (rmF F A))) c8 (by rw [f5, f6', nI_toInt (by omega), nI_toInt (by omega)]; omega) ?_
            have e9 : stC (f4C m3 c (plS R (bkS (rmF F A))) (bkS (rmF F A))) c 9 7 = nI c := by
              rw [st_c _ _ (by omega)]
              unfold f4C
              rw [sv_n1 _ _ _ _ _ (by omega), sv_n1 _ _ _ _ _ (by omega), sv_n1 _ _ _ _ _ (by omega), sv_n1 _ _ _ _ _ (by omega), d3 9 (by omega) (by omega)]
              exact e97
            rw [e9, nI_s1, show nI (plS R (bkS (rmF F A))) + nI (bkS (rmF F A)) = nI (plS R (bkS (rmF F A)) + bkS (rmF F A)) from nI_add _ _]
            unfold w_73_149
            rw [nv]
            exact p1 Φ K53 K155 g1 g2
          · cases i with
            | zero => exact N3.cg (fun b hb => p5.2.1 _ (by omega) (by omega) (by omega))
            | succ i =>
              have := p4 i (by rw [List.length_cons] at hi; omega)
              rw [show c + (i + 1) = c + 1 + i by omega]
              exact this
      · have hP' : LdR F (csL F s 3840 65536) (csL F s n (A + tsz F A)) R c P := by rw [csL_s F s n A, if_pos fr, if_neg cd] at hP; exact hP
        obtain ⟨m'', p1, p2, p3, p4, p5⟩ := pass m2 d2 hP'
        refine ⟨m'', fun Φ K53 K155 g1 g2 => start ?_, p2, p3, p4, p5⟩
        by_cases rs : rsP F A
        · have hd := y4 rs
          obtain ⟨I2, k2, k3, k4, k5, k6, k7, k8⟩ := keep m2 d2
          rw [bI_t rs]
          refine ⟨fun q => absurd q (by decide), fun _ => c_6 I2 k5 a1 fr y3.1 y3.2.1 y3.2.2 ?_⟩
          rw [show m2 (14 + 5 * c + 1) 5 = rmF F A from hd.1.2.1, show m2 (14 + 5 * c + 1) 6 = beF F A from hd.1.2.2.1, bI_f (fun y => cd ⟨rs, y⟩)]
          exact ⟨fun _ => p1 Φ K53 K155 g1 g2, fun q => absurd rfl q⟩
        · rw [bI_f rs]
          exact ⟨fun _ => p1 Φ K53 K155 g1 g2, fun q => absurd rfl q⟩
    · have e : P = [] := by rw [csL_s F s n A, if_neg fr] at hP; exact hP
      subst e
      obtain ⟨k1, k2, k3, k4, k5, k6, k7, k8⟩ := keep m1 (fun k _ hk => x2 k hk)
      refine ⟨m1, fun Φ K53 K155 h _ => ?_, k1, k2, fun i hi => absurd hi (Nat.not_lt_zero _), k8⟩
      rw [w_73_9]
      rw [e97, cI c8]
      refine ⟨fun q => absurd q lt, fun _ => ⟨fun q => absurd q n8, fun _ => ⟨vI c8, x1 _ ?_⟩⟩⟩
      rw [bI_f fr]
      exact ⟨fun _ => h, fun q => absurd rfl q⟩
