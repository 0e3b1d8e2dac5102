/-! The machine: loads, stores, arithmetic. -/
theorem x_pre {kc : it_Kc} {i : Nat} {B' : Nat} {m m1 : it_Me} {C C1 : it_Me → (Int32 → it_Me → Prop) → Prop} {R R1 : it_Me → (it_Me → Prop) → Prop} (h : Lo kc i C1 R1 B' m1) (hC : ∀ Φ, C1 m1 Φ → C m Φ) (fr : FrC m m1) (kq : Kq m m1) (hR : ∀ M, Rel m M → ∃ M1, Rel m1 M1 ∧ FrM M M1 ∧ ∀ Φ, R1 M1 Φ → R M Φ) : Lo kc i C R B' m := by
  obtain ⟨m', a1, a2, a3, a4, a5⟩ := h
  refine ⟨m', fun Φ h => hC _ (a1 Φ h), a2, fr.trans a3, Kq.trans kq a4, fun M hM Φ h => ?_⟩
  obtain ⟨M1, b1, b2, b3⟩ := hR M hM
  exact b3 Φ (a5 M1 b1 Φ (fun M' r f => h M' r (b2.trans f)))
theorem cR {kc : it_Kc} {i : Nat} {a : Int32} {m : it_Me} {Φ : Int32 → it_Me → Prop} (h : Φ (bI (inR m i a)) m) : w_132 kc (14 + 5 * i) a m Φ := c_132 h
theorem cA {kc : it_Kc} {i : Nat} {a : Int32} {m : it_Me} (hP : PI m i) {Φ : Int32 → it_Me → Prop} (h : Φ (bI (inA m i a)) m) : w_133 kc (14 + 5 * i) a m Φ := c_133 hP h
theorem R32_0 : R32 0 := by unfold R32; decide
theorem alg (a : Int32) {n : Int32} (hn : n = 1 ∨ n = 2 ∨ n = 4) : a &&& (n - 1) = 0 ↔ a.toInt % n.toInt = 0 := by
  have z0 : (0 : Int32).toInt = 0 := rfl
  rcases hn with e | e | e
  · subst e
    rw [show (1 : Int32) - 1 = 0 by decide, Int32.and_zero, show (1 : Int32).toInt = 1 from rfl]
    exact ⟨fun _ => by omega, fun _ => rfl⟩
  · subst e
    rw [show (2 : Int32) - 1 = 1 by decide, ← Int32.toInt_inj, and1, z0, show (2 : Int32).toInt = 2 from rfl]
  · subst e
    rw [show (4 : Int32) - 1 = 3 by decide, ← Int32.toInt_inj, and3, z0, show (4 : Int32).toInt = 4 from rfl]
noncomputable def ldv (m : it_Me) (f a : Int32) : Int32 := if f = 0 then it_i2b (gb m a) else if f = 1 then it_i2s (gh m a) else if f = 2 then gw m a else if f = 4 then gb m a else gh m a
theorem ldN {f : Int32} (hf : f = 0 ∨ f = 1 ∨ f = 2 ∨ f = 4 ∨ f = 5) : it_shl 1 (f &&& 3) = 1 ∧ (f = 0 ∨ f = 4) ∨ it_shl 1 (f &&& 3) = 2 ∧ (f = 1 ∨ f = 5) ∨ it_shl 1 (f &&& 3) = 4 ∧ f = 2 := by
  rcases hf with e | e | e | e | e <;> subst e <;> decide
theorem c_ld {kc : it_Kc} {m : it_Me} {i : Nat} {w p f a : Int32} (hf : f = 0 ∨ f = 1 ∨ f = 2 ∨ f = 4 ∨ f = 5) {Φ : Int32 → it_Me → Prop} (h : Φ 0 (it_sv (wr m i (it_us w 7 &&& 31) (ldv m f a)) (14 + 5 * i) 3 p)) : w_115_85 kc Φ (14 + 5 * i) w p f a m := by
  unfold w_115_85
  rcases hf with e | e | e | e | e
  · subst e
    have t := c_16 (kc := kc) (a := a) (m := m) (Φ := fun r1 m2 => w_107 kc (14 + 5 * i) w (it_i2b r1) p m2 (fun r3 m4 => Φ r3 m4)) (c_107 h)
    exact ⟨fun _ => t, fun q => absurd rfl q⟩
  · subst e
    have t := c_14 (kc := kc) (a := a) (m := m) (Φ := fun r1 m2 => w_107 kc (14 + 5 * i) w (it_i2s r1) p m2 (fun r3 m4 => Φ r3 m4)) (c_107 h)
    exact ⟨fun q => absurd q (by decide), fun _ => ⟨fun _ => t, fun q => absurd rfl q⟩⟩
  · subst e
    have t := c_12 (kc := kc) (a := a) (m := m) (Φ := fun r1 m2 => w_107 kc (14 + 5 * i) w r1 p m2 (fun r3 m4 => Φ r3 m4)) (c_107 h)
    exact ⟨fun q => absurd q (by decide), fun _ => ⟨fun q => absurd q (by decide), fun _ => ⟨fun _ => t, fun q => absurd rfl q⟩⟩⟩
  · subst e
    have t := c_16 (kc := kc) (a := a) (m := m) (Φ := fun r1 m2 => w_107 kc (14 + 5 * i) w r1 p m2 (fun r3 m4 => Φ r3 m4)) (c_107 h)
    exact ⟨fun q => absurd q (by decide), fun _ => ⟨fun q => absurd q (by decide), fun _ => ⟨fun q => absurd q (by decide), fun _ => ⟨fun q => absurd q (by decide), fun _ => ⟨fun _ => t, fun q => absurd rfl q⟩⟩⟩⟩⟩
  · subst e
    have t := c_14 (kc := kc) (a := a) (m := m) (Φ := fun r1 m2 => w_107 kc (14 + 5 * i) w r1 p m2 (fun r3 m4 => Φ r3 m4)) (c_107 h)
    exact ⟨fun q => absurd q (by decide), fun _ => ⟨fun q => absurd q (by decide), fun _ => ⟨fun q => absurd q (by decide), fun _ => ⟨fun q => absurd q (by decide), fun _ => ⟨fun q => absurd q (by decide), fun _ => t⟩⟩⟩⟩⟩
/-- a load -/
theorem x_ld {kc : it_Kc} (hk : KC kc) {B : Nat} {m : it_Me} (hI : Inv B m) (hB : B + 1 < 2147483000) {i : Nat} (hi : i < cnt m) (w : Int32) {f : Int32} (hf : f = 0 ∨ f = 1 ∨ f = 2 ∨ f = 4 ∨ f = 5) (a : Int32) {L : Int32} (hL : L = 2 ∨ L = 4) : Lo kc i (fun m Φ => ((a &&& ((it_shl (1 : Int32) (f &&& (3 : Int32))) - (1 : Int32))) = 0 → w_132 kc (14 + 5 * i) a m (fun r5 m6 => (r5 = 0 → w_133 kc (14 + 5 * i) a m6 (fun r7 m8 => (r7 = 0 → w_105 kc (5 : Int32) a m8 (fun r9 m10 => Φ r9 m10)) ∧ (¬ r7 = 0 → w_115_85 kc Φ (14 + 5 * i) w (m (14 + 5 * i) 3 + L) f a m8))) ∧ (¬ r5 = 0 → w_115_85 kc Φ (14 + 5 * i) w (m (14 + 5 * i) 3 + L) f a m6))) ∧ (¬ (a &&& ((it_shl (1 : Int32) (f &&& (3 : Int32))) - (1 : Int32))) = 0 → w_105 kc (4 : Int32) a m (fun r11 m12 => Φ r11 m12))) (w_325 kc (nI i) (it_us w 7 &&& 31) a f L) (B + 2) m := by
  have h8 := cnt_le hI
  have i8 : i < 8 := by omega
  have hP := hI.p hi
  have eL : L.toInt % 2 = 0 := by rcases hL with e | e <;> rw [e] <;> decide
  have ln := ldN hf
  have hn : it_shl (1 : Int32) (f &&& (3 : Int32)) = 1 ∨ it_shl (1 : Int32) (f &&& (3 : Int32)) = 2 ∨ it_shl (1 : Int32) (f &&& (3 : Int32)) = 4 := by
    rcases ln with y | y | y
    · exact Or.inl y.1
    · exact Or.inr (Or.inl y.1)
    · exact Or.inr (Or.inr y.1)
  by_cases ha : (a &&& ((it_shl (1 : Int32) (f &&& (3 : Int32))) - (1 : Int32))) = 0
  · have ha' := (alg a hn).1 ha
    have hn0 : 0 ≤ (it_shl (1 : Int32) (f &&& (3 : Int32))).toInt := by rcases hn with e | e | e <;> rw [e] <;> decide
    have hn1 : (it_shl (1 : Int32) (f &&& (3 : Int32))).toInt = 1 ∨ (it_shl (1 : Int32) (f &&& (3 : Int32))).toInt = 2 ∨ (it_shl (1 : Int32) (f &&& (3 : Int32))).toInt = 4 := by rcases hn with e | e | e <;> rw [e] <;> decide
    have mr := may_r hI hi hn1 ha'
    by_cases hm : inR m i a ∨ inA m i a
    · have A := may_A hI hi hm
      refine x_fin hI hi (x := it_us w 7 &&& 31) (R32_and _) (ldv m f a) (m (14 + 5 * i) 3 + L) (evA hP.pce eL) (fun Φ h => ?_) (fun M hM Φ h => ?_)
      · refine ⟨fun _ => cR ?_, fun q => absurd ha q⟩
        by_cases h1 : inR m i a
        · rw [bI_t h1]
          exact ⟨fun q => absurd q (by decide), fun _ => c_ld hf h⟩
        · rw [bI_f h1]
          refine ⟨fun _ => cA hP ?_, fun q => absurd rfl q⟩
          rw [bI_t (hm.resolve_left h1)]
          exact ⟨fun q => absurd q (by decide), fun _ => c_ld hf h⟩
      · rw [← hM.pc hi] at h
        have fin : ∀ v, v = ldv m f a → w_325_109 kc Φ (nI i) (it_us w 7 &&& 31) L v M := fun v hv => by
          unfold w_325_109 w_325_130
          refine r_319 i8 (R32_and _) ⟨vI i8, vI i8, ?_⟩
          rw [cI i8, wrM_c _ _ _ _ (by omega), hv]
          exact h
        unfold w_325 w_325_82
        refine ⟨fun _ => r_259 hI hM hi hn0 ?_, fun q => absurd ha q⟩
        rw [bI_t (mr.2 hm)]
        refine ⟨fun q => absurd q (by decide), fun _ => ?_⟩
        rcases ln with ⟨y, y2⟩ | ⟨y, y2⟩ | ⟨y, y2⟩
        · rw [y]
          refine ⟨fun _ => r_218 hM A.1 A.2 ?_, fun q => absurd rfl q⟩
          rcases y2 with e | e
          · subst e
            exact ⟨fun _ => fin _ rfl, fun q => absurd rfl q⟩
          · subst e
            exact ⟨fun q => absurd q (by decide), fun _ => ⟨fun q => absurd q (by decide), fun _ => fin _ rfl⟩⟩
        · rw [y] at ha' ⊢
          have a2 : a.toInt % 2 = 0 := ha'
          refine ⟨fun q => absurd q (by decide), fun _ => ⟨fun _ => r_219 hM A.1 a2 A.2 ?_, fun q => absurd rfl q⟩⟩
          rcases y2 with e | e
          · subst e
            exact ⟨fun q => absurd q (by decide), fun _ => ⟨fun _ => fin _ rfl, fun q => absurd rfl q⟩⟩
          · subst e
            exact ⟨fun q => absurd q (by decide), fun _ => ⟨fun q => absurd q (by decide), fun _ => fin _ rfl⟩⟩
        · rw [y] at ha' ⊢
          have a4 : a.toInt % 4 = 0 := ha'
          subst y2
          exact ⟨fun q => absurd q (by decide), fun _ => ⟨fun q => absurd q (by decide), fun _ => r_220 hM A.1 a4 A.2 ⟨fun q => absurd q (by decide), fun _ => ⟨fun q => absurd q (by decide), fun _ => fin _ rfl⟩⟩⟩⟩
    · refine x_flt hk hI hB hi 5 a (fun Φ h => ?_) (fun M hM Φ h => ?_)
      · refine ⟨fun _ => cR ?_, fun q => absurd ha q⟩
        rw [bI_f (fun y => hm (Or.inl y))]
        refine ⟨fun _ => cA hP ?_, fun q => absurd rfl q⟩
        rw [bI_f (fun y => hm (Or.inr y))]
        exact ⟨fun _ => h, fun q => absurd rfl q⟩
      · unfold w_325 w_325_130
        refine ⟨fun _ => r_259 hI hM hi hn0 ?_, fun q => absurd ha q⟩
        rw [bI_f (fun y => hm (mr.1 y))]
        exact ⟨fun _ => h, fun q => absurd rfl q⟩
  · refine x_flt hk hI hB hi 4 a (fun Φ h => ?_) (fun M hM Φ h => ?_)
    · exact ⟨fun q => absurd q ha, fun _ => h⟩
    · unfold w_325 w_325_130
      exact ⟨fun q => absurd q ha, fun _ => h⟩
/-- a half of the own RAM -/
def phM (M : it_Me) (a v : Int32) : it_Me := it_sv (it_sv M 67 (Int32.toNatClampNeg a) (sb8 v 0)) 67 (Int32.toNatClampNeg a + 1) (sb8 v 1)
theorem ph_c (m : it_Me) (a v : Int32) {k : Nat} (h : k ≠ 2) : ph m a v k = m k := by
  unfold ph
  split
  · rfl
  · split
    · rw [sv_cell _ _ _ _ h]
    · rfl
theorem own_h {B : Nat} {m : it_Me} (hI : Inv B m) {i : Nat} (hi : i < cnt m) {a : Int32} (ha : (m (14 + 5 * i) 5).toInt ≤ a.toInt ∧ a.toInt < (m (14 + 5 * i) 7).toInt) (h2 : a.toInt % 2 = 0) (v : Int32) : InM a ∧ Inv B (ph m a v) ∧ ∀ M, Rel m M → Rel (ph m a v) (phM M a v) := by
  have o := (hI.p hi).ord
  have s := (hI.p hi).szI
  have cl := (hI.p hi).ctlI
  have hA : InM a := ⟨by omega, by omega⟩
  have hw := wi_eq hA
  have hj := bj_lt a
  have hq := bj_eq a
  have ej : bj a / 2 * 2 = bj a := by omega
  have ej2 : bj a = 0 ∨ bj a = 2 := by omega
  have hw2 : ∀ w, ph m a v 2 w ≠ m 2 w → (m (14 + 5 * i) 5).toInt ≤ 65536 + 4 * (w : Int) ∧ 65536 + 4 * (w : Int) < (m (14 + 5 * i) 8).toInt := fun w h => by
    rw [ph_in hA] at h
    have e : w = wi a := by
      by_cases e : w = wi a
      · exact e
      · exact absurd (sv_ne _ _ _ _ (Or.inr e)) h
    omega
  refine ⟨hA, hI.own hi (fun k hk => ph_c _ _ _ hk) hw2, fun M hM => hM.own hI hi (fun k hk => ph_c _ _ _ hk) hw2 (fun k hk => by unfold phM; rw [sv_cell _ _ _ _ hk, sv_cell _ _ _ _ hk]) (fun w hw' hx j hj' => ?_)⟩
  unfold phM
  rw [ph_in hA, ad_eq hA, sv_rd, sv_rd, sv_rd, ej]
  by_cases e : w = wi a
  · subst e
    rw [if_pos (show 2 = 2 ∧ wi a = wi a from ⟨rfl, rfl⟩), sb_pH _ _ ej2 hj']
    by_cases e2 : j = bj a + 1
    · rw [if_pos (by omega), if_pos (by omega), e2, show bj a + 1 - bj a = 1 by omega]
    · rw [if_neg (by omega)]
      by_cases e3 : j = bj a
      · rw [if_pos (by omega), if_pos (by omega), e3, Nat.sub_self]
      · rw [if_neg (by omega), if_neg (by omega)]
        exact hM.mem _ hw' hx j hj'
  · rw [if_neg (by omega), if_neg (by omega), if_neg (by omega)]
    exact hM.mem _ hw' hx j hj'
/-- the bytes that the reference stores -/
theorem kpL {kc : it_Kc} {a v v1 v5 n : Int32} {N : Nat} (hn : n = nI N) (hN : N ≤ 4) (ha : 65536 ≤ a.toInt ∧ a.toInt + N ≤ 196608) {Φ : it_Me → Prop} {K : Int32 → Int32 → it_Me → Prop} (k r : Nat) (M : it_Me) (hk : k + (r + 1) = N) (h : w_326_51 kc Φ K (r + 1) v1 a v v5 n (nI (k + 1)) (it_sv M 67 (Int32.toNatClampNeg a + k) (sb8 v k))) : w_326_51 kc Φ K (r + 1 + 1) v1 a v v5 n (nI k) M := by
  have e : (a + nI k).toInt = a.toInt + k := by rw [add_I] <;> rw [nI_toInt (by omega)] <;> omega
  have c : Int32.toNatClampNeg (a + nI k) = Int32.toNatClampNeg a + k := by rw [clampI, clampI, e]; omega
  have sb : it_i2b (it_i2b (it_shr v (8 * nI k))) = sb8 v k := by rw [i2b_i2b, nI8]; rfl
  unfold w_326_51
  rw [hn, nLe (by omega) (by omega), c, sb, nI_1, ← hn]
  exact ⟨fun q => absurd q (by omega), fun _ => ⟨by rw [vp_in_iff, e]; omega, h⟩⟩
theorem kpE {kc : it_Kc} {a v v1 v5 n : Int32} {N : Nat} (hn : n = nI N) (hN : N ≤ 4) {Φ : it_Me → Prop} {K : Int32 → Int32 → it_Me → Prop} (r : Nat) (M : it_Me) (h : K v1 v5 M) : w_326_51 kc Φ K (r + 1) v1 a v v5 n (nI N) M := by
  unfold w_326_51
  rw [hn, nLe (by omega) (by omega)]
  exact ⟨fun _ => h, fun q => absurd (Nat.le_refl _) q⟩
theorem pwM4 (M : it_Me) (a v : Int32) : it_sv (it_sv (it_sv (it_sv M 67 (Int32.toNatClampNeg a + 0) (sb8 v 0)) 67 (Int32.toNatClampNeg a + 1) (sb8 v 1)) 67 (Int32.toNatClampNeg a + 2) (sb8 v 2)) 67 (Int32.toNatClampNeg a + 3) (sb8 v 3) = pwM M a v := by
  funext k x
  by_cases hk : k = 67
  · subst hk
    rw [pwM_r]
    simp only [sv_rd, true_and]
    by_cases hx : Int32.toNatClampNeg a ≤ x ∧ x < Int32.toNatClampNeg a + 4
    · rw [if_pos hx]
      have hj : x = Int32.toNatClampNeg a + 0 ∨ x = Int32.toNatClampNeg a + 1 ∨ x = Int32.toNatClampNeg a + 2 ∨ x = Int32.toNatClampNeg a + 3 := by omega
      rcases hj with rfl | rfl | rfl | rfl <;> simp
    · rw [if_neg hx, if_neg (by omega), if_neg (by omega), if_neg (by omega), if_neg (by omega)]
  · rw [pwM_c _ _ _ hk, sv_cell _ _ _ _ hk, sv_cell _ _ _ _ hk, sv_cell _ _ _ _ hk, sv_cell _ _ _ _ hk]
theorem sb8_0 (v : Int32) : it_i2b v = sb8 v 0 := by
  unfold sb8
  show it_i2b v = it_i2b (it_shr v (nI 0))
  rw [show it_shr v (nI 0) = v from b_ext (fun i hi => by
    show bt (v >>> ((nI 0) &&& 31)) i = bt v i
    rw [b_sshr 0 (by omega) v hi, Nat.zero_add, if_pos hi])]
/-- a store -/
theorem x_st {kc : it_Kc} (hk : KC kc) {B : Nat} {m : it_Me} (hI : Inv B m) (hB : B + 1 < 2147483000) {i : Nat} (hi : i < cnt m) (w : Int32) {f : Int32} (hf : f = 0 ∨ f = 1 ∨ f = 2) (a : Int32) {L : Int32} (hL : L = 2 ∨ L = 4) : Lo kc i (fun m Φ => ((a &&& ((it_shl (1 : Int32) f) - (1 : Int32))) = 0 → w_132 kc (14 + 5 * i) a m (fun r5 m6 => (r5 = 0 → w_105 kc (7 : Int32) a m6 (fun r7 m8 => Φ r7 m8)) ∧ (¬ r5 = 0 → w_110 kc (14 + 5 * i) w m6 (fun r9 m10 => (f = 0 → w_17 kc a r9 m10 (fun m11 => w_116_137 kc Φ (14 + 5 * i) (m (14 + 5 * i) 3 + L) m11)) ∧ (¬ f = 0 → (f = (1 : Int32) → w_15 kc a r9 m10 (fun m12 => w_116_137 kc Φ (14 + 5 * i) (m (14 + 5 * i) 3 + L) m12)) ∧ (¬ f = (1 : Int32) → w_13 kc a r9 m10 (fun m13 => w_116_137 kc Φ (14 + 5 * i) (m (14 + 5 * i) 3 + L) m13))))))) ∧ (¬ (a &&& ((it_shl (1 : Int32) f) - (1 : Int32))) = 0 → w_105 kc (6 : Int32) a m (fun r14 m15 => Φ r14 m15))) (w_326 kc (nI i) a f (m (14 + 5 * i + 2) (Int32.toNatClampNeg (it_us w 20 &&& 31))) L) (B + 2) m := by
  have h8 := cnt_le hI
  have i8 : i < 8 := by omega
  have hP := hI.p hi
  have eL : L.toInt % 2 = 0 := by rcases hL with e | e <;> rw [e] <;> decide
  have ln : it_shl (1 : Int32) f = 1 ∧ f = 0 ∨ it_shl (1 : Int32) f = 2 ∧ f = 1 ∨ it_shl (1 : Int32) f = 4 ∧ f = 2 := by rcases hf with e | e | e <;> subst e <;> decide
  have hn : it_shl (1 : Int32) f = 1 ∨ it_shl (1 : Int32) f = 2 ∨ it_shl (1 : Int32) f = 4 := by
    rcases ln with y | y | y
    · exact Or.inl y.1
    · exact Or.inr (Or.inl y.1)
    · exact Or.inr (Or.inr y.1)
  by_cases ha : (a &&& ((it_shl (1 : Int32) f) - (1 : Int32))) = 0
  · have ha' := (alg a hn).1 ha
    have hn0 : 0 ≤ (it_shl (1 : Int32) f).toInt := by rcases hn with e | e | e <;> rw [e] <;> decide
    have hn1 : (it_shl (1 : Int32) f).toInt = 1 ∨ (it_shl (1 : Int32) f).toInt = 2 ∨ (it_shl (1 : Int32) f).toInt = 4 := by rcases hn with e | e | e <;> rw [e] <;> decide
    have mw := may_w hI hi (h := 2) (Or.inl rfl) hn1 ha'
    by_cases hm : inR m i a
    · have A := may_A hI hi (Or.inl hm)
      have o := hP.ord
      have sz := hP.szI
      have cl := hP.ctlI
      have hm1 := hm.1
      have hm2 := hm.2
      -- the memory behind the store
      have mem : ∃ m1, Inv B m1 ∧ (∀ c, c ≠ 2 → m1 c = m c) ∧ (∀ Φ : it_Me → Prop, Φ m1 → (f = 0 → w_17 kc a (m (14 + 5 * i + 2) (Int32.toNatClampNeg (it_us w 20 &&& 31))) m Φ) ∧ (¬ f = 0 → (f = (1 : Int32) → w_15 kc a (m (14 + 5 * i + 2) (Int32.toNatClampNeg (it_us w 20 &&& 31))) m Φ) ∧ (¬ f = (1 : Int32) → w_13 kc a (m (14 + 5 * i + 2) (Int32.toNatClampNeg (it_us w 20 &&& 31))) m Φ))) ∧ ∀ M, Rel m M → ∃ M1, Rel m1 M1 ∧ (∀ k, k ≠ 67 → M1 k = M k) ∧ ∀ (Φ : it_Me → Prop) (K : Int32 → Int32 → it_Me → Prop), K (nI i) L M1 → ∃ e, w_326_51 kc Φ K e (nI i) a (m (14 + 5 * i + 2) (Int32.toNatClampNeg (it_us w 20 &&& 31))) L (it_shl (1 : Int32) f) 0 M := by
        rcases ln with ⟨y, y2⟩ | ⟨y, y2⟩ | ⟨y, y2⟩
        · subst y2
          obtain ⟨b1, b2, b3⟩ := own_b hI hi hm (m (14 + 5 * i + 2) (Int32.toNatClampNeg (it_us w 20 &&& 31)))
          refine ⟨_, b2, fun c hc => pb_c _ _ _ hc, fun Φ h => ⟨fun _ => c_17 h, fun q => absurd rfl q⟩, fun M hM => ⟨_, b3 M hM, fun k hk => sv_cell _ _ _ _ hk, fun Φ K h => ⟨_, kpL (N := 1) y (by omega) (by omega) 0 0 M rfl (kpE (N := 1) y (by omega) 0 _ ?_)⟩⟩⟩
          rw [sb8_0] at h
          exact h
        · subst y2
          rw [y] at ha'
          obtain ⟨b1, b2, b3⟩ := own_h hI hi hm ha' (m (14 + 5 * i + 2) (Int32.toNatClampNeg (it_us w 20 &&& 31)))
          refine ⟨_, b2, fun c hc => ph_c _ _ _ hc, fun Φ h => ⟨fun q => absurd q (by decide), fun _ => ⟨fun _ => c_15 h, fun q => absurd rfl q⟩⟩, fun M hM => ⟨_, b3 M hM, fun k hk => by unfold phM; rw [sv_cell _ _ _ _ hk, sv_cell _ _ _ _ hk], fun Φ K h => ⟨_, kpL (N := 2) y (by omega) (by have : (2 : Int32).toInt = 2 := rfl; omega) 0 1 M rfl (kpL (N := 2) y (by omega) (by have : (2 : Int32).toInt = 2 := rfl; omega) 1 0 _ rfl (kpE (N := 2) y (by omega) 0 _ h))⟩⟩⟩
        · subst y2
          rw [y] at ha'
          obtain ⟨b1, b2, b3⟩ := own_w hI hi hm ha' (m (14 + 5 * i + 2) (Int32.toNatClampNeg (it_us w 20 &&& 31)))
          have a4 : a.toInt + 4 ≤ 196608 := by
            have : (4 : Int32).toInt = 4 := rfl
            rw [this] at ha'
            omega
          refine ⟨_, b2, fun c hc => pw_c _ _ _ hc, fun Φ h => ⟨fun q => absurd q (by decide), fun _ => ⟨fun q => absurd q (by decide), fun _ => c_13 h⟩⟩, fun M hM => ⟨_, b3 M hM, fun k hk => pwM_c _ _ _ hk, fun Φ K h => ⟨_, kpL (N := 4) y (by omega) (by omega) 0 3 M rfl (kpL (N := 4) y (by omega) (by omega) 1 2 _ rfl (kpL (N := 4) y (by omega) (by omega) 2 1 _ rfl (kpL (N := 4) y (by omega) (by omega) 3 0 _ rfl (kpE (N := 4) y (by omega) 0 _ ?_))))⟩⟩⟩
          rw [← pwM4] at h
          exact h
      obtain ⟨m1, I1, c1, g1, g2⟩ := mem
      have ct : cnt m1 = cnt m := cnt_cg (by rw [c1 9 (by omega)])
      have pc1 : m1 (14 + 5 * i) = m (14 + 5 * i) := c1 _ (by omega)
      refine x_pre (m1 := m1) (C1 := fun m1 Φ => Φ 0 (it_sv m1 (14 + 5 * i) 3 (m (14 + 5 * i) 3 + L))) (R1 := fun M1 Φ => Φ (it_sv M1 94 i (m (14 + 5 * i) 3 + L))) (x_fin I1 (by rw [ct]; exact hi) (x := 0) R32_0 0 (m (14 + 5 * i) 3 + L) (evA hP.pce eL) (fun Φ h => by rw [wr0] at h; exact h) (fun M hM Φ h => by rw [wrM0] at h; exact h)) (fun Φ h => ?_) (fun k hk => c1 k (by omega)) ⟨c1 0 (by omega), c1 9 (by omega)⟩ (fun M hM => ?_)
      · refine ⟨fun _ => cR ?_, fun q => absurd ha q⟩
        rw [bI_t hm]
        refine ⟨fun q => absurd q (by decide), fun _ => c_110 ?_⟩
        exact g1 _ h
      · obtain ⟨M1, r1, f1, e1⟩ := g2 M hM
        refine ⟨M1, r1, fun k hk => f1 k (by omega), fun Φ h => ?_⟩
        unfold w_326
        refine ⟨fun _ => r_259 hI hM hi hn0 ?_, fun q => absurd ha q⟩
        rw [bI_t (mw.2 hm)]
        refine ⟨fun q => absurd q (by decide), fun _ => e1 _ _ ?_⟩
        unfold w_326_82 w_326_93
        rw [cI i8, f1 94 (by omega), hM.pc hi]
        exact ⟨vI i8, vI i8, h⟩
    · refine x_flt hk hI hB hi 7 a (fun Φ h => ?_) (fun M hM Φ h => ?_)
      · refine ⟨fun _ => cR ?_, fun q => absurd ha q⟩
        rw [bI_f hm]
        exact ⟨fun _ => h, fun q => absurd rfl q⟩
      · unfold w_326 w_326_93
        refine ⟨fun _ => r_259 hI hM hi hn0 ?_, fun q => absurd ha q⟩
        rw [bI_f (fun y => hm (mw.1 y))]
        exact ⟨fun _ => h, fun q => absurd rfl q⟩
  · refine x_flt hk hI hB hi 6 a (fun Φ h => ?_) (fun M hM Φ h => ?_)
    · exact ⟨fun q => absurd q ha, fun _ => h⟩
    · unfold w_326 w_326_93
      exact ⟨fun q => absurd q ha, fun _ => h⟩
