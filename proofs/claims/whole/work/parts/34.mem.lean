/-! Memory as the reference has it: bytes. -/
theorem PI.ctlI {m : it_Me} {i : Nat} (h : PI m i) : (ctl m i).toInt = (m (14 + 5 * i) 5).toInt + (m (14 + 5 * i) 6).toInt - 64 := by
  have hb := h.blk
  simp only [List.mem_cons, List.not_mem_nil, or_false] at hb
  unfold ctl
  rw [Int32.toInt_sub, Int32.toInt_add]
  simp only [Int32.reduceToInt, bm32]
  omega
theorem PI.szI {m : it_Me} {i : Nat} (h : PI m i) : 1024 ≤ (m (14 + 5 * i) 6).toInt ∧ (m (14 + 5 * i) 6).toInt ≤ 16384 ∧ (m (14 + 5 * i) 5).toInt % 1024 = 0 ∧ (m (14 + 5 * i) 6).toInt % 1024 = 0 ∧ 131072 ≤ (m (14 + 5 * i) 5).toInt ∧ (m (14 + 5 * i) 5).toInt + (m (14 + 5 * i) 6).toInt ≤ 196608 := by
  have hb := h.blk
  simp only [List.mem_cons, List.not_mem_nil, or_false] at hb
  obtain ⟨h1, h2, h3, h4⟩ := hb
  rcases h3 with e | e | e | e | e <;> rw [e] at h4 h2 ⊢ <;> omega
theorem nexF {B : Nat} {m : it_Me} (hI : Inv B m) {w : Nat} (hw : w < 16384) : ¬ excl m w := by
  rintro ⟨i, hi, h1, h2⟩
  have e := (hI.p hi).ctlI
  have b := (hI.p hi).szI
  omega
theorem nexR {B : Nat} {m : it_Me} (hI : Inv B m) {i : Nat} (hi : i < cnt m) {w : Nat} (h1 : (m (14 + 5 * i) 5).toInt ≤ 65536 + 4 * (w : Int)) (h2 : 65536 + 4 * (w : Int) < (ctl m i).toInt) : ¬ excl m w := by
  rintro ⟨j, hj, h3, h4⟩
  have e := (hI.p hi).ctlI
  have b := (hI.p hi).szI
  have e' := (hI.p hj).ctlI
  have b' := (hI.p hj).szI
  rcases Nat.lt_trichotomy i j with h | h | h
  · have := hI.dis (on_of hI hi) i j hj h
    omega
  · subst h; omega
  · have := hI.dis (on_of hI hi) j i hi h
    omega
/-- an address that both know -/
theorem nexA {B : Nat} {m : it_Me} (hI : Inv B m) {a : Int32} (h : 65536 ≤ a.toInt ∧ a.toInt < 131072 ∨ ∃ i, i < cnt m ∧ (m (14 + 5 * i) 5).toInt ≤ a.toInt ∧ a.toInt < (ctl m i).toInt) : InM a ∧ ¬ excl m (wi a) := by
  rcases h with h | ⟨i, hi, h1, h2⟩
  · have ha : InM a := ⟨h.1, by omega⟩
    have := wi_eq ha
    exact ⟨ha, nexF hI (by omega)⟩
  · have e := (hI.p hi).ctlI
    have b := (hI.p hi).szI
    have ha : InM a := ⟨by omega, by omega⟩
    have := wi_eq ha
    exact ⟨ha, nexR hI hi (by omega) (by omega)⟩
theorem r_218 {kc : it_Kc} {m M : it_Me} (h : Rel m M) {a : Int32} (ha : InM a) (hx : ¬ excl m (wi a)) {Φ : Int32 → it_Me → Prop} (hp : Φ (gb m a) M) : w_218 kc a M Φ := by
  unfold w_218
  have h1 := ha.1
  have h2 := ha.2
  refine ⟨by clear hx hp; ((try simp only [Int32.lt_iff_toInt_lt, Int32.le_iff_toInt_le, ← Int32.toInt_inj, Int32.reduceToInt, clampI, vp_in_iff, ne_eq, not_and, not_or, Int32.not_lt, Int32.not_le] at *) <;> (try simp (disch := omega) only [Int32.toInt_add, Int32.toInt_sub, Int32.toInt_mul, Int32.toInt_neg, Int32.reduceToInt, bmI, bmI', and1, and3, and7, and31, and127, and255, and65535, shr2, nI_toInt] at *) <;> (try simp only [bm32, bm32'] at *) <;> omega), ?_⟩
  rw [ad_eq ha, h.mem _ (wi_lt ha) hx _ (bj_lt a), sb_by _ (bj_lt a), ← gb_in ha]
  exact hp
theorem add_I {a : Int32} {k : Int32} (h1 : -2147483648 ≤ a.toInt + k.toInt) (h2 : a.toInt + k.toInt < 2147483648) : (a + k).toInt = a.toInt + k.toInt := by
  rw [Int32.toInt_add, bmI' h1 h2]
theorem wi_of {a b : Int32} (ha : InM a) (hb : InM b) (h : (a.toInt - 65536) / 4 = (b.toInt - 65536) / 4) : wi a = wi b := by
  have := wi_eq ha
  have := wi_eq hb
  omega
theorem r_219 {kc : it_Kc} {m M : it_Me} (h : Rel m M) {a : Int32} (ha : InM a) (h2 : a.toInt % 2 = 0) (hx : ¬ excl m (wi a)) {Φ : Int32 → it_Me → Prop} (hp : Φ (gh m a) M) : w_219 kc a M Φ := by
  have h1 := ha.1
  have h3 := ha.2
  have e : (a + 1).toInt = a.toInt + 1 := add_I (by show -2147483648 ≤ a.toInt + 1; omega) (by show a.toInt + 1 < 2147483648; omega)
  have ha1 : InM (a + 1) := ⟨by omega, by omega⟩
  have ew : wi (a + 1) = wi a := wi_of ha1 ha (by omega)
  have eb : bj (a + 1) = bj a + 1 := by unfold bj; omega
  unfold w_219
  refine r_218 h ha hx (r_218 h ha1 (by rw [ew]; exact hx) ?_)
  rw [gb_in ha, gb_in ha1, ew, eb, hf_by _ (by have := bj_eq a; have := bj_lt a; omega), ← gh_in ha]
  exact hp
theorem r_220 {kc : it_Kc} {m M : it_Me} (h : Rel m M) {a : Int32} (ha : InM a) (h4 : a.toInt % 4 = 0) (hx : ¬ excl m (wi a)) {Φ : Int32 → it_Me → Prop} (hp : Φ (gw m a) M) : w_220 kc a M Φ := by
  have h1 := ha.1
  have h3 := ha.2
  have e : (a + 2).toInt = a.toInt + 2 := add_I (by show -2147483648 ≤ a.toInt + 2; omega) (by show a.toInt + 2 < 2147483648; omega)
  have ha1 : InM (a + 2) := ⟨by omega, by omega⟩
  have ew : wi (a + 2) = wi a := wi_of ha1 ha (by omega)
  have e0 : bj a = 0 := by unfold bj; omega
  have eb : bj (a + 2) = 2 := by unfold bj; omega
  unfold w_220
  refine r_219 h ha (by omega) hx (r_219 h ha1 (by omega) (by rw [ew]; exact hx) ?_)
  have q0 : hf (m 2 (wi a)) 0 = m 2 (wi a) &&& 65535 := by unfold hf; show it_us _ (nI 0) &&& 65535 = _; rw [us_0]
  rw [gh_in ha, gh_in ha1, ew, eb, e0, q0, show hf (m 2 (wi a)) 2 = it_us (m 2 (wi a)) 16 &&& 65535 from rfl, word_of, ← gw_in ha]
  exact hp
/-- four bytes written by the reference -/
def pwM (M : it_Me) (a v : Int32) : it_Me := it_up M 67 (fun x => if Int32.toNatClampNeg a ≤ x ∧ x < Int32.toNatClampNeg a + 4 then sb8 v (x - Int32.toNatClampNeg a) else M 67 x)
theorem pwM_c (M : it_Me) (a v : Int32) {k : Nat} (h : k ≠ 67) : pwM M a v k = M k := by rw [pwM, up_cell _ _ _ h]
theorem pwM_r (M : it_Me) (a v : Int32) (x : Nat) : pwM M a v 67 x = if Int32.toNatClampNeg a ≤ x ∧ x < Int32.toNatClampNeg a + 4 then sb8 v (x - Int32.toNatClampNeg a) else M 67 x := by rw [pwM, up_same]
theorem r_221 {kc : it_Kc} {M : it_Me} {a : Int32} (v : Int32) (ha : InM a) (h4 : a.toInt % 4 = 0) {Φ : it_Me → Prop} (hp : Φ (pwM M a v)) : w_221 kc a v M Φ := by
  have h1 := ha.1
  have h3 := ha.2
  have e : ∀ k : Nat, k < 4 → (a + nI k).toInt = a.toInt + k := fun k hk => by rw [add_I] <;> rw [nI_toInt (by omega)] <;> omega
  have c : ∀ k : Nat, k < 4 → Int32.toNatClampNeg (a + nI k) = Int32.toNatClampNeg a + k := fun k hk => by rw [clampI, clampI, e k hk]; omega
  have vp : ∀ k : Nat, k < 4 → vp_in (a + nI k) 196608 := fun k hk => by rw [vp_in_iff, e k hk]; omega
  have sb : ∀ k : Nat, k < 4 → it_i2b (it_i2b (it_shr v (8 * nI k))) = sb8 v k := fun k hk => by
    rw [i2b_i2b, show (8 : Int32) * nI k = nI (8 * k) from (by decide +kernel : ∀ k, k < 4 → (8 : Int32) * nI k = nI (8 * k)) k hk]; rfl
  have fin : it_sv (it_sv (it_sv (it_sv M 67 (Int32.toNatClampNeg a + 0) (sb8 v 0)) 67 (Int32.toNatClampNeg a + 1) (sb8 v 1)) 67 (Int32.toNatClampNeg a + 2) (sb8 v 2)) 67 (Int32.toNatClampNeg a + 3) (sb8 v 3) = pwM M a v := by
    funext k x
    by_cases hk : k = 67
    · subst hk
      rw [pwM_r]
      simp only [sv_rd, true_and]
      by_cases hx : Int32.toNatClampNeg a ≤ x ∧ x < Int32.toNatClampNeg a + 4
      · rw [if_pos hx]
        have hj : x = Int32.toNatClampNeg a + 0 ∨ x = Int32.toNatClampNeg a + 1 ∨ x = Int32.toNatClampNeg a + 2 ∨ x = Int32.toNatClampNeg a + 3 := by omega
        rcases hj with rfl | rfl | rfl | rfl <;> simp
      · rw [if_neg hx, if_neg (by omega), if_neg (by omega), if_neg (by omega), if_neg (by omega)]
    · rw [pwM_c _ _ _ hk, sv_cell _ _ _ _ hk, sv_cell _ _ _ _ hk, sv_cell _ _ _ _ hk, sv_cell _ _ _ _ hk]
  rw [← fin] at hp
  have st : ∀ (k n : Nat) (N : it_Me) (K : it_Me → Prop), k < 4 → w_221_2 kc Φ K n a v (nI (k + 1)) (it_sv N 67 (Int32.toNatClampNeg a + k) (sb8 v k)) → w_221_2 kc Φ K (n + 1) a v (nI k) N := fun k n N K hk h => by
    unfold w_221_2
    refine ⟨fun q => absurd q ?_, fun _ => ⟨vp k hk, ?_⟩⟩
    · exact (by decide +kernel : ∀ k, k < 4 → ¬ (4 : Int32) ≤ nI k) k hk
    · rw [c k hk, sb k hk, nI_1]; exact h
  refine ⟨5, st 0 4 _ _ (by omega) (st 1 3 _ _ (by omega) (st 2 2 _ _ (by omega) (st 3 1 _ _ (by omega) ?_)))⟩
  unfold w_221_2
  exact ⟨fun _ => hp, fun q => absurd (show (4 : Int32) ≤ nI 4 by decide) q⟩
/-- a word is written by both: pw and pwM -/
theorem Rel.pw {m M : it_Me} (h : Rel m M) (hc : cnt m ≤ 8) {a v : Int32} (ha : InM a) (h4 : a.toInt % 4 = 0)
  (hW : ∀ i, i < cnt m → undW (pw m a v) i → M 111 i = m 62 i + 1) (hR : ∀ i, i < cnt m → undR (pw m a v) i → M 112 i = m 63 i + 1)
  (hC : ∀ i, i < cnt m → M 102 i = gw (pw m a v) (ctl m i + 24) ∧ M 103 i = gw (pw m a v) (ctl m i + 28) ∧ M 104 i = gw (pw m a v) (ctl m i + 32) ∧ M 105 i = gw (pw m a v) (ctl m i + 40)) : Rel (pw m a v) (pwM M a v) := by
  have e0 : bj a = 0 := by unfold bj; omega
  have ea := ad_eq ha
  rw [e0] at ea
  rw [pw_in ha] at hW hR hC ⊢
  refine h.wr hc v (fun k hk => pwM_c _ _ _ hk) (fun j hj => ?_) (fun w' j hw hj => ?_) hW hR hC
  · rw [pwM_r, if_pos (by omega)]
    congr 1
    omega
  · rw [pwM_r, if_neg (by omega)]
theorem gw_pw (m : it_Me) {a : Int32} (v : Int32) (ha : InM a) (h4 : a.toInt % 4 = 0) (b : Int32) (hb : b.toInt % 4 = 0) : gw (pw m a v) b = if b = a then v else gw m b := by
  rw [pw_in ha]
  by_cases hbM : InM b
  · rw [gw_in hbM, gw_in hbM]
    have h1 := wi_eq ha
    have h2 := wi_eq hbM
    have h3 := ha.1
    have h5 := hbM.1
    by_cases e : b = a
    · subst e; rw [if_pos rfl, sv_same]
    · rw [if_neg e, sv_ne _ _ _ _ (Or.inr (fun q => e (Int32.toInt_inj.mp (by omega))))]
  · have hn : b ≠ a := fun q => hbM (q ▸ ha)
    rw [if_neg hn]
    rcases InM.no hbM with h | h
    · unfold gw; rw [if_pos h, if_pos h]
    · unfold gw; rw [if_neg h.1, if_neg h.2, if_neg h.1, if_neg h.2]
theorem pw_c (m : it_Me) (a v : Int32) {k : Nat} (h : k ≠ 2) : pw m a v k = m k := by
  unfold pw
  split
  · rfl
  · split
    · rw [sv_cell _ _ _ _ h]
    · rfl
theorem FrC.pw {a b : it_Me} (h : FrC a b) (x v : Int32) : FrC a (pw b x v) := fun j hj => by rw [pw_c _ _ _ (by omega)]; exact h j hj
theorem FrM.pwM {a b : it_Me} (h : FrM a b) (x v : Int32) : FrM a (pwM b x v) := fun j hj => by rw [pwM_c _ _ _ (by omega)]; exact h j hj
/-- the reference zeroes bytes -/
theorem r_228 {kc : it_Kc} {M : it_Me} {Φ : it_Me → Prop} (hp : Φ (it_fil (it_sv (it_sv (it_sv M 66 3 0) 66 6 0) 66 34 0) 67 131072 196608 0)) : w_228 kc M Φ := by
  unfold w_228
  have lp : ∀ (k : Nat) (N : it_Me) (K : it_Me → Prop), k ≤ 65536 → K (it_fil N 67 (196608 - k) 196608 0) → w_228_18 kc Φ K (k + 1) (nI (196608 - k)) N := fun k => by
    induction k with
    | zero =>
      intro N K _ h
      unfold w_228_18
      refine ⟨fun _ => ?_, fun q => absurd (show (196608 : Int32) ≤ nI 196608 by decide) q⟩
      have : it_fil N 67 (196608 - 0) 196608 0 = N := by
        funext a x
        by_cases ha : a = 67
        · subst ha; rw [fil_rd, if_neg (by omega)]
        · rw [fil_cell _ _ _ _ _ ha]
      rw [this] at h
      exact h
    | succ k ih =>
      intro N K hk h
      unfold w_228_18
      have e := nI_toInt (n := 196608 - (k + 1)) (by omega)
      refine ⟨fun q => ?_, fun _ => ⟨?_, ?_⟩⟩
      · exfalso; rw [Int32.le_iff_toInt_le, e] at q; simp only [Int32.reduceToInt] at q; omega
      · rw [vp_in_iff, e]; omega
      · rw [nI_1, show 196608 - (k + 1) + 1 = 196608 - k by omega, nI_clamp (by omega)]
        refine ih _ _ (by omega) ?_
        have : it_fil (it_sv N 67 (196608 - (k + 1)) (it_i2b 0)) 67 (196608 - k) 196608 0 = it_fil N 67 (196608 - (k + 1)) 196608 0 := by
          funext a x
          by_cases ha : a = 67
          · subst ha
            rw [fil_rd, fil_rd, sv_rd]
            by_cases h1 : 196608 - k ≤ x ∧ x < 196608
            · rw [if_pos h1, if_pos (by omega)]
            · rw [if_neg h1]
              by_cases h2 : x = 196608 - (k + 1)
              · rw [if_pos ⟨rfl, h2⟩, if_pos (by omega)]; rfl
              · rw [if_neg (by omega), if_neg (by omega)]
          · rw [fil_cell _ _ _ _ _ ha, fil_cell _ _ _ _ _ ha, sv_cell _ _ _ _ ha]
        rw [this]
        exact h
  exact ⟨65537, lp 65536 _ _ (by omega) hp⟩
def offC (m : it_Me) : it_Me := it_fil (it_sv (it_sv (it_sv (it_sv m 0 10 0) 7 4 0) 4 0 0) 9 7 0) 2 16384 32768 0
theorem c_212 {kc : it_Kc} {m : it_Me} {Φ : it_Me → Prop} (hp : Φ (offC m)) : w_212 kc m Φ := by
  unfold w_212
  exact c_18 ⟨by decide, by decide⟩ (by decide) (by decide) (by decide) hp
def offM (M : it_Me) : it_Me := it_fil (it_sv (it_sv (it_sv M 66 3 0) 66 6 0) 66 34 0) 67 131072 196608 0
theorem cnt0 {m : it_Me} (h : m 9 7 = 0) : cnt m = 0 := by unfold cnt; rw [h]; rfl
theorem off_I {B : Nat} {m : it_Me} (hI : Inv B m) : Inv B (offC m) := by
  have z9 : offC m 9 7 = 0 := by unfold offC; rw [fil_n1 _ _ _ _ _ _ (by omega), sv_same]
  have z0 : offC m 0 10 = 0 := by unfold offC; rw [fil_n1 _ _ _ _ _ _ (by omega)]; simp (disch := omega) only [sv_same, sv_n1, sv_n2, fil_n1, cnt_sv, gw_sv, ctl_sv, ctl_sv2, cl_0, cl_1, cl_2, cl_3, cl_4, cl_5, cl_6, cl_7, cl_8, cl_9, cl_10, cl_11, cl_12, cl_13, cl_14, cl_15]
  have n0 : ¬ offC m 0 10 = 1 := by rw [z0]; decide
  exact (Inv.upd (hI) (Nat.le_refl B) ([0, 2, 4, 7, 9]) (fun k hk => by simp only [List.mem_cons, List.not_mem_nil, or_false, not_or] at hk; unfold offC; rw [fil_cell _ _ _ _ _ (by omega), sv_cell _ _ _ _ (by omega), sv_cell _ _ _ _ (by omega), sv_cell _ _ _ _ (by omega), sv_cell _ _ _ _ (by omega)]) (Or.inr (by unfold offC; rw [fil_n1 _ _ _ _ _ _ (by omega)]; simp (disch := omega) only [sv_same, sv_n1, sv_n2, fil_n1, cnt_sv, gw_sv, ctl_sv, ctl_sv2, cl_0, cl_1, cl_2, cl_3, cl_4, cl_5, cl_6, cl_7, cl_8, cl_9, cl_10, cl_11, cl_12, cl_13, cl_14, cl_15]; exact hI.tl)) (by first | (refine Or.inl (And.intro ?_ ?_) <;> first | (simp only [List.mem_cons, List.not_mem_nil, or_false, forall_eq_or_imp, forall_eq, false_implies, implies_true, and_true] <;> omega) | (repeat' (first | exact True.intro | rfl | refine And.intro ?_ ?_ | (rw [sv_ne _ _ _ _ (by omega)]) | (rw [up_cell _ _ _ (by omega)]) | (rw [fil_cell _ _ _ _ _ (by omega)]) | (rw [hM _ (by omega)]) | (rw [hm _ (by omega)])))) | (have t_ := Inv.tp (hI); exact Or.inr t_)) (Or.inr (Or.inl z0)) (Or.inr (by
    intro _
    refine ⟨z9, ?_, fun w h1 h2 => ?_⟩
    · unfold offC; rw [fil_n1 _ _ _ _ _ _ (by omega)]; simp (disch := omega) only [sv_same, sv_n1, sv_n2, fil_n1, cnt_sv, gw_sv, ctl_sv, ctl_sv2, cl_0, cl_1, cl_2, cl_3, cl_4, cl_5, cl_6, cl_7, cl_8, cl_9, cl_10, cl_11, cl_12, cl_13, cl_14, cl_15]
    · unfold offC; rw [fil_rd, if_pos ⟨h1, h2⟩])) (Or.inr (by rw [z9]; decide)) (Or.inr (by unfold offC; simp (disch := omega) only [fil_n1, sv_n1, sv_n2]; exact hI.ev)) (by first | (refine Or.inl (And.intro ?_ ?_) <;> first | (simp only [List.mem_cons, List.not_mem_nil, or_false, forall_eq_or_imp, forall_eq, false_implies, implies_true, and_true] <;> omega) | (repeat' (first | exact True.intro | rfl | refine And.intro ?_ ?_ | (rw [sv_ne _ _ _ _ (by omega)]) | (rw [up_cell _ _ _ (by omega)]) | (rw [fil_cell _ _ _ _ _ (by omega)]) | (rw [hM _ (by omega)]) | (rw [hm _ (by omega)])))) | (have t_ := Inv.out (hI); exact Or.inr t_)) (by first | (refine Or.inl (And.intro ?_ ?_) <;> first | (simp only [List.mem_cons, List.not_mem_nil, or_false, forall_eq_or_imp, forall_eq, false_implies, implies_true, and_true] <;> omega) | (repeat' (first | exact True.intro | rfl | refine And.intro ?_ ?_ | (rw [sv_ne _ _ _ _ (by omega)]) | (rw [up_cell _ _ _ (by omega)]) | (rw [fil_cell _ _ _ _ _ (by omega)]) | (rw [hM _ (by omega)]) | (rw [hm _ (by omega)])))) | (have t_ := Inv.num (hI); exact Or.inr t_)) (by first | (refine Or.inl (And.intro ?_ ?_) <;> first | (simp only [List.mem_cons, List.not_mem_nil, or_false, forall_eq_or_imp, forall_eq, false_implies, implies_true, and_true] <;> omega) | (repeat' (first | exact True.intro | rfl | refine And.intro ?_ ?_ | (rw [sv_ne _ _ _ _ (by omega)]) | (rw [up_cell _ _ _ (by omega)]) | (rw [fil_cell _ _ _ _ _ (by omega)]) | (rw [hM _ (by omega)]) | (rw [hm _ (by omega)])))) | (have t_ := Inv.crc (hI); exact Or.inr t_)) (Or.inr (by unfold offC; simp (disch := omega) only [fil_n1, sv_n1, sv_n2]; exact hI.bk)) (Or.inr (fun h => absurd h n0)) (Or.inr (by unfold offC; simp (disch := omega) only [fil_n1, sv_n1, sv_n2]; exact hI.pw)) (Or.inr (fun h => absurd h n0)) (Or.inr (fun h => absurd h n0)) (Or.inr (fun h => absurd h n0)) (Or.inr (fun h => absurd h n0)) (Or.inr (fun h => absurd h n0)) (Or.inr (fun h => absurd h n0)) (Or.inr (fun h => absurd h n0)) (Or.inr (fun h => absurd h n0)) (Or.inr (fun h => absurd h n0)) (Or.inr (fun h => absurd h n0)))
theorem off_R {B : Nat} {m M : it_Me} (hI : Inv B m) (h : Rel m M) (hc : cnt m ≤ 8) : Rel (offC m) (it_sv (offM M) 66 4 0) := by
  have z9 : offC m 9 7 = 0 := by unfold offC; rw [fil_n1 _ _ _ _ _ _ (by omega), sv_same]
  have z0 : offC m 0 10 = 0 := by unfold offC; rw [fil_n1 _ _ _ _ _ _ (by omega)]; simp (disch := omega) only [sv_same, sv_n1, sv_n2, fil_n1, cnt_sv, gw_sv, ctl_sv, ctl_sv2, cl_0, cl_1, cl_2, cl_3, cl_4, cl_5, cl_6, cl_7, cl_8, cl_9, cl_10, cl_11, cl_12, cl_13, cl_14, cl_15]
  have n0 : ¬ offC m 0 10 = 1 := by rw [z0]; decide
  have nc : ∀ i, ¬ i < cnt (offC m) := fun i hi => by rw [cnt0 z9] at hi; omega
  exact (Rel.upd (h) (hc) ([0, 2, 4, 7, 9]) ([66, 67]) (fun k hk => by simp only [List.mem_cons, List.not_mem_nil, or_false, not_or] at hk; unfold offC; rw [fil_cell _ _ _ _ _ (by omega), sv_cell _ _ _ _ (by omega), sv_cell _ _ _ _ (by omega), sv_cell _ _ _ _ (by omega), sv_cell _ _ _ _ (by omega)]) (fun k hk => by simp only [List.mem_cons, List.not_mem_nil, or_false, not_or] at hk; unfold offM; rw [sv_cell _ _ _ _ (by omega), fil_cell _ _ _ _ _ (by omega), sv_cell _ _ _ _ (by omega), sv_cell _ _ _ _ (by omega), sv_cell _ _ _ _ (by omega)]) (Or.inr (by unfold offC offM; simp (disch := omega) only [fil_n1, sv_n1, sv_n2]; exact h.tapeLen)) (Or.inr (by unfold offC offM; simp (disch := omega) only [fil_n1, sv_n1, sv_n2, sv_same])) (Or.inr (by unfold offC offM; simp (disch := omega) only [fil_n1, sv_n1, sv_n2, sv_same])) (Or.inr (by unfold offC offM; simp (disch := omega) only [fil_n1, sv_n1, sv_n2, sv_same]; exact h.power)) (Or.inr (by unfold offC offM; simp (disch := omega) only [fil_n1, sv_n1, sv_n2, sv_same])) (Or.inr (by unfold offC offM; simp (disch := omega) only [fil_n1, sv_n1, sv_n2, sv_same]; exact h.z)) (Or.inr (by unfold offC offM; simp (disch := omega) only [fil_n1, sv_n1, sv_n2, sv_same])) (Or.inr (by unfold offC offM; simp (disch := omega) only [fil_n1, sv_n1, sv_n2, sv_same]; exact h.turn)) (Or.inr (by unfold offC offM; simp (disch := omega) only [fil_n1, sv_n1, sv_n2, sv_same]; exact h.bank)) (by first | (refine Or.inl (And.intro ?_ (And.intro ?_ ?_)) <;> first | (simp only [List.mem_cons, List.not_mem_nil, or_false, forall_eq_or_imp, forall_eq, false_implies, implies_true, and_true] <;> omega) | (repeat' (first | exact True.intro | rfl | refine And.intro ?_ ?_ | (rw [sv_ne _ _ _ _ (by omega)]) | (rw [up_cell _ _ _ (by omega)]) | (rw [fil_cell _ _ _ _ _ (by omega)]) | (rw [hM _ (by omega)]) | (rw [hm _ (by omega)])))) | (have t_ := Rel.tape (h); exact Or.inr t_)) (by first | (refine Or.inl (And.intro ?_ (And.intro ?_ ?_)) <;> first | (simp only [List.mem_cons, List.not_mem_nil, or_false, forall_eq_or_imp, forall_eq, false_implies, implies_true, and_true] <;> omega) | (repeat' (first | exact True.intro | rfl | refine And.intro ?_ ?_ | (rw [sv_ne _ _ _ _ (by omega)]) | (rw [up_cell _ _ _ (by omega)]) | (rw [fil_cell _ _ _ _ _ (by omega)]) | (rw [hM _ (by omega)]) | (rw [hm _ (by omega)])))) | (have t_ := Rel.counts (h); exact Or.inr t_)) (by first | (refine Or.inl (And.intro ?_ (And.intro ?_ ?_)) <;> first | (simp only [List.mem_cons, List.not_mem_nil, or_false, forall_eq_or_imp, forall_eq, false_implies, implies_true, and_true] <;> omega) | (repeat' (first | exact True.intro | rfl | refine And.intro ?_ ?_ | (rw [sv_ne _ _ _ _ (by omega)]) | (rw [up_cell _ _ _ (by omega)]) | (rw [fil_cell _ _ _ _ _ (by omega)]) | (rw [hM _ (by omega)]) | (rw [hm _ (by omega)])))) | (have t_ := Rel.events (h); exact Or.inr t_)) (by first | (refine Or.inl (And.intro ?_ (And.intro ?_ ?_)) <;> first | (simp only [List.mem_cons, List.not_mem_nil, or_false, forall_eq_or_imp, forall_eq, false_implies, implies_true, and_true] <;> omega) | (repeat' (first | exact True.intro | rfl | refine And.intro ?_ ?_ | (rw [sv_ne _ _ _ _ (by omega)]) | (rw [up_cell _ _ _ (by omega)]) | (rw [fil_cell _ _ _ _ _ (by omega)]) | (rw [hM _ (by omega)]) | (rw [hm _ (by omega)])))) | (have t_ := Rel.out (h); exact Or.inr t_)) (by first | (refine Or.inl (And.intro ?_ (And.intro ?_ ?_)) <;> first | (simp only [List.mem_cons, List.not_mem_nil, or_false, forall_eq_or_imp, forall_eq, false_implies, implies_true, and_true] <;> omega) | (repeat' (first | exact True.intro | rfl | refine And.intro ?_ ?_ | (rw [sv_ne _ _ _ _ (by omega)]) | (rw [up_cell _ _ _ (by omega)]) | (rw [fil_cell _ _ _ _ _ (by omega)]) | (rw [hM _ (by omega)]) | (rw [hm _ (by omega)])))) | (have t_ := Rel.lamps (h); exact Or.inr t_)) (by first | (refine Or.inl (And.intro ?_ (And.intro ?_ ?_)) <;> first | (simp only [List.mem_cons, List.not_mem_nil, or_false, forall_eq_or_imp, forall_eq, false_implies, implies_true, and_true] <;> omega) | (repeat' (first | exact True.intro | rfl | refine And.intro ?_ ?_ | (rw [sv_ne _ _ _ _ (by omega)]) | (rw [up_cell _ _ _ (by omega)]) | (rw [fil_cell _ _ _ _ _ (by omega)]) | (rw [hM _ (by omega)]) | (rw [hm _ (by omega)])))) | (have t_ := Rel.buttons (h); exact Or.inr t_)) (by first | (refine Or.inl (And.intro ?_ (And.intro ?_ ?_)) <;> first | (simp only [List.mem_cons, List.not_mem_nil, or_false, forall_eq_or_imp, forall_eq, false_implies, implies_true, and_true] <;> omega) | (repeat' (first | exact True.intro | rfl | refine And.intro ?_ ?_ | (rw [sv_ne _ _ _ _ (by omega)]) | (rw [up_cell _ _ _ (by omega)]) | (rw [fil_cell _ _ _ _ _ (by omega)]) | (rw [hM _ (by omega)]) | (rw [hm _ (by omega)])))) | (have t_ := Rel.lev (h); exact Or.inr t_)) (Or.inr (by
    intro w hw _ j hj
    have e67 : it_sv (offM M) 66 4 0 67 (65536 + 4 * w + j) = if 131072 ≤ 65536 + 4 * w + j ∧ 65536 + 4 * w + j < 196608 then 0 else M 67 (65536 + 4 * w + j) := by
      unfold offM; rw [sv_n1 _ _ _ _ _ (by omega), fil_rd, sv_n1 _ _ _ _ _ (by omega), sv_n1 _ _ _ _ _ (by omega), sv_n1 _ _ _ _ _ (by omega)]
    have e2 : offC m 2 w = if 16384 ≤ w ∧ w < 32768 then 0 else m 2 w := by
      unfold offC; rw [fil_rd, sv_n1 _ _ _ _ _ (by omega), sv_n1 _ _ _ _ _ (by omega), sv_n1 _ _ _ _ _ (by omega), sv_n1 _ _ _ _ _ (by omega)]
    rw [e67, e2]
    by_cases hr : 16384 ≤ w
    · rw [if_pos (by omega), if_pos (by omega), sb_0 hj]
    · rw [if_neg (by omega), if_neg (by omega)]
      exact h.mem w hw (nexF hI (by omega)) j hj)) (Or.inr (fun q => absurd q n0)) (Or.inr (fun q => absurd q n0)) (Or.inr (fun q => absurd q n0)) (Or.inr (fun q => absurd q n0)) (Or.inr (fun q => absurd q n0)) (Or.inr (fun i hi => absurd hi (nc i))) (Or.inr (fun i hi => absurd hi (nc i))) (Or.inr (fun i hi => absurd hi (nc i))) (Or.inr (fun i hi => absurd hi (nc i))) (Or.inr (fun i hi => absurd hi (nc i))) (Or.inr (fun i hi => absurd hi (nc i))) (Or.inr (fun i hi => absurd hi (nc i))) (Or.inr (fun i hi => absurd hi (nc i))) (Or.inr (fun i hi => absurd hi (nc i))) (Or.inr (fun i hi => absurd hi (nc i))) (Or.inr (fun i hi => absurd hi (nc i))))
theorem a_off {kc : it_Kc} {B : Nat} {m : it_Me} (hI : Inv B m) (hl : m 7 4 = 0) : Lk (w_191 kc) (w_227 kc) B m := by
  by_cases ho : m 0 10 = 0
  · refine Lk.ro hI hl (-3) (fun Φ hp => ?_) (fun M hM Φ hp => ?_)
    · unfold w_191
      exact ⟨fun _ => hp, fun h => absurd ho h⟩
    · unfold w_227
      rw [hM.on]
      exact ⟨fun _ => hp, fun h => absurd ho h⟩
  · refine ⟨1, offC m, fun Φ hp => ?_, off_I hI, ?_, ?_, fun M hM Φ hp => ?_⟩
    · unfold w_191
      exact ⟨fun h => absurd h ho, fun _ => c_212 hp⟩
    · intro k hk
      unfold offC
      rw [fil_cell _ _ _ _ _ (by omega), sv_cell _ _ _ _ (by omega), sv_cell _ _ _ _ (by omega), sv_cell _ _ _ _ (by omega), sv_cell _ _ _ _ (by omega)]
    · unfold offC
      simp (disch := omega) only [fil_n1, sv_n1, sv_n2, sv_same]
    · unfold w_227
      rw [hM.on]
      refine ⟨fun h => absurd h ho, fun _ => r_228 ?_⟩
      have e : it_sv (offM M) 66 4 0 = offM M := by
        have : offM M 66 4 = 0 := by unfold offM; simp (disch := omega) only [fil_n1, sv_n2]; rw [hM.lost, hl]
        conv => lhs; rw [← this]
        exact sv_self _ _ _
      have hR := off_R hI hM (cnt_le hI)
      rw [e] at hR
      refine hp _ hR ?_
      intro k hk
      unfold offM
      rw [fil_cell _ _ _ _ _ (by omega), sv_cell _ _ _ _ (by omega), sv_cell _ _ _ _ (by omega), sv_cell _ _ _ _ (by omega)]
theorem burn_lp {kc : it_Kc} {B n : Nat} {a v : Int32} (hv : v.toInt = n) (hn : n ≤ 8192) (ha : 65536 ≤ a.toInt) (hz : a.toInt + n ≤ 131072) : ∀ (r k : Nat) (m : it_Me), k + r = n → Inv B m → m 0 10 = 0 → ∃ m', (∀ Φ (K : Int32 → it_Me → Prop), K v m' → w_189_45 kc Φ K (r + 1) a v (nI k) m) ∧ Inv B m' ∧ FrC m m' ∧ m' 7 4 = m 7 4 ∧ ∀ M, Rel m M → ∀ Φ (K : Int32 → it_Me → Prop), (∀ M', Rel m' M' → FrM M M' → K v M') → w_226_45 kc Φ K (r + 1) a v (nI k) M := by
  intro r
  induction r with
  | zero =>
    intro k m hk hI ho
    have e : (nI k).toInt = k := nI_toInt (by omega)
    refine ⟨m, fun Φ K h => ?_, hI, FrC.rfl, rfl, fun M hM Φ K h => ?_⟩
    · unfold w_189_45
      exact ⟨fun _ => h, fun q => absurd (by rw [Int32.le_iff_toInt_le]; omega) q⟩
    · unfold w_226_45
      exact ⟨fun _ => h M hM FrM.rfl, fun q => absurd (by rw [Int32.le_iff_toInt_le]; omega) q⟩
  | succ r ih =>
    intro k m hk hI ho
    have e : (nI k).toInt = k := nI_toInt (by omega)
    have ea : (a + nI k).toInt = a.toInt + k := by rw [add_I] <;> omega
    have hA : InM (a + nI k) := ⟨by omega, by omega⟩
    have hw := wi_eq hA
    have c0 : cnt m = 0 := cnt0 (hI.off ho).1
    have n0 : ¬ m 0 10 = 1 := by rw [ho]; decide
    have hI1 : Inv B (pb m (a + nI k) (m 65 (Int32.toNatClampNeg (nI k)))) := by
      rw [pb_in hA]
      exact (Inv.upd (hI) (Nat.le_refl B) ([2]) (by intro k hk; simp only [List.mem_cons, List.not_mem_nil, or_false, not_or, not_false_eq_true] at hk; first | rfl | (repeat (first | rw [sv_cell _ _ _ _ (by omega)] | rw [up_cell _ _ _ (by omega)] | rw [fil_cell _ _ _ _ _ (by omega)]))) (by first | (refine Or.inl (And.intro ?_ ?_) <;> first | (simp only [List.mem_cons, List.not_mem_nil, or_false, forall_eq_or_imp, forall_eq, false_implies, implies_true, and_true] <;> omega) | (repeat' (first | exact True.intro | rfl | refine And.intro ?_ ?_ | (rw [sv_ne _ _ _ _ (by omega)]) | (rw [up_cell _ _ _ (by omega)]) | (rw [fil_cell _ _ _ _ _ (by omega)]) | (rw [hM _ (by omega)]) | (rw [hm _ (by omega)])))) | (have t_ := Inv.tl (hI); exact Or.inr t_)) (by first | (refine Or.inl (And.intro ?_ ?_) <;> first | (simp only [List.mem_cons, List.not_mem_nil, or_false, forall_eq_or_imp, forall_eq, false_implies, implies_true, and_true] <;> omega) | (repeat' (first | exact True.intro | rfl | refine And.intro ?_ ?_ | (rw [sv_ne _ _ _ _ (by omega)]) | (rw [up_cell _ _ _ (by omega)]) | (rw [fil_cell _ _ _ _ _ (by omega)]) | (rw [hM _ (by omega)]) | (rw [hm _ (by omega)])))) | (have t_ := Inv.tp (hI); exact Or.inr t_)) (by first | (refine Or.inl (And.intro ?_ ?_) <;> first | (simp only [List.mem_cons, List.not_mem_nil, or_false, forall_eq_or_imp, forall_eq, false_implies, implies_true, and_true] <;> omega) | (repeat' (first | exact True.intro | rfl | refine And.intro ?_ ?_ | (rw [sv_ne _ _ _ _ (by omega)]) | (rw [up_cell _ _ _ (by omega)]) | (rw [fil_cell _ _ _ _ _ (by omega)]) | (rw [hM _ (by omega)]) | (rw [hm _ (by omega)])))) | (have t_ := Inv.on (hI); exact Or.inr t_)) (Or.inr (by
        intro _
        obtain ⟨q1, q2, q3⟩ := hI.off ho
        refine ⟨q1, q2, fun w h1 h2 => ?_⟩
        rw [sv_ne _ _ _ _ (by omega)]
        exact q3 w h1 h2)) (by first | (refine Or.inl (And.intro ?_ ?_) <;> first | (simp only [List.mem_cons, List.not_mem_nil, or_false, forall_eq_or_imp, forall_eq, false_implies, implies_true, and_true] <;> omega) | (repeat' (first | exact True.intro | rfl | refine And.intro ?_ ?_ | (rw [sv_ne _ _ _ _ (by omega)]) | (rw [up_cell _ _ _ (by omega)]) | (rw [fil_cell _ _ _ _ _ (by omega)]) | (rw [hM _ (by omega)]) | (rw [hm _ (by omega)])))) | (have t_ := Inv.cn (hI); exact Or.inr t_)) (by first | (refine Or.inl (And.intro ?_ ?_) <;> first | (simp only [List.mem_cons, List.not_mem_nil, or_false, forall_eq_or_imp, forall_eq, false_implies, implies_true, and_true] <;> omega) | (repeat' (first | exact True.intro | rfl | refine And.intro ?_ ?_ | (rw [sv_ne _ _ _ _ (by omega)]) | (rw [up_cell _ _ _ (by omega)]) | (rw [fil_cell _ _ _ _ _ (by omega)]) | (rw [hM _ (by omega)]) | (rw [hm _ (by omega)])))) | (have t_ := Inv.ev (hI); exact Or.inr t_)) (by first | (refine Or.inl (And.intro ?_ ?_) <;> first | (simp only [List.mem_cons, List.not_mem_nil, or_false, forall_eq_or_imp, forall_eq, false_implies, implies_true, and_true] <;> omega) | (repeat' (first | exact True.intro | rfl | refine And.intro ?_ ?_ | (rw [sv_ne _ _ _ _ (by omega)]) | (rw [up_cell _ _ _ (by omega)]) | (rw [fil_cell _ _ _ _ _ (by omega)]) | (rw [hM _ (by omega)]) | (rw [hm _ (by omega)])))) | (have t_ := Inv.out (hI); exact Or.inr t_)) (by first | (refine Or.inl (And.intro ?_ ?_) <;> first | (simp only [List.mem_cons, List.not_mem_nil, or_false, forall_eq_or_imp, forall_eq, false_implies, implies_true, and_true] <;> omega) | (repeat' (first | exact True.intro | rfl | refine And.intro ?_ ?_ | (rw [sv_ne _ _ _ _ (by omega)]) | (rw [up_cell _ _ _ (by omega)]) | (rw [fil_cell _ _ _ _ _ (by omega)]) | (rw [hM _ (by omega)]) | (rw [hm _ (by omega)])))) | (have t_ := Inv.num (hI); exact Or.inr t_)) (by first | (refine Or.inl (And.intro ?_ ?_) <;> first | (simp only [List.mem_cons, List.not_mem_nil, or_false, forall_eq_or_imp, forall_eq, false_implies, implies_true, and_true] <;> omega) | (repeat' (first | exact True.intro | rfl | refine And.intro ?_ ?_ | (rw [sv_ne _ _ _ _ (by omega)]) | (rw [up_cell _ _ _ (by omega)]) | (rw [fil_cell _ _ _ _ _ (by omega)]) | (rw [hM _ (by omega)]) | (rw [hm _ (by omega)])))) | (have t_ := Inv.crc (hI); exact Or.inr t_)) (by first | (refine Or.inl (And.intro ?_ ?_) <;> first | (simp only [List.mem_cons, List.not_mem_nil, or_false, forall_eq_or_imp, forall_eq, false_implies, implies_true, and_true] <;> omega) | (repeat' (first | exact True.intro | rfl | refine And.intro ?_ ?_ | (rw [sv_ne _ _ _ _ (by omega)]) | (rw [up_cell _ _ _ (by omega)]) | (rw [fil_cell _ _ _ _ _ (by omega)]) | (rw [hM _ (by omega)]) | (rw [hm _ (by omega)])))) | (have t_ := Inv.bk (hI); exact Or.inr t_)) (by first | (refine Or.inl (And.intro ?_ ?_) <;> first | (simp only [List.mem_cons, List.not_mem_nil, or_false, forall_eq_or_imp, forall_eq, false_implies, implies_true, and_true] <;> omega) | (repeat' (first | exact True.intro | rfl | refine And.intro ?_ ?_ | (rw [sv_ne _ _ _ _ (by omega)]) | (rw [up_cell _ _ _ (by omega)]) | (rw [fil_cell _ _ _ _ _ (by omega)]) | (rw [hM _ (by omega)]) | (rw [hm _ (by omega)])))) | (have t_ := Inv.bk1 (hI); exact Or.inr t_)) (by first | (refine Or.inl (And.intro ?_ ?_) <;> first | (simp only [List.mem_cons, List.not_mem_nil, or_false, forall_eq_or_imp, forall_eq, false_implies, implies_true, and_true] <;> omega) | (repeat' (first | exact True.intro | rfl | refine And.intro ?_ ?_ | (rw [sv_ne _ _ _ _ (by omega)]) | (rw [up_cell _ _ _ (by omega)]) | (rw [fil_cell _ _ _ _ _ (by omega)]) | (rw [hM _ (by omega)]) | (rw [hm _ (by omega)])))) | (have t_ := Inv.pw (hI); exact Or.inr t_)) (by first | (refine Or.inl (And.intro ?_ ?_) <;> first | (simp only [List.mem_cons, List.not_mem_nil, or_false, forall_eq_or_imp, forall_eq, false_implies, implies_true, and_true] <;> omega) | (repeat' (first | exact True.intro | rfl | refine And.intro ?_ ?_ | (rw [sv_ne _ _ _ _ (by omega)]) | (rw [up_cell _ _ _ (by omega)]) | (rw [fil_cell _ _ _ _ _ (by omega)]) | (rw [hM _ (by omega)]) | (rw [hm _ (by omega)])))) | (have t_ := Inv.kd (hI); exact Or.inr t_)) (by first | (refine Or.inl (And.intro ?_ ?_) <;> first | (simp only [List.mem_cons, List.not_mem_nil, or_false, forall_eq_or_imp, forall_eq, false_implies, implies_true, and_true] <;> omega) | (repeat' (first | exact True.intro | rfl | refine And.intro ?_ ?_ | (rw [sv_ne _ _ _ _ (by omega)]) | (rw [up_cell _ _ _ (by omega)]) | (rw [fil_cell _ _ _ _ _ (by omega)]) | (rw [hM _ (by omega)]) | (rw [hm _ (by omega)])))) | (have t_ := Inv.tn (hI); exact Or.inr t_)) (by first | (refine Or.inl (And.intro ?_ ?_) <;> first | (simp only [List.mem_cons, List.not_mem_nil, or_false, forall_eq_or_imp, forall_eq, false_implies, implies_true, and_true] <;> omega) | (repeat' (first | exact True.intro | rfl | refine And.intro ?_ ?_ | (rw [sv_ne _ _ _ _ (by omega)]) | (rw [up_cell _ _ _ (by omega)]) | (rw [fil_cell _ _ _ _ _ (by omega)]) | (rw [hM _ (by omega)]) | (rw [hm _ (by omega)])))) | (have t_ := Inv.ask (hI); exact Or.inr t_)) (Or.inr (fun h => absurd h n0)) (Or.inr (fun h => absurd h n0)) (by first | (refine Or.inl (And.intro ?_ ?_) <;> first | (simp only [List.mem_cons, List.not_mem_nil, or_false, forall_eq_or_imp, forall_eq, false_implies, implies_true, and_true] <;> omega) | (repeat' (first | exact True.intro | rfl | refine And.intro ?_ ?_ | (rw [sv_ne _ _ _ _ (by omega)]) | (rw [up_cell _ _ _ (by omega)]) | (rw [fil_cell _ _ _ _ _ (by omega)]) | (rw [hM _ (by omega)]) | (rw [hm _ (by omega)])))) | (have t_ := Inv.lv0 (hI); exact Or.inr t_)) (by first | (refine Or.inl (And.intro ?_ ?_) <;> first | (simp only [List.mem_cons, List.not_mem_nil, or_false, forall_eq_or_imp, forall_eq, false_implies, implies_true, and_true] <;> omega) | (repeat' (first | exact True.intro | rfl | refine And.intro ?_ ?_ | (rw [sv_ne _ _ _ _ (by omega)]) | (rw [up_cell _ _ _ (by omega)]) | (rw [fil_cell _ _ _ _ _ (by omega)]) | (rw [hM _ (by omega)]) | (rw [hm _ (by omega)])))) | (have t_ := Inv.lv2 (hI); exact Or.inr t_)) (by first | (refine Or.inl (And.intro ?_ ?_) <;> first | (simp only [List.mem_cons, List.not_mem_nil, or_false, forall_eq_or_imp, forall_eq, false_implies, implies_true, and_true] <;> omega) | (repeat' (first | exact True.intro | rfl | refine And.intro ?_ ?_ | (rw [sv_ne _ _ _ _ (by omega)]) | (rw [up_cell _ _ _ (by omega)]) | (rw [fil_cell _ _ _ _ _ (by omega)]) | (rw [hM _ (by omega)]) | (rw [hm _ (by omega)])))) | (have t_ := Inv.pl (hI); exact Or.inr t_)) (Or.inr (fun h => absurd h n0)) (by first | (refine Or.inl (And.intro ?_ ?_) <;> first | (simp only [List.mem_cons, List.not_mem_nil, or_false, forall_eq_or_imp, forall_eq, false_implies, implies_true, and_true] <;> omega) | (repeat' (first | exact True.intro | rfl | refine And.intro ?_ ?_ | (rw [sv_ne _ _ _ _ (by omega)]) | (rw [up_cell _ _ _ (by omega)]) | (rw [fil_cell _ _ _ _ _ (by omega)]) | (rw [hM _ (by omega)]) | (rw [hm _ (by omega)])))) | (have t_ := Inv.dis (hI); exact Or.inr t_)))
    obtain ⟨m', h1, h2, h3, h4, h5⟩ := ih (k + 1) _ (by omega) hI1 (by rw [pb_in hA]; exact ho)
    have f1 : FrC m (pb m (a + nI k) (m 65 (Int32.toNatClampNeg (nI k)))) := by rw [pb_in hA]; exact FrC.rfl.sv (by omega)
    refine ⟨m', fun Φ K h => ?_, h2, f1.trans h3, by rw [h4, pb_in hA]; rfl, fun M hM Φ K h => ?_⟩
    · unfold w_189_45
      refine ⟨fun q => ?_, fun _ => ⟨fun q => ?_, fun _ => ⟨?_, c_17 ?_⟩⟩⟩
      · exfalso; rw [Int32.le_iff_toInt_le] at q; omega
      · exfalso; rw [Int32.le_iff_toInt_le, e] at q; simp only [Int32.reduceToInt] at q; omega
      · rw [vp_in_iff]; omega
      · rw [nI_1]; exact h1 Φ K h
    · unfold w_226_45
      refine ⟨fun q => ?_, fun _ => ⟨?_, ?_, ?_⟩⟩
      · exfalso; rw [Int32.le_iff_toInt_le] at q; omega
      · rw [vp_in_iff]; omega
      · rw [vp_in_iff]; omega
      · rw [nI_1, hM.tape _ (by rw [nI_clamp (by omega)]; omega)]
        exact h5 _ (hM.pb (by omega) hA (excl0 (hI.off ho).1 _) (fun i hi => by omega)) Φ K (fun M' hR' hF' => h M' hR' ((FrM.rfl.sv (by omega)).trans hF'))
theorem a_burn {kc : it_Kc} {B : Nat} {m : it_Me} (hI : Inv B m) (hl : m 7 4 = 0) (n : Int32) : Lk (w_189 kc n) (w_226 kc n) B m := by
  have ht := hI.tl
  have hI0 : Inv B (it_sv m 0 9 0) := (Inv.upd (hI) (Nat.le_refl B) ([0]) (by intro k hk; simp only [List.mem_cons, List.not_mem_nil, or_false, not_or, not_false_eq_true] at hk; first | rfl | (repeat (first | rw [sv_cell _ _ _ _ (by omega)] | rw [up_cell _ _ _ (by omega)] | rw [fil_cell _ _ _ _ _ (by omega)]))) (Or.inr (by rw [sv_same]; decide)) (by first | (refine Or.inl (And.intro ?_ ?_) <;> first | (simp only [List.mem_cons, List.not_mem_nil, or_false, forall_eq_or_imp, forall_eq, false_implies, implies_true, and_true] <;> omega) | (repeat' (first | exact True.intro | rfl | refine And.intro ?_ ?_ | (rw [sv_ne _ _ _ _ (by omega)]) | (rw [up_cell _ _ _ (by omega)]) | (rw [fil_cell _ _ _ _ _ (by omega)]) | (rw [hM _ (by omega)]) | (rw [hm _ (by omega)])))) | (have t_ := Inv.tp (hI); exact Or.inr t_)) (by first | (refine Or.inl (And.intro ?_ ?_) <;> first | (simp only [List.mem_cons, List.not_mem_nil, or_false, forall_eq_or_imp, forall_eq, false_implies, implies_true, and_true] <;> omega) | (repeat' (first | exact True.intro | rfl | refine And.intro ?_ ?_ | (rw [sv_ne _ _ _ _ (by omega)]) | (rw [up_cell _ _ _ (by omega)]) | (rw [fil_cell _ _ _ _ _ (by omega)]) | (rw [hM _ (by omega)]) | (rw [hm _ (by omega)])))) | (have t_ := Inv.on (hI); exact Or.inr t_)) (by first | (refine Or.inl (And.intro ?_ ?_) <;> first | (simp only [List.mem_cons, List.not_mem_nil, or_false, forall_eq_or_imp, forall_eq, false_implies, implies_true, and_true] <;> omega) | (repeat' (first | exact True.intro | rfl | refine And.intro ?_ ?_ | (rw [sv_ne _ _ _ _ (by omega)]) | (rw [up_cell _ _ _ (by omega)]) | (rw [fil_cell _ _ _ _ _ (by omega)]) | (rw [hM _ (by omega)]) | (rw [hm _ (by omega)])))) | (have t_ := Inv.off (hI); exact Or.inr t_)) (by first | (refine Or.inl (And.intro ?_ ?_) <;> first | (simp only [List.mem_cons, List.not_mem_nil, or_false, forall_eq_or_imp, forall_eq, false_implies, implies_true, and_true] <;> omega) | (repeat' (first | exact True.intro | rfl | refine And.intro ?_ ?_ | (rw [sv_ne _ _ _ _ (by omega)]) | (rw [up_cell _ _ _ (by omega)]) | (rw [fil_cell _ _ _ _ _ (by omega)]) | (rw [hM _ (by omega)]) | (rw [hm _ (by omega)])))) | (have t_ := Inv.cn (hI); exact Or.inr t_)) (by first | (refine Or.inl (And.intro ?_ ?_) <;> first | (simp only [List.mem_cons, List.not_mem_nil, or_false, forall_eq_or_imp, forall_eq, false_implies, implies_true, and_true] <;> omega) | (repeat' (first | exact True.intro | rfl | refine And.intro ?_ ?_ | (rw [sv_ne _ _ _ _ (by omega)]) | (rw [up_cell _ _ _ (by omega)]) | (rw [fil_cell _ _ _ _ _ (by omega)]) | (rw [hM _ (by omega)]) | (rw [hm _ (by omega)])))) | (have t_ := Inv.ev (hI); exact Or.inr t_)) (by first | (refine Or.inl (And.intro ?_ ?_) <;> first | (simp only [List.mem_cons, List.not_mem_nil, or_false, forall_eq_or_imp, forall_eq, false_implies, implies_true, and_true] <;> omega) | (repeat' (first | exact True.intro | rfl | refine And.intro ?_ ?_ | (rw [sv_ne _ _ _ _ (by omega)]) | (rw [up_cell _ _ _ (by omega)]) | (rw [fil_cell _ _ _ _ _ (by omega)]) | (rw [hM _ (by omega)]) | (rw [hm _ (by omega)])))) | (have t_ := Inv.out (hI); exact Or.inr t_)) (by first | (refine Or.inl (And.intro ?_ ?_) <;> first | (simp only [List.mem_cons, List.not_mem_nil, or_false, forall_eq_or_imp, forall_eq, false_implies, implies_true, and_true] <;> omega) | (repeat' (first | exact True.intro | rfl | refine And.intro ?_ ?_ | (rw [sv_ne _ _ _ _ (by omega)]) | (rw [up_cell _ _ _ (by omega)]) | (rw [fil_cell _ _ _ _ _ (by omega)]) | (rw [hM _ (by omega)]) | (rw [hm _ (by omega)])))) | (have t_ := Inv.num (hI); exact Or.inr t_)) (by first | (refine Or.inl (And.intro ?_ ?_) <;> first | (simp only [List.mem_cons, List.not_mem_nil, or_false, forall_eq_or_imp, forall_eq, false_implies, implies_true, and_true] <;> omega) | (repeat' (first | exact True.intro | rfl | refine And.intro ?_ ?_ | (rw [sv_ne _ _ _ _ (by omega)]) | (rw [up_cell _ _ _ (by omega)]) | (rw [fil_cell _ _ _ _ _ (by omega)]) | (rw [hM _ (by omega)]) | (rw [hm _ (by omega)])))) | (have t_ := Inv.crc (hI); exact Or.inr t_)) (by first | (refine Or.inl (And.intro ?_ ?_) <;> first | (simp only [List.mem_cons, List.not_mem_nil, or_false, forall_eq_or_imp, forall_eq, false_implies, implies_true, and_true] <;> omega) | (repeat' (first | exact True.intro | rfl | refine And.intro ?_ ?_ | (rw [sv_ne _ _ _ _ (by omega)]) | (rw [up_cell _ _ _ (by omega)]) | (rw [fil_cell _ _ _ _ _ (by omega)]) | (rw [hM _ (by omega)]) | (rw [hm _ (by omega)])))) | (have t_ := Inv.bk (hI); exact Or.inr t_)) (by first | (refine Or.inl (And.intro ?_ ?_) <;> first | (simp only [List.mem_cons, List.not_mem_nil, or_false, forall_eq_or_imp, forall_eq, false_implies, implies_true, and_true] <;> omega) | (repeat' (first | exact True.intro | rfl | refine And.intro ?_ ?_ | (rw [sv_ne _ _ _ _ (by omega)]) | (rw [up_cell _ _ _ (by omega)]) | (rw [fil_cell _ _ _ _ _ (by omega)]) | (rw [hM _ (by omega)]) | (rw [hm _ (by omega)])))) | (have t_ := Inv.bk1 (hI); exact Or.inr t_)) (by first | (refine Or.inl (And.intro ?_ ?_) <;> first | (simp only [List.mem_cons, List.not_mem_nil, or_false, forall_eq_or_imp, forall_eq, false_implies, implies_true, and_true] <;> omega) | (repeat' (first | exact True.intro | rfl | refine And.intro ?_ ?_ | (rw [sv_ne _ _ _ _ (by omega)]) | (rw [up_cell _ _ _ (by omega)]) | (rw [fil_cell _ _ _ _ _ (by omega)]) | (rw [hM _ (by omega)]) | (rw [hm _ (by omega)])))) | (have t_ := Inv.pw (hI); exact Or.inr t_)) (by first | (refine Or.inl (And.intro ?_ ?_) <;> first | (simp only [List.mem_cons, List.not_mem_nil, or_false, forall_eq_or_imp, forall_eq, false_implies, implies_true, and_true] <;> omega) | (repeat' (first | exact True.intro | rfl | refine And.intro ?_ ?_ | (rw [sv_ne _ _ _ _ (by omega)]) | (rw [up_cell _ _ _ (by omega)]) | (rw [fil_cell _ _ _ _ _ (by omega)]) | (rw [hM _ (by omega)]) | (rw [hm _ (by omega)])))) | (have t_ := Inv.kd (hI); exact Or.inr t_)) (by first | (refine Or.inl (And.intro ?_ ?_) <;> first | (simp only [List.mem_cons, List.not_mem_nil, or_false, forall_eq_or_imp, forall_eq, false_implies, implies_true, and_true] <;> omega) | (repeat' (first | exact True.intro | rfl | refine And.intro ?_ ?_ | (rw [sv_ne _ _ _ _ (by omega)]) | (rw [up_cell _ _ _ (by omega)]) | (rw [fil_cell _ _ _ _ _ (by omega)]) | (rw [hM _ (by omega)]) | (rw [hm _ (by omega)])))) | (have t_ := Inv.tn (hI); exact Or.inr t_)) (by first | (refine Or.inl (And.intro ?_ ?_) <;> first | (simp only [List.mem_cons, List.not_mem_nil, or_false, forall_eq_or_imp, forall_eq, false_implies, implies_true, and_true] <;> omega) | (repeat' (first | exact True.intro | rfl | refine And.intro ?_ ?_ | (rw [sv_ne _ _ _ _ (by omega)]) | (rw [up_cell _ _ _ (by omega)]) | (rw [fil_cell _ _ _ _ _ (by omega)]) | (rw [hM _ (by omega)]) | (rw [hm _ (by omega)])))) | (have t_ := Inv.ask (hI); exact Or.inr t_)) (by first | (refine Or.inl (And.intro ?_ ?_) <;> first | (simp only [List.mem_cons, List.not_mem_nil, or_false, forall_eq_or_imp, forall_eq, false_implies, implies_true, and_true] <;> omega) | (repeat' (first | exact True.intro | rfl | refine And.intro ?_ ?_ | (rw [sv_ne _ _ _ _ (by omega)]) | (rw [up_cell _ _ _ (by omega)]) | (rw [fil_cell _ _ _ _ _ (by omega)]) | (rw [hM _ (by omega)]) | (rw [hm _ (by omega)])))) | (have t_ := Inv.askW (hI); exact Or.inr t_)) (by first | (refine Or.inl (And.intro ?_ ?_) <;> first | (simp only [List.mem_cons, List.not_mem_nil, or_false, forall_eq_or_imp, forall_eq, false_implies, implies_true, and_true] <;> omega) | (repeat' (first | exact True.intro | rfl | refine And.intro ?_ ?_ | (rw [sv_ne _ _ _ _ (by omega)]) | (rw [up_cell _ _ _ (by omega)]) | (rw [fil_cell _ _ _ _ _ (by omega)]) | (rw [hM _ (by omega)]) | (rw [hm _ (by omega)])))) | (have t_ := Inv.askR (hI); exact Or.inr t_)) (by first | (refine Or.inl (And.intro ?_ ?_) <;> first | (simp only [List.mem_cons, List.not_mem_nil, or_false, forall_eq_or_imp, forall_eq, false_implies, implies_true, and_true] <;> omega) | (repeat' (first | exact True.intro | rfl | refine And.intro ?_ ?_ | (rw [sv_ne _ _ _ _ (by omega)]) | (rw [up_cell _ _ _ (by omega)]) | (rw [fil_cell _ _ _ _ _ (by omega)]) | (rw [hM _ (by omega)]) | (rw [hm _ (by omega)])))) | (have t_ := Inv.lv0 (hI); exact Or.inr t_)) (by first | (refine Or.inl (And.intro ?_ ?_) <;> first | (simp only [List.mem_cons, List.not_mem_nil, or_false, forall_eq_or_imp, forall_eq, false_implies, implies_true, and_true] <;> omega) | (repeat' (first | exact True.intro | rfl | refine And.intro ?_ ?_ | (rw [sv_ne _ _ _ _ (by omega)]) | (rw [up_cell _ _ _ (by omega)]) | (rw [fil_cell _ _ _ _ _ (by omega)]) | (rw [hM _ (by omega)]) | (rw [hm _ (by omega)])))) | (have t_ := Inv.lv2 (hI); exact Or.inr t_)) (by first | (refine Or.inl (And.intro ?_ ?_) <;> first | (simp only [List.mem_cons, List.not_mem_nil, or_false, forall_eq_or_imp, forall_eq, false_implies, implies_true, and_true] <;> omega) | (repeat' (first | exact True.intro | rfl | refine And.intro ?_ ?_ | (rw [sv_ne _ _ _ _ (by omega)]) | (rw [up_cell _ _ _ (by omega)]) | (rw [fil_cell _ _ _ _ _ (by omega)]) | (rw [hM _ (by omega)]) | (rw [hm _ (by omega)])))) | (have t_ := Inv.pl (hI); exact Or.inr t_)) (by first | (refine Or.inl (And.intro ?_ ?_) <;> first | (simp only [List.mem_cons, List.not_mem_nil, or_false, forall_eq_or_imp, forall_eq, false_implies, implies_true, and_true] <;> omega) | (repeat' (first | exact True.intro | rfl | refine And.intro ?_ ?_ | (rw [sv_ne _ _ _ _ (by omega)]) | (rw [up_cell _ _ _ (by omega)]) | (rw [fil_cell _ _ _ _ _ (by omega)]) | (rw [hM _ (by omega)]) | (rw [hm _ (by omega)])))) | (have t_ := Inv.pi (hI); exact Or.inr t_)) (by first | (refine Or.inl (And.intro ?_ ?_) <;> first | (simp only [List.mem_cons, List.not_mem_nil, or_false, forall_eq_or_imp, forall_eq, false_implies, implies_true, and_true] <;> omega) | (repeat' (first | exact True.intro | rfl | refine And.intro ?_ ?_ | (rw [sv_ne _ _ _ _ (by omega)]) | (rw [up_cell _ _ _ (by omega)]) | (rw [fil_cell _ _ _ _ _ (by omega)]) | (rw [hM _ (by omega)]) | (rw [hm _ (by omega)])))) | (have t_ := Inv.dis (hI); exact Or.inr t_)))
  have hR0 : ∀ M, Rel m M → Rel (it_sv m 0 9 0) (it_sv M 66 2 0) := fun M hM => (Rel.upd (hM) (cnt_le hI) ([0]) ([66]) (by intro k hk; simp only [List.mem_cons, List.not_mem_nil, or_false, not_or, not_false_eq_true] at hk; first | rfl | (repeat (first | rw [sv_cell _ _ _ _ (by omega)] | rw [up_cell _ _ _ (by omega)] | rw [fil_cell _ _ _ _ _ (by omega)]))) (by intro k hk; simp only [List.mem_cons, List.not_mem_nil, or_false, not_or, not_false_eq_true] at hk; first | rfl | (repeat (first | rw [sv_cell _ _ _ _ (by omega)] | rw [up_cell _ _ _ (by omega)] | rw [fil_cell _ _ _ _ _ (by omega)]))) (Or.inr (by rw [sv_same, sv_same])) (by first | (refine Or.inl (And.intro ?_ (And.intro ?_ ?_)) <;> first | (simp only [List.mem_cons, List.not_mem_nil, or_false, forall_eq_or_imp, forall_eq, false_implies, implies_true, and_true] <;> omega) | (repeat' (first | exact True.intro | rfl | refine And.intro ?_ ?_ | (rw [sv_ne _ _ _ _ (by omega)]) | (rw [up_cell _ _ _ (by omega)]) | (rw [fil_cell _ _ _ _ _ (by omega)]) | (rw [hM _ (by omega)]) | (rw [hm _ (by omega)])))) | (have t_ := Rel.on (hM); exact Or.inr t_)) (by first | (refine Or.inl (And.intro ?_ (And.intro ?_ ?_)) <;> first | (simp only [List.mem_cons, List.not_mem_nil, or_false, forall_eq_or_imp, forall_eq, false_implies, implies_true, and_true] <;> omega) | (repeat' (first | exact True.intro | rfl | refine And.intro ?_ ?_ | (rw [sv_ne _ _ _ _ (by omega)]) | (rw [up_cell _ _ _ (by omega)]) | (rw [fil_cell _ _ _ _ _ (by omega)]) | (rw [hM _ (by omega)]) | (rw [hm _ (by omega)])))) | (have t_ := Rel.lost (hM); exact Or.inr t_)) (by first | (refine Or.inl (And.intro ?_ (And.intro ?_ ?_)) <;> first | (simp only [List.mem_cons, List.not_mem_nil, or_false, forall_eq_or_imp, forall_eq, false_implies, implies_true, and_true] <;> omega) | (repeat' (first | exact True.intro | rfl | refine And.intro ?_ ?_ | (rw [sv_ne _ _ _ _ (by omega)]) | (rw [up_cell _ _ _ (by omega)]) | (rw [fil_cell _ _ _ _ _ (by omega)]) | (rw [hM _ (by omega)]) | (rw [hm _ (by omega)])))) | (have t_ := Rel.power (hM); exact Or.inr t_)) (by first | (refine Or.inl (And.intro ?_ (And.intro ?_ ?_)) <;> first | (simp only [List.mem_cons, List.not_mem_nil, or_false, forall_eq_or_imp, forall_eq, false_implies, implies_true, and_true] <;> omega) | (repeat' (first | exact True.intro | rfl | refine And.intro ?_ ?_ | (rw [sv_ne _ _ _ _ (by omega)]) | (rw [up_cell _ _ _ (by omega)]) | (rw [fil_cell _ _ _ _ _ (by omega)]) | (rw [hM _ (by omega)]) | (rw [hm _ (by omega)])))) | (have t_ := Rel.time (hM); exact Or.inr t_)) (by first | (refine Or.inl (And.intro ?_ (And.intro ?_ ?_)) <;> first | (simp only [List.mem_cons, List.not_mem_nil, or_false, forall_eq_or_imp, forall_eq, false_implies, implies_true, and_true] <;> omega) | (repeat' (first | exact True.intro | rfl | refine And.intro ?_ ?_ | (rw [sv_ne _ _ _ _ (by omega)]) | (rw [up_cell _ _ _ (by omega)]) | (rw [fil_cell _ _ _ _ _ (by omega)]) | (rw [hM _ (by omega)]) | (rw [hm _ (by omega)])))) | (have t_ := Rel.z (hM); exact Or.inr t_)) (by first | (refine Or.inl (And.intro ?_ (And.intro ?_ ?_)) <;> first | (simp only [List.mem_cons, List.not_mem_nil, or_false, forall_eq_or_imp, forall_eq, false_implies, implies_true, and_true] <;> omega) | (repeat' (first | exact True.intro | rfl | refine And.intro ?_ ?_ | (rw [sv_ne _ _ _ _ (by omega)]) | (rw [up_cell _ _ _ (by omega)]) | (rw [fil_cell _ _ _ _ _ (by omega)]) | (rw [hM _ (by omega)]) | (rw [hm _ (by omega)])))) | (have t_ := Rel.count (hM); exact Or.inr t_)) (by first | (refine Or.inl (And.intro ?_ (And.intro ?_ ?_)) <;> first | (simp only [List.mem_cons, List.not_mem_nil, or_false, forall_eq_or_imp, forall_eq, false_implies, implies_true, and_true] <;> omega) | (repeat' (first | exact True.intro | rfl | refine And.intro ?_ ?_ | (rw [sv_ne _ _ _ _ (by omega)]) | (rw [up_cell _ _ _ (by omega)]) | (rw [fil_cell _ _ _ _ _ (by omega)]) | (rw [hM _ (by omega)]) | (rw [hm _ (by omega)])))) | (have t_ := Rel.turn (hM); exact Or.inr t_)) (by first | (refine Or.inl (And.intro ?_ (And.intro ?_ ?_)) <;> first | (simp only [List.mem_cons, List.not_mem_nil, or_false, forall_eq_or_imp, forall_eq, false_implies, implies_true, and_true] <;> omega) | (repeat' (first | exact True.intro | rfl | refine And.intro ?_ ?_ | (rw [sv_ne _ _ _ _ (by omega)]) | (rw [up_cell _ _ _ (by omega)]) | (rw [fil_cell _ _ _ _ _ (by omega)]) | (rw [hM _ (by omega)]) | (rw [hm _ (by omega)])))) | (have t_ := Rel.bank (hM); exact Or.inr t_)) (by first | (refine Or.inl (And.intro ?_ (And.intro ?_ ?_)) <;> first | (simp only [List.mem_cons, List.not_mem_nil, or_false, forall_eq_or_imp, forall_eq, false_implies, implies_true, and_true] <;> omega) | (repeat' (first | exact True.intro | rfl | refine And.intro ?_ ?_ | (rw [sv_ne _ _ _ _ (by omega)]) | (rw [up_cell _ _ _ (by omega)]) | (rw [fil_cell _ _ _ _ _ (by omega)]) | (rw [hM _ (by omega)]) | (rw [hm _ (by omega)])))) | (have t_ := Rel.tape (hM); exact Or.inr t_)) (by first | (refine Or.inl (And.intro ?_ (And.intro ?_ ?_)) <;> first | (simp only [List.mem_cons, List.not_mem_nil, or_false, forall_eq_or_imp, forall_eq, false_implies, implies_true, and_true] <;> omega) | (repeat' (first | exact True.intro | rfl | refine And.intro ?_ ?_ | (rw [sv_ne _ _ _ _ (by omega)]) | (rw [up_cell _ _ _ (by omega)]) | (rw [fil_cell _ _ _ _ _ (by omega)]) | (rw [hM _ (by omega)]) | (rw [hm _ (by omega)])))) | (have t_ := Rel.counts (hM); exact Or.inr t_)) (by first | (refine Or.inl (And.intro ?_ (And.intro ?_ ?_)) <;> first | (simp only [List.mem_cons, List.not_mem_nil, or_false, forall_eq_or_imp, forall_eq, false_implies, implies_true, and_true] <;> omega) | (repeat' (first | exact True.intro | rfl | refine And.intro ?_ ?_ | (rw [sv_ne _ _ _ _ (by omega)]) | (rw [up_cell _ _ _ (by omega)]) | (rw [fil_cell _ _ _ _ _ (by omega)]) | (rw [hM _ (by omega)]) | (rw [hm _ (by omega)])))) | (have t_ := Rel.events (hM); exact Or.inr t_)) (by first | (refine Or.inl (And.intro ?_ (And.intro ?_ ?_)) <;> first | (simp only [List.mem_cons, List.not_mem_nil, or_false, forall_eq_or_imp, forall_eq, false_implies, implies_true, and_true] <;> omega) | (repeat' (first | exact True.intro | rfl | refine And.intro ?_ ?_ | (rw [sv_ne _ _ _ _ (by omega)]) | (rw [up_cell _ _ _ (by omega)]) | (rw [fil_cell _ _ _ _ _ (by omega)]) | (rw [hM _ (by omega)]) | (rw [hm _ (by omega)])))) | (have t_ := Rel.out (hM); exact Or.inr t_)) (by first | (refine Or.inl (And.intro ?_ (And.intro ?_ ?_)) <;> first | (simp only [List.mem_cons, List.not_mem_nil, or_false, forall_eq_or_imp, forall_eq, false_implies, implies_true, and_true] <;> omega) | (repeat' (first | exact True.intro | rfl | refine And.intro ?_ ?_ | (rw [sv_ne _ _ _ _ (by omega)]) | (rw [up_cell _ _ _ (by omega)]) | (rw [fil_cell _ _ _ _ _ (by omega)]) | (rw [hM _ (by omega)]) | (rw [hm _ (by omega)])))) | (have t_ := Rel.lamps (hM); exact Or.inr t_)) (by first | (refine Or.inl (And.intro ?_ (And.intro ?_ ?_)) <;> first | (simp only [List.mem_cons, List.not_mem_nil, or_false, forall_eq_or_imp, forall_eq, false_implies, implies_true, and_true] <;> omega) | (repeat' (first | exact True.intro | rfl | refine And.intro ?_ ?_ | (rw [sv_ne _ _ _ _ (by omega)]) | (rw [up_cell _ _ _ (by omega)]) | (rw [fil_cell _ _ _ _ _ (by omega)]) | (rw [hM _ (by omega)]) | (rw [hm _ (by omega)])))) | (have t_ := Rel.buttons (hM); exact Or.inr t_)) (by first | (refine Or.inl (And.intro ?_ (And.intro ?_ ?_)) <;> first | (simp only [List.mem_cons, List.not_mem_nil, or_false, forall_eq_or_imp, forall_eq, false_implies, implies_true, and_true] <;> omega) | (repeat' (first | exact True.intro | rfl | refine And.intro ?_ ?_ | (rw [sv_ne _ _ _ _ (by omega)]) | (rw [up_cell _ _ _ (by omega)]) | (rw [fil_cell _ _ _ _ _ (by omega)]) | (rw [hM _ (by omega)]) | (rw [hm _ (by omega)])))) | (have t_ := Rel.lev (hM); exact Or.inr t_)) (by first | (refine Or.inl (And.intro ?_ (And.intro ?_ ?_)) <;> first | (simp only [List.mem_cons, List.not_mem_nil, or_false, forall_eq_or_imp, forall_eq, false_implies, implies_true, and_true] <;> omega) | (repeat' (first | exact True.intro | rfl | refine And.intro ?_ ?_ | (rw [sv_ne _ _ _ _ (by omega)]) | (rw [up_cell _ _ _ (by omega)]) | (rw [fil_cell _ _ _ _ _ (by omega)]) | (rw [hM _ (by omega)]) | (rw [hm _ (by omega)])))) | (have t_ := Rel.mem (hM); exact Or.inr t_)) (by first | (refine Or.inl (And.intro ?_ (And.intro ?_ ?_)) <;> first | (simp only [List.mem_cons, List.not_mem_nil, or_false, forall_eq_or_imp, forall_eq, false_implies, implies_true, and_true] <;> omega) | (repeat' (first | exact True.intro | rfl | refine And.intro ?_ ?_ | (rw [sv_ne _ _ _ _ (by omega)]) | (rw [up_cell _ _ _ (by omega)]) | (rw [fil_cell _ _ _ _ _ (by omega)]) | (rw [hM _ (by omega)]) | (rw [hm _ (by omega)])))) | (have t_ := Rel.sched (hM); exact Or.inr t_)) (by first | (refine Or.inl (And.intro ?_ (And.intro ?_ ?_)) <;> first | (simp only [List.mem_cons, List.not_mem_nil, or_false, forall_eq_or_imp, forall_eq, false_implies, implies_true, and_true] <;> omega) | (repeat' (first | exact True.intro | rfl | refine And.intro ?_ ?_ | (rw [sv_ne _ _ _ _ (by omega)]) | (rw [up_cell _ _ _ (by omega)]) | (rw [fil_cell _ _ _ _ _ (by omega)]) | (rw [hM _ (by omega)]) | (rw [hm _ (by omega)])))) | (have t_ := Rel.done (hM); exact Or.inr t_)) (by first | (refine Or.inl (And.intro ?_ (And.intro ?_ ?_)) <;> first | (simp only [List.mem_cons, List.not_mem_nil, or_false, forall_eq_or_imp, forall_eq, false_implies, implies_true, and_true] <;> omega) | (repeat' (first | exact True.intro | rfl | refine And.intro ?_ ?_ | (rw [sv_ne _ _ _ _ (by omega)]) | (rw [up_cell _ _ _ (by omega)]) | (rw [fil_cell _ _ _ _ _ (by omega)]) | (rw [hM _ (by omega)]) | (rw [hm _ (by omega)])))) | (have t_ := Rel.levels (hM); exact Or.inr t_)) (by first | (refine Or.inl (And.intro ?_ (And.intro ?_ ?_)) <;> first | (simp only [List.mem_cons, List.not_mem_nil, or_false, forall_eq_or_imp, forall_eq, false_implies, implies_true, and_true] <;> omega) | (repeat' (first | exact True.intro | rfl | refine And.intro ?_ ?_ | (rw [sv_ne _ _ _ _ (by omega)]) | (rw [up_cell _ _ _ (by omega)]) | (rw [fil_cell _ _ _ _ _ (by omega)]) | (rw [hM _ (by omega)]) | (rw [hm _ (by omega)])))) | (have t_ := Rel.places (hM); exact Or.inr t_)) (by first | (refine Or.inl (And.intro ?_ (And.intro ?_ ?_)) <;> first | (simp only [List.mem_cons, List.not_mem_nil, or_false, forall_eq_or_imp, forall_eq, false_implies, implies_true, and_true] <;> omega) | (repeat' (first | exact True.intro | rfl | refine And.intro ?_ ?_ | (rw [sv_ne _ _ _ _ (by omega)]) | (rw [up_cell _ _ _ (by omega)]) | (rw [fil_cell _ _ _ _ _ (by omega)]) | (rw [hM _ (by omega)]) | (rw [hm _ (by omega)])))) | (have t_ := Rel.asked (hM); exact Or.inr t_)) (by first | (refine Or.inl (And.intro ?_ (And.intro ?_ ?_)) <;> first | (simp only [List.mem_cons, List.not_mem_nil, or_false, forall_eq_or_imp, forall_eq, false_implies, implies_true, and_true] <;> omega) | (repeat' (first | exact True.intro | rfl | refine And.intro ?_ ?_ | (rw [sv_ne _ _ _ _ (by omega)]) | (rw [up_cell _ _ _ (by omega)]) | (rw [fil_cell _ _ _ _ _ (by omega)]) | (rw [hM _ (by omega)]) | (rw [hm _ (by omega)])))) | (have t_ := Rel.worder (hM); exact Or.inr t_)) (by first | (refine Or.inl (And.intro ?_ (And.intro ?_ ?_)) <;> first | (simp only [List.mem_cons, List.not_mem_nil, or_false, forall_eq_or_imp, forall_eq, false_implies, implies_true, and_true] <;> omega) | (repeat' (first | exact True.intro | rfl | refine And.intro ?_ ?_ | (rw [sv_ne _ _ _ _ (by omega)]) | (rw [up_cell _ _ _ (by omega)]) | (rw [fil_cell _ _ _ _ _ (by omega)]) | (rw [hM _ (by omega)]) | (rw [hm _ (by omega)])))) | (have t_ := Rel.rorder (hM); exact Or.inr t_)) (by first | (refine Or.inl (And.intro ?_ (And.intro ?_ ?_)) <;> first | (simp only [List.mem_cons, List.not_mem_nil, or_false, forall_eq_or_imp, forall_eq, false_implies, implies_true, and_true] <;> omega) | (repeat' (first | exact True.intro | rfl | refine And.intro ?_ ?_ | (rw [sv_ne _ _ _ _ (by omega)]) | (rw [up_cell _ _ _ (by omega)]) | (rw [fil_cell _ _ _ _ _ (by omega)]) | (rw [hM _ (by omega)]) | (rw [hm _ (by omega)])))) | (have t_ := Rel.ps (hM); exact Or.inr t_)) (by first | (refine Or.inl (And.intro ?_ (And.intro ?_ ?_)) <;> first | (simp only [List.mem_cons, List.not_mem_nil, or_false, forall_eq_or_imp, forall_eq, false_implies, implies_true, and_true] <;> omega) | (repeat' (first | exact True.intro | rfl | refine And.intro ?_ ?_ | (rw [sv_ne _ _ _ _ (by omega)]) | (rw [up_cell _ _ _ (by omega)]) | (rw [fil_cell _ _ _ _ _ (by omega)]) | (rw [hM _ (by omega)]) | (rw [hm _ (by omega)])))) | (have t_ := Rel.app (hM); exact Or.inr t_)) (by first | (refine Or.inl (And.intro ?_ (And.intro ?_ ?_)) <;> first | (simp only [List.mem_cons, List.not_mem_nil, or_false, forall_eq_or_imp, forall_eq, false_implies, implies_true, and_true] <;> omega) | (repeat' (first | exact True.intro | rfl | refine And.intro ?_ ?_ | (rw [sv_ne _ _ _ _ (by omega)]) | (rw [up_cell _ _ _ (by omega)]) | (rw [fil_cell _ _ _ _ _ (by omega)]) | (rw [hM _ (by omega)]) | (rw [hm _ (by omega)])))) | (have t_ := Rel.name (hM); exact Or.inr t_)) (by first | (refine Or.inl (And.intro ?_ (And.intro ?_ ?_)) <;> first | (simp only [List.mem_cons, List.not_mem_nil, or_false, forall_eq_or_imp, forall_eq, false_implies, implies_true, and_true] <;> omega) | (repeat' (first | exact True.intro | rfl | refine And.intro ?_ ?_ | (rw [sv_ne _ _ _ _ (by omega)]) | (rw [up_cell _ _ _ (by omega)]) | (rw [fil_cell _ _ _ _ _ (by omega)]) | (rw [hM _ (by omega)]) | (rw [hm _ (by omega)])))) | (have t_ := Rel.number (hM); exact Or.inr t_)) (by first | (refine Or.inl (And.intro ?_ (And.intro ?_ ?_)) <;> first | (simp only [List.mem_cons, List.not_mem_nil, or_false, forall_eq_or_imp, forall_eq, false_implies, implies_true, and_true] <;> omega) | (repeat' (first | exact True.intro | rfl | refine And.intro ?_ ?_ | (rw [sv_ne _ _ _ _ (by omega)]) | (rw [up_cell _ _ _ (by omega)]) | (rw [fil_cell _ _ _ _ _ (by omega)]) | (rw [hM _ (by omega)]) | (rw [hm _ (by omega)])))) | (have t_ := Rel.bits (hM); exact Or.inr t_)) (by first | (refine Or.inl (And.intro ?_ (And.intro ?_ ?_)) <;> first | (simp only [List.mem_cons, List.not_mem_nil, or_false, forall_eq_or_imp, forall_eq, false_implies, implies_true, and_true] <;> omega) | (repeat' (first | exact True.intro | rfl | refine And.intro ?_ ?_ | (rw [sv_ne _ _ _ _ (by omega)]) | (rw [up_cell _ _ _ (by omega)]) | (rw [fil_cell _ _ _ _ _ (by omega)]) | (rw [hM _ (by omega)]) | (rw [hm _ (by omega)])))) | (have t_ := Rel.regs (hM); exact Or.inr t_)) (by first | (refine Or.inl (And.intro ?_ (And.intro ?_ ?_)) <;> first | (simp only [List.mem_cons, List.not_mem_nil, or_false, forall_eq_or_imp, forall_eq, false_implies, implies_true, and_true] <;> omega) | (repeat' (first | exact True.intro | rfl | refine And.intro ?_ ?_ | (rw [sv_ne _ _ _ _ (by omega)]) | (rw [up_cell _ _ _ (by omega)]) | (rw [fil_cell _ _ _ _ _ (by omega)]) | (rw [hM _ (by omega)]) | (rw [hm _ (by omega)])))) | (have t_ := Rel.rsv (hM); exact Or.inr t_)) (by first | (refine Or.inl (And.intro ?_ (And.intro ?_ ?_)) <;> first | (simp only [List.mem_cons, List.not_mem_nil, or_false, forall_eq_or_imp, forall_eq, false_implies, implies_true, and_true] <;> omega) | (repeat' (first | exact True.intro | rfl | refine And.intro ?_ ?_ | (rw [sv_ne _ _ _ _ (by omega)]) | (rw [up_cell _ _ _ (by omega)]) | (rw [fil_cell _ _ _ _ _ (by omega)]) | (rw [hM _ (by omega)]) | (rw [hm _ (by omega)])))) | (have t_ := Rel.queue (hM); exact Or.inr t_)) (by first | (refine Or.inl (And.intro ?_ (And.intro ?_ ?_)) <;> first | (simp only [List.mem_cons, List.not_mem_nil, or_false, forall_eq_or_imp, forall_eq, false_implies, implies_true, and_true] <;> omega) | (repeat' (first | exact True.intro | rfl | refine And.intro ?_ ?_ | (rw [sv_ne _ _ _ _ (by omega)]) | (rw [up_cell _ _ _ (by omega)]) | (rw [fil_cell _ _ _ _ _ (by omega)]) | (rw [hM _ (by omega)]) | (rw [hm _ (by omega)])))) | (have t_ := Rel.ctlw (hM); exact Or.inr t_)))
  have e10 : it_sv m 0 9 0 0 10 = m 0 10 := sv_n2 _ _ _ _ (by omega)
  have r10 : ∀ M : it_Me, it_sv M 66 2 0 66 3 = M 66 3 := fun M => sv_n2 _ _ _ _ (by omega)
  by_cases ho : m 0 10 = 0
  · by_cases hb : 65536 ≤ n.toInt ∧ n.toInt ≤ 131072 ∧ n.toInt + (m 0 9).toInt ≤ 131072
    · have ez : (it_sv m 0 9 0) 0 10 = 0 := by rw [e10, ho]
      have hvn : (m 0 9).toInt = ((m 0 9).toInt.toNat : Int) := by omega
      obtain ⟨m', h1, h2, h3, h4, h5⟩ := burn_lp (kc := kc) (n := (m 0 9).toInt.toNat) (a := n) (v := m 0 9) hvn (by omega) hb.1 (by omega) (m 0 9).toInt.toNat 0 _ (by omega) hI0 ez
      refine ⟨m 0 9, m', fun Φ hp => ?_, h2, (FrC.rfl.sv (by omega)).trans h3, by rw [h4, sv_n1 _ _ _ _ _ (by omega), hl], fun M hM Φ hp => ?_⟩
      · unfold w_189
        refine ⟨fun _ => ⟨fun q => ?_, fun _ => ⟨fun q => ?_, fun _ => ⟨fun q => ⟨_, h1 Φ _ hp⟩, fun q => ?_⟩⟩⟩, fun q => absurd ez q⟩
        all_goals (exfalso; clear h1 h2 h3 h4 h5 hI0 hR0 e10 r10 ez hvn; ((try simp only [Int32.lt_iff_toInt_lt, Int32.le_iff_toInt_le, ← Int32.toInt_inj, Int32.reduceToInt, clampI, vp_in_iff, ne_eq, not_and, not_or, Int32.not_lt, Int32.not_le] at *) <;> (try simp (disch := omega) only [Int32.toInt_add, Int32.toInt_sub, Int32.toInt_mul, Int32.toInt_neg, Int32.reduceToInt, bmI, bmI', and1, and3, and7, and31, and127, and255, and65535, shr2, nI_toInt] at *) <;> (try simp only [bm32, bm32'] at *) <;> omega))
      · have h6 := h5 _ (hR0 M hM) Φ (fun v2 m => w_226_70 kc Φ v2 m) (fun M' hR' hF' => hp M' hR' ((FrM.rfl.sv (by omega)).trans hF'))
        unfold w_226
        rw [r10, hM.on, hM.tapeLen]
        refine ⟨fun _ => ⟨fun q => ?_, fun _ => ⟨fun q => ?_, fun _ => ⟨fun q => ⟨_, h6⟩, fun q => ?_⟩⟩⟩, fun q => absurd ho q⟩
        all_goals (exfalso; clear h1 h2 h3 h4 h5 h6 hI0 hR0 e10 r10 ez hvn hp; ((try simp only [Int32.lt_iff_toInt_lt, Int32.le_iff_toInt_le, ← Int32.toInt_inj, Int32.reduceToInt, clampI, vp_in_iff, ne_eq, not_and, not_or, Int32.not_lt, Int32.not_le] at *) <;> (try simp (disch := omega) only [Int32.toInt_add, Int32.toInt_sub, Int32.toInt_mul, Int32.toInt_neg, Int32.reduceToInt, bmI, bmI', and1, and3, and7, and31, and127, and255, and65535, shr2, nI_toInt] at *) <;> (try simp only [bm32, bm32'] at *) <;> omega))
    · refine ⟨-2, it_sv m 0 9 0, fun Φ hp => ?_, hI0, FrC.rfl.sv (by omega), by rw [sv_n1 _ _ _ _ _ (by omega), hl], fun M hM Φ hp => ?_⟩
      · unfold w_189 w_189_40
        rw [e10]
        refine ⟨fun _ => ⟨fun q => hp, fun _ => ⟨fun q => hp, fun _ => ⟨fun q => ?_, fun q => hp⟩⟩⟩, fun q => absurd ho q⟩
        exfalso; clear hI0 hR0 e10 r10; ((try simp only [Int32.lt_iff_toInt_lt, Int32.le_iff_toInt_le, ← Int32.toInt_inj, Int32.reduceToInt, clampI, vp_in_iff, ne_eq, not_and, not_or, Int32.not_lt, Int32.not_le] at *) <;> (try simp (disch := omega) only [Int32.toInt_add, Int32.toInt_sub, Int32.toInt_mul, Int32.toInt_neg, Int32.reduceToInt, bmI, bmI', and1, and3, and7, and31, and127, and255, and65535, shr2, nI_toInt] at *) <;> (try simp only [bm32, bm32'] at *) <;> omega)
      · have hp2 := hp _ (hR0 M hM) (FrM.rfl.sv (by omega))
        unfold w_226 w_226_40
        rw [r10, hM.on, hM.tapeLen]
        refine ⟨fun _ => ⟨fun q => hp2, fun _ => ⟨fun q => hp2, fun _ => ⟨fun q => ?_, fun q => hp2⟩⟩⟩, fun q => absurd ho q⟩
        exfalso; clear hI0 hR0 e10 r10 hp hp2; ((try simp only [Int32.lt_iff_toInt_lt, Int32.le_iff_toInt_le, ← Int32.toInt_inj, Int32.reduceToInt, clampI, vp_in_iff, ne_eq, not_and, not_or, Int32.not_lt, Int32.not_le] at *) <;> (try simp (disch := omega) only [Int32.toInt_add, Int32.toInt_sub, Int32.toInt_mul, Int32.toInt_neg, Int32.reduceToInt, bmI, bmI', and1, and3, and7, and31, and127, and255, and65535, shr2, nI_toInt] at *) <;> (try simp only [bm32, bm32'] at *) <;> omega)
  · refine ⟨-3, it_sv m 0 9 0, fun Φ hp => ?_, hI0, FrC.rfl.sv (by omega), by rw [sv_n1 _ _ _ _ _ (by omega), hl], fun M hM Φ hp => ?_⟩
    · unfold w_189
      rw [e10]
      exact ⟨fun q => absurd q ho, fun _ => hp⟩
    · have hp2 := hp _ (hR0 M hM) (FrM.rfl.sv (by omega))
      unfold w_226
      rw [r10, hM.on]
      exact ⟨fun q => absurd q ho, fun _ => hp2⟩
