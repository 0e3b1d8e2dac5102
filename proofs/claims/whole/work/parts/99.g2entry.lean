/-! entry. -/
/-- a region of the reference: its entries are those of the list -/
theorem r_reg {kc : it_Kc} {Φ : Int32 → it_Me → Prop} {K : Int32 → Int32 → Int32 → Int32 → Int32 → it_Me → Prop} {K262 : it_Me → Prop} {M : it_Me} {v1 v3 v5 v6 v7 v8 : Int32} {x n : Nat} (hx : x < 16) (hn : n ≤ x) (h6 : 0 ≤ v6.toInt ∧ v6.toInt ≤ 196608) (h7 : 0 ≤ v7.toInt ∧ v7.toInt < 65536 ∧ v7.toInt % 4 = 0) (h : x < n + (ptL v6 v7 v8).length → Φ (if v3 = 0 then ((ptL v6 v7 v8).getD (x - n) (0, 0)).1 else ((ptL v6 v7 v8).getD (x - n) (0, 0)).2) M) (h' : n + (ptL v6 v7 v8).length ≤ x → K v1 (nI x) v3 (nI (n + (ptL v6 v7 v8).length)) (v5 + 1) M) : w_263_114 kc Φ K (fun v3 v6 v7 v8 m => w_263_143 kc Φ v3 v6 v7 v8 m) (fun v3 v6 m => w_263_212 kc Φ v3 v6 m) (fun v3 v6 v7 v8 m => w_263_233 kc Φ v3 v6 v7 v8 m) K262 v1 (nI x) v3 (nI n) v5 v6 v7 v8 M := by
  have eqn : ∀ {a b : Nat}, a < 100 → b < 100 → (nI a = nI b ↔ a = b) := fun ha hb => nEq (by omega) (by omega)
  have s2 : it_us v6 2 = it_shr v6 2 := us_sh h6.1 (k := 2) (by omega)
  have s3 : it_us v7 3 = it_shr v7 3 := us_sh h7.1 (k := 3) (by omega)
  have s4 : it_us (v6 + v7) 2 = it_shr (v6 + v7) 2 := us_sh (by rw [add_I (by omega) (by omega)]; omega) (k := 2) (by omega)
  unfold w_263_114
  by_cases z : v7 = 0
  · have e : ptL v6 v7 v8 = [] := by unfold ptL; rw [if_pos z]
    rw [e] at h'
    refine ⟨fun _ => ?_, fun q => absurd (by rw [z]; decide) q⟩
    unfold w_263_201 w_263_256
    exact ⟨fun _ => h' hn, fun q => absurd (by rw [z]; decide) q⟩
  have z' : v7.toInt ≠ 0 := fun q => z (Int32.toInt_inj.mp q)
  have np : ¬ v7 ≤ 0 := fun q => by rw [Int32.le_iff_toInt_le] at q; simp only [Int32.reduceToInt] at q; omega
  refine ⟨fun q => absurd q np, fun _ => ?_⟩
  unfold w_262 w_262_13
  -- two entries
  have two : ¬ (v7 &&& (v7 - 1) = 0 ∧ v6 &&& (v7 - 1) = 0) → w_263_201 kc Φ K (fun v3 v6 v7 v8 m => w_263_143 kc Φ v3 v6 v7 v8 m) (fun v3 v6 m => w_263_212 kc Φ v3 v6 m) (fun v3 v6 v7 v8 m => w_263_233 kc Φ v3 v6 v7 v8 m) K262 v1 (nI x) v3 (nI n) v5 v6 v7 v8 M := fun t => by
    have e : ptL v6 v7 v8 = [(it_shr v6 2, 0), (it_shr (v6 + v7) 2, v8 ||| 8)] := by unfold ptL; rw [if_neg z, if_neg t]
    rw [e] at h h'
    unfold w_263_201 w_263_256
    refine ⟨fun q => absurd q np, fun _ => ⟨fun q => ?_, fun q => ⟨fun q2 => ?_, fun q2 => ?_⟩⟩⟩
    · have q := (eqn (by omega) (by omega)).1 q
      have h := h (by show x < n + 2; omega)
      rw [show x - n = 0 by omega] at h
      unfold w_263_212 w_263_224
      refine ⟨fun y => ?_, fun y => ?_⟩
      · rw [if_pos y] at h
        rw [s2]
        exact h
      · rw [if_neg y] at h
        exact h
    · rw [nI_s1] at q2
      have q2 := (eqn (by omega) (by omega)).1 q2
      have h := h (by show x < n + 2; omega)
      rw [show x - n = 1 by omega] at h
      unfold w_263_233 w_263_252
      refine ⟨fun y => ?_, fun y => ?_⟩
      · rw [if_pos y] at h
        rw [s4]
        exact h
      · rw [if_neg y] at h
        exact h
    · rw [nI_s1] at q2
      have q : ¬ x = n := fun y => q (by rw [y])
      have q2 : ¬ x = n + 1 := fun y => q2 (by rw [y])
      have h' := h' (by show n + 2 ≤ x; omega)
      rw [show nI n + 2 = nI (n + 2) from nI_add n 2]
      exact h'
  refine ⟨fun p => ⟨Or.inr rfl, ⟨fun q => absurd q (by decide), fun _ => ⟨fun q => z q, fun q => ?_, fun q => ?_⟩⟩⟩, fun p => ⟨Or.inl rfl, ⟨fun _ => two (fun y => p y.1), fun q => absurd rfl q⟩⟩⟩
  · have t := (rmP h6.1 ⟨by omega, h7.2.1, h7.2.2⟩ p).1 q
    refine ⟨fun e => ?_, fun e => ?_⟩
    · have e := (eqn (by omega) (by omega)).1 e
      unfold w_263_143 w_263_167 w_263_194 w_263_193 w_263_194
      by_cases f : v7 = 4
      · have el : ptL v6 v7 v8 = [(it_shr v6 2, v8 ||| 16)] := by unfold ptL; rw [if_neg z, if_pos ⟨p, t⟩, if_pos f]
        rw [el] at h
        have h := h (by show x < n + 1; omega)
        rw [show x - n = 0 by omega] at h
        refine ⟨fun _ => ⟨fun y => ?_, fun y => ⟨fun _ => ?_, fun y => absurd f y⟩⟩, fun y => absurd f y⟩
        · rw [if_pos y] at h
          rw [s2]; exact h
        · rw [if_neg y] at h
          exact h
      · have el : ptL v6 v7 v8 = [(it_shr v6 2 ||| (it_shr v7 3 - 1), v8 ||| 24)] := by unfold ptL; rw [if_neg z, if_pos ⟨p, t⟩, if_neg f]
        rw [el] at h
        have h := h (by show x < n + 1; omega)
        rw [show x - n = 0 by omega] at h
        refine ⟨fun y => absurd y f, fun _ => ⟨fun y => ?_, fun y => ⟨fun y => absurd y f, fun _ => ?_⟩⟩⟩
        · rw [if_pos y] at h
          rw [s2, s3]; exact h
        · rw [if_neg y] at h
          exact h
    · have e : ¬ x = n := fun y => e (by rw [y])
      have el : (ptL v6 v7 v8).length = 1 := by
        unfold ptL
        rw [if_neg z, if_pos ⟨p, t⟩]
        split <;> rfl
      rw [el] at h'
      unfold w_263_256
      rw [nI_s1]
      exact h' (by omega)
  · exact two (fun y => q ((rmP h6.1 ⟨by omega, h7.2.1, h7.2.2⟩ p).2 y.2))
theorem gd_app {α : Type} (d : α) : ∀ (L L' : List α) (j : Nat), (L ++ L').getD j d = if j < L.length then L.getD j d else L'.getD (j - L.length) d
  | [], L', j => by rw [List.nil_append, if_neg (by show ¬ j < 0; omega)]; rfl
  | _ :: L, L', 0 => by rw [if_pos (by rw [List.length_cons]; omega)]; rfl
  | _ :: L, L', j + 1 => by
    have := gd_app d L L' j
    rw [List.length_cons, Nat.add_sub_add_right]
    show (L ++ L').getD j d = _
    rw [this]
    by_cases q : j < L.length
    · rw [if_pos q, if_pos (by omega)]; rfl
    · rw [if_neg q, if_neg (by omega)]
/-- the two regions of a process -/
theorem regF {B : Nat} {m : it_Me} (hI : Inv B m) {i : Nat} (hi : i < cnt m) : (0 ≤ (m (14 + 5 * i + 1) 1).toInt ∧ (m (14 + 5 * i + 1) 1).toInt ≤ 196608 ∧ (m (14 + 5 * i + 1) 1).toInt % 4 = 0) ∧ (0 < (m (14 + 5 * i + 1) 3).toInt ∧ (m (14 + 5 * i + 1) 3).toInt < 65536 ∧ (m (14 + 5 * i + 1) 3).toInt % 4 = 0) ∧ (131072 ≤ (m (14 + 5 * i) 5).toInt ∧ (m (14 + 5 * i) 5).toInt ≤ 196608 ∧ (m (14 + 5 * i) 5).toInt % 4 = 0) ∧ (m (14 + 5 * i) 7 - m (14 + 5 * i) 5).toInt = (m (14 + 5 * i) 7).toInt - (m (14 + 5 * i) 5).toInt ∧ 0 ≤ (m (14 + 5 * i) 7 - m (14 + 5 * i) 5).toInt ∧ (m (14 + 5 * i) 7 - m (14 + 5 * i) 5).toInt < 65536 ∧ (m (14 + 5 * i) 7 - m (14 + 5 * i) 5).toInt % 4 = 0 := by
  have P := hI.p hi
  have a := P.app
  have b := blk_I (P 0)
  have o := P.ord
  have c := P.ctlI
  have e : (m (14 + 5 * i) 7 - m (14 + 5 * i) 5).toInt = (m (14 + 5 * i) 7).toInt - (m (14 + 5 * i) 5).toInt := sub_I (by omega) (by omega)
  rw [e]
  omega
theorem a_entry {kc : it_Kc} {B : Nat} {m : it_Me} (hI : Inv B m) (hl : m 7 4 = 0) (n v w : Int32) : Lk (w_203 kc n v w) (w_263 kc n v w) B m := by
  by_cases ho : m 0 10 = 0
  · refine Lk.ro hI hl (-3) (fun Φ hp => ?_) (fun M hM Φ hp => ?_)
    · unfold w_203
      exact ⟨fun _ => hp, fun h => absurd ho h⟩
    · unfold w_263
      rw [hM.on]
      exact ⟨fun _ => hp, fun h => absurd ho h⟩
  have h8 := cnt_le hI
  rcases pr_cases hI n with hn | ⟨i, hi, hx⟩
  · refine Lk.ro hI hl (-1) (fun Φ hp => ?_) (fun M hM Φ hp => ?_)
    · unfold w_203
      exact ⟨fun h => absurd h ho, fun _ => c_72n hn ⟨fun _ => hp, fun q hq => nomatch hq⟩⟩
    · unfold w_263
      rw [hM.on]
      exact ⟨fun h => absurd h ho, fun _ => r_341n hM hn ⟨fun _ => hp, fun q => absurd rfl q⟩⟩
  have i8 : i < 8 := by omega
  have en : n = nI i := Int32.toInt_inj.mp (by rw [hx, nI_toInt (by omega)])
  have c0 : ∀ {Φ : Int32 → it_Me → Prop}, (v < 0 → w_203_35 kc Φ m) ∧ (¬ v < 0 → (v ≤ (15 : Int32) → (w < 0 → w_203_46 kc Φ m) ∧ (¬ w < 0 → (w ≤ (1 : Int32) → w_94 kc (14 + 5 * i) m (fun m4 => (w = 0 → vp_in v 16 ∧ (w_203_83 kc Φ (m4 11 (Int32.toNatClampNeg v)) m4)) ∧ (¬ w = 0 → vp_in v 16 ∧ (w_203_83 kc Φ (m4 12 (Int32.toNatClampNeg v)) m4)))) ∧ (¬ w ≤ (1 : Int32) → w_203_46 kc Φ m))) ∧ (¬ v ≤ (15 : Int32) → w_203_35 kc Φ m)) → w_203 kc n v w m Φ := fun {Φ} h => by
    unfold w_203
    refine ⟨fun q => absurd q ho, fun _ => c_72s hI hi hx ⟨fun q => (nomatch q), fun q hq => ?_⟩⟩
    have e : 14 + 5 * i = q := by injection hq
    rw [← e]
    exact h
  have r0 : ∀ {M : it_Me} {Φ : Int32 → it_Me → Prop}, Rel m M → (v < 0 → w_263_28 kc Φ M) ∧ (¬ v < 0 → (v ≤ (15 : Int32) → (w < 0 → w_263_39 kc Φ M) ∧ (¬ w < 0 → (w ≤ (1 : Int32) → ∃ e, w_263_48 kc Φ (fun v3 v6 v7 v8 m => w_263_143 kc Φ v3 v6 v7 v8 m) (fun v3 v6 m => w_263_212 kc Φ v3 v6 m) (fun v3 v6 v7 v8 m => w_263_233 kc Φ v3 v6 v7 v8 m) (fun m => w_263_262 kc Φ m) e n v w (0 : Int32) (0 : Int32) M) ∧ (¬ w ≤ (1 : Int32) → w_263_39 kc Φ M))) ∧ (¬ v ≤ (15 : Int32) → w_263_28 kc Φ M)) → w_263 kc n v w M Φ := fun {M Φ} hM h => by
    unfold w_263
    rw [hM.on]
    exact ⟨fun q => absurd q ho, fun _ => r_341s hI hM hi hx ⟨fun q => absurd q (by decide), fun _ => h⟩⟩
  by_cases bv : v < 0 ∨ ¬ v ≤ 15
  · refine Lk.ro hI hl (-1) (fun Φ hp => c0 ⟨fun _ => hp, fun a => ⟨fun b => absurd bv (fun y => y.elim a (fun z => z b)), fun _ => hp⟩⟩) (fun M hM Φ hp => r0 hM ⟨fun _ => hp, fun a => ⟨fun b => absurd bv (fun y => y.elim a (fun z => z b)), fun _ => hp⟩⟩)
  have v1 : ¬ v < 0 := fun y => bv (Or.inl y)
  have v2 : v ≤ 15 := by
    rcases Decidable.em (v ≤ 15) with y | y
    · exact y
    · exact absurd (Or.inr y) bv
  by_cases bw : w < 0 ∨ ¬ w ≤ 1
  · refine Lk.ro hI hl (-2) (fun Φ hp => c0 ⟨fun a => absurd a v1, fun _ => ⟨fun _ => ⟨fun _ => hp, fun a => ⟨fun b => absurd bw (fun y => y.elim a (fun z => z b)), fun _ => hp⟩⟩, fun a => absurd v2 a⟩⟩) (fun M hM Φ hp => r0 hM ⟨fun a => absurd a v1, fun _ => ⟨fun _ => ⟨fun _ => hp, fun a => ⟨fun b => absurd bw (fun y => y.elim a (fun z => z b)), fun _ => hp⟩⟩, fun a => absurd v2 a⟩⟩)
  have w1 : ¬ w < 0 := fun y => bw (Or.inl y)
  have w2 : w ≤ 1 := by
    rcases Decidable.em (w ≤ 1) with y | y
    · exact y
    · exact absurd (Or.inr y) bw
  obtain ⟨x, ev, hxv⟩ : ∃ x : Nat, v = nI x ∧ x < 16 := by
    rw [Int32.lt_iff_toInt_lt] at v1
    rw [Int32.le_iff_toInt_le] at v2
    simp only [Int32.reduceToInt] at v1 v2
    exact ⟨v.toInt.toNat, Int32.toInt_inj.mp (by rw [nI_toInt (by omega)]; omega), by omega⟩
  subst ev
  have vv : vp_in (nI x) 16 := by rw [vp_in_iff, nI_toInt (by omega)]; omega
  have S := pe_S m (enL m i)
  refine ⟨if w = 0 then ((enL m i).getD x (0, 0)).1 else ((enL m i).getD x (0, 0)).2, peC m (enL m i), fun Φ hp => c0 ⟨fun a => absurd a v1, fun _ => ⟨fun _ => ⟨fun a => absurd a w1, fun _ => ⟨fun _ => c_94 i8 ⟨fun y => ⟨vv, ?_⟩, fun y => ⟨vv, ?_⟩⟩, fun a => absurd w2 a⟩⟩, fun a => absurd v2 a⟩⟩, S.I hI, S.F, by rw [S.l]; exact hl, fun M hM Φ hp => r0 hM ⟨fun a => absurd a v1, fun _ => ⟨fun _ => ⟨fun a => absurd a w1, fun _ => ⟨fun _ => ⟨3, ?_⟩, fun a => absurd w2 a⟩⟩, fun a => absurd v2 a⟩⟩⟩
  · unfold w_203_83
    rw [if_pos y] at hp
    rw [nI_clamp (by omega), pe_11, if_pos hxv]
    exact hp
  · unfold w_203_83
    rw [if_neg y] at hp
    rw [nI_clamp (by omega), pe_12, if_pos hxv]
    exact hp
  · have hp := hp M (S.R h8 hM) FrM.rfl
    have rg := regF hI hi
    have ap := hM.app i hi
    have e80 : M 80 i - M 79 i = m (14 + 5 * i + 1) 3 := by
      rw [ap.1, hM.addr hi]
      apply Int32.toInt_inj.mp
      have P := (hI.p hi).app
      rw [sub_I, add_I] <;> (try rw [add_I]) <;> omega
    have e91 : M 91 i - M 89 i = m (14 + 5 * i) 7 - m (14 + 5 * i) 5 := by rw [hM.brk hi, hM.base hi]
    have lp1 := ptL_len (m (14 + 5 * i + 1) 1) (m (14 + 5 * i + 1) 3) 5
    have lp2 := ptL_len (m (14 + 5 * i) 5) (m (14 + 5 * i) 7 - m (14 + 5 * i) 5) 3
    unfold enL at hp
    rw [gd_app] at hp
    rw [en, w_263_48]
    rw [cI i8]
    refine ⟨fun q => absurd q (by decide), fun _ => ⟨fun _ => ⟨vI i8, ?_⟩, fun q => absurd rfl q⟩⟩
    unfold w_263_74 w_263_102
    refine ⟨fun _ => ⟨vI i8, ⟨fun _ => ?_, fun q => absurd rfl q⟩⟩, fun q => absurd rfl q⟩
    rw [cI i8, e80, hM.addr hi, show (0 : Int32) = nI 0 from by decide]
    refine r_reg hxv (Nat.zero_le _) ⟨rg.1.1, rg.1.2.1⟩ ⟨by omega, rg.2.1.2.1, rg.2.1.2.2⟩ (fun q => ?_) (fun q => ?_)
    · rw [Nat.zero_add] at q
      rw [if_pos q] at hp
      rw [Nat.sub_zero]
      exact hp
    · rw [Nat.zero_add] at q ⊢
      rw [if_neg (show ¬ x < (ptL (m (14 + 5 * i + 1) 1) (m (14 + 5 * i + 1) 3) 5).length by omega)] at hp
      rw [show nI 0 + 1 = (1 : Int32) from by decide, w_263_48, cI i8]
      refine ⟨fun q => absurd q (by decide), fun _ => ⟨fun q => absurd q (by decide), fun _ => ⟨vI i8, ?_⟩⟩⟩
      unfold w_263_74 w_263_102
      refine ⟨fun q => absurd q (by decide), fun _ => ⟨vI i8, ⟨fun q => absurd q (by decide), fun _ => ?_⟩⟩⟩
      rw [cI i8, e91, hM.base hi]
      refine r_reg hxv q ⟨by omega, rg.2.2.1.2.1⟩ ⟨rg.2.2.2.2.1, rg.2.2.2.2.2.1, rg.2.2.2.2.2.2⟩ (fun q2 => hp) (fun q2 => ?_)
      rw [show (1 : Int32) + 1 = 2 from by decide, w_263_48]
      refine ⟨fun _ => ?_, fun q => absurd (by decide) q⟩
      unfold w_263_262
      rw [show ∀ (L : List (Int32 × Int32)) (j : Nat), L.length ≤ j → L.getD j (0, 0) = (0, 0) from fun L j hj => by rw [List.getD_eq_getElem?_getD, List.getElem?_eq_none hj]; rfl] at hp
      · rw [show (if w = 0 then ((0, 0) : Int32 × Int32).1 else ((0, 0) : Int32 × Int32).2) = 0 from by split <;> rfl] at hp
        exact hp
      · omega
