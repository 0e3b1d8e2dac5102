/-! The calls grant and process. -/
theorem xI {x : Int32} {i : Nat} (hx : x.toInt = i) (hi : i < 2147483648) : x = nI i := Int32.toInt_inj.mp (by rw [nI_toInt (by omega)]; exact hx)
theorem a_grant {kc : it_Kc} {B : Nat} {m : it_Me} (hI : Inv B m) (hl : m 7 4 = 0) (n d : Int32) : Lk (w_205 kc n d) (w_355 kc n d) B m := by
  by_cases ho : m 0 10 = 0
  · refine Lk.ro hI hl (-3) (fun Φ hp => ?_) (fun M hM Φ hp => ?_)
    · unfold w_205
      exact ⟨fun _ => hp, fun h => absurd ho h⟩
    · unfold w_355
      rw [hM.on]
      exact ⟨fun _ => hp, fun h => absurd ho h⟩
  have h8 := cnt_le hI
  rcases pr_cases hI n with hn | ⟨i, hi, hx⟩
  · refine Lk.ro hI hl (-1) (fun Φ hp => ?_) (fun M hM Φ hp => ?_)
    · unfold w_205 w_205_42
      exact ⟨fun h => absurd h ho, fun _ => c_72n hn ⟨fun _ => hp, fun q hq => nomatch hq⟩⟩
    · unfold w_355 w_355_28
      rw [hM.on]
      exact ⟨fun h => absurd h ho, fun _ => r_341n hM hn ⟨fun _ => hp, fun h => absurd rfl h⟩⟩
  have en := xI hx (by omega)
  by_cases hd : 0 ≤ d.toInt ∧ d.toInt < 9
  · have ed : d = nI d.toInt.toNat := xI (i := d.toInt.toNat) (by omega) (by omega)
    have e9 : d.toInt.toNat < 9 := by omega
    generalize d.toInt.toNat = e at ed e9
    subst ed
    refine Lk.ro hI hl (if m (14 + 5 * i + 4) e = 0 then -1 else m (14 + 5 * i + 4) e) (fun Φ hp => ?_) (fun M hM Φ hp => ?_)
    · unfold w_205 w_205_42
      refine ⟨fun h => absurd h ho, fun _ => c_72s hI hi hx ⟨fun q => (nomatch q), fun q hq => ?_⟩⟩
      obtain rfl : 14 + 5 * i = q := Option.some.inj hq
      rw [nI_clamp (n := e) (by omega)]
      have v9 : vp_in (nI e) 9 := by rw [vp_in_iff, nI_toInt (by omega)]; omega
      refine ⟨fun q => absurd ((nLt (b := 0) (by omega) (by omega)).1 q) (by omega), fun _ => ⟨fun q => absurd ((nLe (a := 9) (by omega) (by omega)).1 q) (by omega), fun _ => ⟨v9, fun q => ?_, fun q => ⟨v9, ?_⟩⟩⟩⟩
      · rw [if_pos q] at hp; exact hp
      · rw [if_neg q] at hp; exact hp
    · unfold w_355 w_355_28
      rw [hM.on]
      refine ⟨fun h => absurd h ho, fun _ => r_341s hI hM hi hx ⟨fun h => absurd h (by decide), fun _ => ?_⟩⟩
      rw [en]
      exact r_272 hI hM hi e9 hp
  · refine Lk.ro hI hl (-1) (fun Φ hp => ?_) (fun M hM Φ hp => ?_)
    · unfold w_205 w_205_42
      refine ⟨fun h => absurd h ho, fun _ => c_72s hI hi hx ⟨fun q => (nomatch q), fun q hq => ?_⟩⟩
      refine ⟨fun _ => hp, fun q1 => ⟨fun _ => hp, fun q2 => ?_⟩⟩
      rw [Int32.lt_iff_toInt_lt] at q1
      rw [Int32.le_iff_toInt_le] at q2
      simp only [Int32.reduceToInt] at q1 q2
      exact absurd ⟨by omega, by omega⟩ hd
    · unfold w_355 w_355_28
      rw [hM.on]
      refine ⟨fun h => absurd h ho, fun _ => r_341s hI hM hi hx ⟨fun h => absurd h (by decide), fun _ => ?_⟩⟩
      rw [en]
      exact r_272n hI hM hi (by omega) hp
theorem r_348c {kc : it_Kc} {B : Nat} {m M : it_Me} (hI : Inv B m) (hR : Rel m M) {i : Nat} (hi : i < cnt m) {Φ : Int32 → it_Me → Prop} {K : Int32 → it_Me → Prop} : ∀ (ds : List Nat) (a : Int32) (c : Nat), Ch m i a ds → (m (14 + 5 * i) 5).toInt ≤ a.toInt → a.toInt % 4 = 0 → K (nI (c + ds.length)) M → w_348_9 kc Φ K (ds.length + 1) (nI i) (nI c) a M := by
  have hc := cnt_le hI
  have l := (hI.p hi).low0
  have s := (hI.p hi).szI
  have ec : (M 89 (Int32.toNatClampNeg (nI i)) + M 90 (Int32.toNatClampNeg (nI i))) - 64 = ctl m i := by rw [cI (by omega), hR.base hi, hR.size hi]; rfl
  intro ds
  induction ds with
  | nil =>
    intro a c h _ _ h2
    unfold w_348_9 w_252
    rw [ec]
    exact ⟨vI (by omega), vI (by omega), fun _ => h2, fun q => absurd h q⟩
  | cons d ds ih =>
    intro a c h h0 h4 h2
    obtain ⟨q1, q2, q3, q5, _, q6, q7⟩ := h
    have k := kN q1
    have e := adI (a := a) (k := gsz d) (by omega) (by omega) (by omega)
    have na := nexA hI (a := a) (Or.inr ⟨i, hi, by omega, by omega⟩)
    show w_348_9 kc Φ K ((ds.length + 1) + 1) (nI i) (nI c) a M
    unfold w_348_9 w_252
    rw [ec]
    refine ⟨vI (by omega), vI (by omega), fun q => ?_, fun _ => r_220 hR na.1 h4 na.2 ?_⟩
    · exfalso; rw [q] at q6; omega
    rw [q5, nI_s1]
    refine r_268 q1 (ih _ (c + 1) q7 (by omega) (by omega) ?_)
    rw [show c + 1 + ds.length = c + (d :: ds).length by rw [List.length_cons]; omega]
    exact h2
theorem r_348 {kc : it_Kc} {B : Nat} {m M : it_Me} (hI : Inv B m) (hR : Rel m M) {i : Nat} (hi : i < cnt m) {Φ : Int32 → it_Me → Prop} (h : Φ (m (14 + 5 * i) 18) M) : w_348 kc (nI i) M Φ := by
  have hc := cnt_le hI
  have l := (hI.p hi).low0
  have o := (hI.p hi).ord
  obtain ⟨ds, h1, h2, h3, h4⟩ := (hI.p hi).gr
  unfold w_348
  rw [cI (by omega), hR.low hi]
  refine ⟨vI (by omega), ds.length + 1, r_348c hI hR hi (K := fun v2 m => w_348_35 kc Φ v2 m) ds _ 0 h1 (by omega) (by omega) ?_⟩
  show Φ (nI (0 + ds.length)) M
  rw [Nat.zero_add, ← h4]
  exact h
theorem a_process {kc : it_Kc} {B : Nat} {m : it_Me} (hI : Inv B m) (hl : m 7 4 = 0) (n v : Int32) : Lk (w_200 kc n v) (w_350 kc n v) B m := by
  by_cases ho : m 0 10 = 0
  · refine Lk.ro hI hl (-3) (fun Φ hp => ?_) (fun M hM Φ hp => ?_)
    · unfold w_200
      exact ⟨fun _ => hp, fun h => absurd ho h⟩
    · unfold w_350
      rw [hM.on]
      exact ⟨fun _ => hp, fun h => absurd ho h⟩
  have h8 := cnt_le hI
  rcases pr_cases hI n with hn | ⟨i, hi, hx⟩
  · refine Lk.ro hI hl (-1) (fun Φ hp => ?_) (fun M hM Φ hp => ?_)
    · unfold w_200
      exact ⟨fun h => absurd h ho, fun _ => c_72n hn ⟨fun _ => hp, fun q hq => nomatch hq⟩⟩
    · unfold w_350
      rw [hM.on]
      exact ⟨fun h => absurd h ho, fun _ => r_341n hM hn ⟨fun _ => hp, fun h => absurd rfl h⟩⟩
  have en := xI hx (by omega)
  subst en
  have i8 : i < 8 := by omega
  have on := on1 hI ho
  have num := hI.num i i8
  -- the answer, by the number asked for
  generalize hans : (if v = 12 then m 55 i else if v = 14 then (if m 54 4 = nI i then 1 else 0) else if v < 0 then -2 else if v ≤ 14 then (if v = 0 then (if m (14 + 5 * i) 10 = 0 then m (14 + 5 * i) 9 else m (14 + 5 * i) 9 + 8) else if v = 1 then m (14 + 5 * i) 3 else if v = 2 then m (14 + 5 * i + 1) 1 else if v = 3 then m (14 + 5 * i + 1) 3 else if v = 4 then m (14 + 5 * i) 5 else if v = 5 then m (14 + 5 * i) 6 else if v = 6 then m (14 + 5 * i) 7 else if v = 7 then m (14 + 5 * i) 8 else if v = 8 then m (14 + 5 * i) 12 else if v = 9 then m (14 + 5 * i) 14 else if v = 10 then m (14 + 5 * i) 18 else if v = 11 then m (14 + 5 * i) 11 else m (14 + 5 * i + 1) 7) else (-2 : Int32)) = ans
  refine Lk.ro hI hl ans (fun Φ hp => ?_) (fun M hM Φ hp => ?_)
  · unfold w_200 w_200_84 w_200_95 w_200_105
    refine ⟨fun h => absurd h ho, fun _ => c_72s hI hi hx ⟨fun q => (nomatch q), fun q hq => ?_⟩⟩
    obtain rfl : 14 + 5 * i = q := Option.some.inj hq
    rw [num, cI i8]
    rw [← hans] at hp
    refine ⟨fun q => ⟨vI i8, ?_⟩, fun q => ?_⟩
    · rw [if_pos q] at hp; exact hp
    rw [if_neg q] at hp
    refine ⟨fun q => ?_, fun q => ?_⟩
    · rw [if_pos q] at hp
      refine ⟨fun q => ?_, fun q => ?_⟩
      · rw [if_pos q] at hp; exact hp
      · rw [if_neg q] at hp; exact hp
    rw [if_neg q] at hp
    refine ⟨fun q => ?_, fun q => ?_⟩
    · rw [if_pos q] at hp; exact hp
    rw [if_neg q] at hp
    refine ⟨fun q => ?_, fun q => ?_⟩
    · rw [if_pos q] at hp
      unfold w_135 w_134 w_134_21
      refine ⟨fun q => ?_, fun q => ?_⟩
      · rw [if_pos q] at hp
        refine ⟨fun q => ?_, fun q => ?_⟩
        · rw [if_pos q] at hp; exact hp
        · rw [if_neg q] at hp; exact hp
      rw [if_neg q] at hp
      repeat' (first | exact hp | (refine ⟨fun q => ?_, fun q => ?_⟩ <;> first | rw [if_pos q] at hp | rw [if_neg q] at hp))
    · rw [if_neg q] at hp; exact hp
  · have lev := hM.levels on
    have sch := (hM.sched on).1
    have ap := hM.app i hi
    unfold w_350 w_350_203 w_350_224
    rw [hM.on]
    refine ⟨fun h => absurd h ho, fun _ => r_341s hI hM hi hx ⟨fun h => absurd h (by decide), fun _ => ?_⟩⟩
    rw [cI i8, hM.pc hi, hM.addr hi, hM.base hi, hM.size hi, hM.brk hi, hM.low hi, hM.rest hi, hM.queued hi, hM.code hi, hM.ver hi, hM.turn, sch, ap.1]
    have v8 := vI i8
    have lt0 : ∀ k : Nat, k < 15 → ¬ nI k < 0 := fun k hk q => absurd ((nLt (b := 0) (by omega) (by omega)).1 q) (by omega)
    have le14 : ∀ k : Nat, k < 15 → nI k ≤ 14 := fun k hk => (nLe (b := 14) (by omega) (by omega)).2 (by omega)
    have ev : ∀ k : Nat, k < 12 → ¬ k = 12 → v = nI k → Φ ans M → Φ ans M := fun _ _ _ _ h => h
    have out : ¬ v = 12 → ¬ v = 14 → (¬ v < 0 → v ≤ 14 → False) → ans = -2 := fun a b c => by
      rw [← hans, if_neg a, if_neg b]
      by_cases l : v < 0
      · rw [if_pos l]
      · rw [if_neg l, if_neg (fun y => c l y)]
    refine ⟨fun q => ?_, fun n0 => ⟨fun q => ⟨v8, ?_⟩, fun n1 => ⟨fun q => ⟨v8, ?_⟩, fun n2 => ⟨fun q => ⟨v8, v8, ?_⟩, fun n3 => ⟨fun q => ⟨v8, ?_⟩, fun n4 => ⟨fun q => ⟨v8, ?_⟩, fun n5 => ⟨fun q => ⟨v8, ?_⟩, fun n6 => ⟨fun q => ⟨v8, ?_⟩, fun n7 => ⟨fun q => ⟨v8, ?_⟩, fun n8 => ⟨fun q => ⟨v8, ?_⟩, fun n9 => ⟨fun q => ?_, fun n10 => ⟨fun q => ⟨v8, ?_⟩, fun n11 => ⟨fun q => ?_, fun n12 => ⟨fun q => ⟨v8, ?_⟩, fun n13 => ⟨fun q => ?_, fun n14 => ?_⟩⟩⟩⟩⟩⟩⟩⟩⟩⟩⟩⟩⟩⟩⟩
    · subst q
      unfold w_349 w_349_21
      rw [cI i8, hM.state hi, hM.held hi]
      have e : ans = if m (14 + 5 * i) 10 = 0 then m (14 + 5 * i) 9 else m (14 + 5 * i) 9 + 8 := by rw [← hans]; rfl
      rw [e] at hp
      refine ⟨v8, v8, fun y => ?_, fun y => ?_⟩
      · rw [if_pos y] at hp; rw [Int32.add_zero]; exact hp
      · rw [if_neg y] at hp; exact hp
    · subst q; have e : ans = m (14 + 5 * i) 3 := by rw [← hans]; rfl
      rw [e] at hp; exact hp
    · subst q; have e : ans = m (14 + 5 * i + 1) 1 := by rw [← hans]; rfl
      rw [e] at hp; exact hp
    · subst q; have e : ans = m (14 + 5 * i + 1) 3 := by rw [← hans]; rfl
      rw [e] at hp
      rw [show m (14 + 5 * i + 1) 1 + m (14 + 5 * i + 1) 3 - m (14 + 5 * i + 1) 1 = m (14 + 5 * i + 1) 3 by rw [Int32.add_comm, Int32.add_sub_cancel]]
      exact hp
    · subst q; have e : ans = m (14 + 5 * i) 5 := by rw [← hans]; rfl
      rw [e] at hp; exact hp
    · subst q; have e : ans = m (14 + 5 * i) 6 := by rw [← hans]; rfl
      rw [e] at hp; exact hp
    · subst q; have e : ans = m (14 + 5 * i) 7 := by rw [← hans]; rfl
      rw [e] at hp; exact hp
    · subst q; have e : ans = m (14 + 5 * i) 8 := by rw [← hans]; rfl
      rw [e] at hp; exact hp
    · subst q; have e : ans = m (14 + 5 * i) 12 := by rw [← hans]; rfl
      rw [e] at hp; exact hp
    · subst q; have e : ans = m (14 + 5 * i) 14 := by rw [← hans]; rfl
      rw [e] at hp; exact hp
    · subst q; have e : ans = m (14 + 5 * i) 18 := by rw [← hans]; rfl
      rw [e] at hp; exact r_348 hI hM hi hp
    · subst q; have e : ans = m (14 + 5 * i) 11 := by rw [← hans]; rfl
      rw [e] at hp; exact hp
    · subst q; have e : ans = m 55 i := by rw [← hans]; rfl
      rw [e] at hp
      refine ⟨fun y => ⟨v8, ?_⟩, fun y => ?_⟩
      · rw [(lev y i hi).1]; exact hp
      · rw [hI.lv0 on y i i8] at hp; exact hp
    · subst q; have e : ans = m (14 + 5 * i + 1) 7 := by rw [← hans]; rfl
      rw [e] at hp; exact hp
    · subst q; have e : ans = if m 54 4 = nI i then 1 else 0 := by rw [← hans]; rfl
      rw [e] at hp
      refine ⟨fun y => ?_, fun y => ?_⟩
      · rw [if_pos y] at hp; exact hp
      · rw [if_neg y] at hp; exact hp
    · rw [out n12 n14 (fun l g => ?_)] at hp
      · exact hp
      · rw [Int32.lt_iff_toInt_lt] at l
        rw [Int32.le_iff_toInt_le] at g
        simp only [Int32.reduceToInt] at l g
        have hv : v = nI v.toInt.toNat := xI (i := v.toInt.toNat) (by omega) (by omega)
        have hk : v.toInt.toNat < 15 := by omega
        generalize v.toInt.toNat = k at hv hk
        subst hv
        have hh := (by decide +kernel : ∀ k, k < 15 → nI k = 0 ∨ nI k = 1 ∨ nI k = 2 ∨ nI k = 3 ∨ nI k = 4 ∨ nI k = 5 ∨ nI k = 6 ∨ nI k = 7 ∨ nI k = 8 ∨ nI k = 9 ∨ nI k = 10 ∨ nI k = 11 ∨ nI k = 12 ∨ nI k = 13 ∨ nI k = 14) k hk
        rcases hh with y | y | y | y | y | y | y | y | y | y | y | y | y | y | y
        · exact n0 y
        · exact n1 y
        · exact n2 y
        · exact n3 y
        · exact n4 y
        · exact n5 y
        · exact n6 y
        · exact n7 y
        · exact n8 y
        · exact n9 y
        · exact n10 y
        · exact n11 y
        · exact n12 y
        · exact n13 y
        · exact n14 y
