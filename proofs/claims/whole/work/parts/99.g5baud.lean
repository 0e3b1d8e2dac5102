/-! audit: what the class checks holds. -/
theorem npx {x y : Int32} (hx : 65536 ≤ x.toInt ∧ x.toInt < 196608) (hy : 0 < y.toInt ∧ y.toInt < 65536 ∧ y.toInt % 4 = 0) (h : y &&& (y - 1) = 0 ∧ x &&& (y - 1) = 0) (n4 : y ≠ 4) : npB x y = true := by
  obtain ⟨k, k2, k16, e⟩ := p2k hy h.1
  have k3 : 3 ≤ k := by
    rcases Nat.lt_or_ge k 3 with q | q
    · exact absurd (by rw [e, show k = 2 by omega]; rfl) n4
    · exact q
  subst e
  have a := andP (x := x) k16
  rw [h.2] at a
  obtain ⟨j, rfl⟩ : ∃ j, k = j + 3 := ⟨k - 3, by omega⟩
  have t := npt j (by omega)
  have hp : 2 ^ (14 - j) * 2 ^ (j + 3) = 131072 := by rw [← Nat.pow_add, show 14 - j + (j + 3) = 17 by omega]
  have hs : 2 ^ ((14 - j) / 2) * 2 ^ ((14 - j) - (14 - j) / 2) = 2 ^ (14 - j) := by rw [← Nat.pow_add, show (14 - j) / 2 + ((14 - j) - (14 - j) / 2) = 14 - j by omega]
  have h6 : 65536 % 2 ^ (j + 3) = 0 := (by decide : ∀ j, j < 13 → 65536 % 2 ^ (j + 3) = 0) j (by omega)
  have P0 : 0 < 2 ^ (j + 3) := Nat.pow_pos (by omega)
  have Q0 : 0 < 2 ^ ((14 - j) - (14 - j) / 2) := Nat.pow_pos (by omega)
  clear k2 k3
  generalize 2 ^ (j + 3) = p at *
  generalize 2 ^ (14 - j) = r at *
  generalize 2 ^ ((14 - j) - (14 - j) / 2) = q at *
  generalize 2 ^ ((14 - j) / 2) = A at *
  have xm : x.toInt.toNat % p = 0 := by
    have : ((x.toInt.toNat % p : Nat) : Int) = x.toInt % (p : Int) := by rw [Int.natCast_emod, Int.toNat_of_nonneg (by omega)]
    have z : (0 : Int32).toInt = 0 := rfl
    omega
  obtain ⟨u, hu⟩ := Nat.dvd_of_mod_eq_zero xm
  obtain ⟨s, hs6⟩ := Nat.dvd_of_mod_eq_zero h6
  have us : s ≤ u := by
    rcases Nat.lt_or_ge u s with z | z
    · have := Nat.mul_lt_mul_of_pos_left z P0
      omega
    · exact z
  have pu : p * s ≤ p * u := Nat.mul_le_mul_left p us
  have ut : u - s < r := by
    rcases Nat.lt_or_ge (u - s) r with z | z
    · exact z
    · have : p * r ≤ p * (u - s) := Nat.mul_le_mul_left p z
      rw [Nat.mul_sub, Nat.mul_comm p r] at this
      omega
  have ex : x = nI (65536 + p * ((u - s) / q * q + (u - s) % q)) := Int32.toInt_inj.mp (by
    rw [Nat.div_add_mod', Nat.mul_sub, nI_toInt (by omega)]
    omega)
  rw [ex]
  exact t ((u - s) / q) (Nat.div_lt_of_lt_mul (by rw [Nat.mul_comm, hs]; exact ut)) ((u - s) % q) (Nat.mod_lt _ Q0)
theorem shl4 {x : Int32} (h : x.toInt % 4 = 0) : it_shl (it_shr x 2) 2 = x := b_ext (fun i hi => by
  rw [it_shl, it_shr, bl_2 _ hi]
  by_cases q : 2 ≤ i
  · rw [bs_2 _ (by omega), if_pos (by omega), decide_eq_true q, Bool.true_and, show 2 + (i - 2) = i by omega]
  · have z : x &&& 3 = nI 0 := a3of x (by omega) h
    have e : bt (x &&& 3) i = bt x i := by rw [b_and, (by decide +kernel : ∀ i, i < 2 → bt 3 i = true) i (by omega), Bool.and_true]
    rw [decide_eq_false q, Bool.false_and, ← e, z]
    exact (b_0 i).symm)
theorem tor4 {x y : Int32} (hx : 0 ≤ x.toInt ∧ x.toInt ≤ 196608 ∧ x.toInt % 4 = 0) (hy : 0 ≤ y.toInt ∧ y.toInt < 65536 ∧ y.toInt % 4 = 0) : it_shl (it_shr (x + y) 2 - it_shr x 2) 2 = y := by
  have e : it_shr (x + y) 2 - it_shr x 2 = it_shr y 2 := Int32.toInt_inj.mp (by
    have a := add_I (a := x) (k := y) (by omega) (by omega)
    have s1 := shr2 (x + y)
    have s2 := shr2 x
    have s3 := shr2 y
    rw [a] at s1
    rw [it_shr, it_shr, it_shr, sub_I (by omega) (by omega)]
    omega)
  rw [e]
  exact shl4 hy.2.2
theorem nv (x : Int32) : x + 1 - x = 1 := by rw [Int32.add_comm, Int32.add_sub_cancel]
theorem c98T {kc : it_Kc} {m : it_Me} {n : Nat} {x y : Int32} (hn : 0 < n ∧ n < 16) (hc : it_shr (m 12 n) 3 = 1) (h1 : it_shl (m 11 (n - 1)) 2 = x) (h2 : it_shl (m 11 n - m 11 (n - 1)) 2 = y) {Φ : Int32 → it_Me → Prop} (h : Φ 1 m) : w_98 kc (nI n) x y m Φ := by
  have v : vp_in (nI n) 16 := by rw [vp_in_iff, nI_toInt (by omega)]; omega
  have v' : vp_in (nI (n - 1)) 16 := by rw [vp_in_iff, nI_toInt (by omega)]; omega
  have e : nI n - 1 = nI (n - 1) := nSub (C := 1) (by omega)
  unfold w_98 w_98_50 w_98_92 w_98_116
  rw [nI_clamp (by omega), e, nI_clamp (by omega)]
  refine ⟨v, v, fun _ => ⟨fun q => ?_, fun _ => ⟨v', fun _ => ⟨fun _ => ⟨Or.inr rfl, h⟩, fun q => absurd h2 q⟩, fun q => absurd h1 q⟩⟩, fun q => absurd hc q⟩
  exact absurd ((nLe (b := 0) (by omega) (by omega)).1 q) (by omega)
theorem c98N {kc : it_Kc} {m : it_Me} {n : Nat} {x y : Int32} (hn : n < 16) (hc : it_shr (m 12 n) 3 = 3) (ha : m 11 n = it_shr x 2 ||| (it_shr y 3 - 1)) (hb : npB x y = true) {Φ : Int32 → it_Me → Prop} (h : Φ 1 m) : w_98 kc (nI n) x y m Φ := by
  have v : vp_in (nI n) 16 := by rw [vp_in_iff, nI_toInt (by omega)]; omega
  unfold npB at hb
  rw [Bool.and_eq_true, decide_eq_true_eq, decide_eq_true_eq] at hb
  unfold w_98 w_98_92 w_98_116
  rw [nI_clamp (by omega), ha, hc]
  exact ⟨v, v, fun q => absurd q (by decide), fun _ => ⟨fun _ => ⟨fun _ => ⟨fun _ => ⟨Or.inr rfl, h⟩, fun q => absurd hb.2 q⟩, fun q => absurd hb.1 q⟩, fun q => absurd rfl q⟩⟩
theorem c98F {kc : it_Kc} {m : it_Me} {n : Nat} {x : Int32} (hn : n < 16) (hc : it_shr (m 12 n) 3 = 2) (ha : it_shl (m 11 n) 2 = x) {Φ : Int32 → it_Me → Prop} (h : Φ 1 m) : w_98 kc (nI n) x 4 m Φ := by
  have v : vp_in (nI n) 16 := by rw [vp_in_iff, nI_toInt (by omega)]; omega
  have e : it_shl (m 11 n + 1 - m 11 n) 2 = 4 := by rw [nv]; decide
  unfold w_98 w_98_92 w_98_116
  rw [nI_clamp (by omega), hc]
  exact ⟨v, v, fun q => absurd q (by decide), fun _ => ⟨fun q => absurd q (by decide), fun _ => ⟨fun _ => ⟨fun _ => ⟨Or.inr rfl, h⟩, fun q => absurd e q⟩, fun q => absurd ha q⟩⟩⟩
/-- a region's entries are passed: F before, G behind -/
theorem c97g {kc : it_Kc} {mm : it_Me} {F G : Nat → Int32 → Prop} {x y c : Int32} {n : Nat} (hc : c = 5 ∨ c = 3) (hn : n + 2 ≤ 16) (hx : 65536 ≤ x.toInt ∧ x.toInt < 196608 ∧ x.toInt % 4 = 0) (hy : 0 < y.toInt ∧ y.toInt < 65536 ∧ y.toInt % 4 = 0) (hL : ∀ j, j < (ptL x y c).length → mm 11 (n + j) = ((ptL x y c).getD j (0, 0)).1 ∧ mm 12 (n + j) = ((ptL x y c).getD j (0, 0)).2) (hit : ∀ s e, s < 16 → it_shr (mm 12 s) 3 ≠ 0 → mm 12 s &&& 7 = c → (∀ Ψ : Int32 → it_Me → Prop, Ψ 1 mm → w_98 kc (nI s) x y mm Ψ) → G e (nI (s + 1)) → F (e + 1) (nI s)) (zero : ∀ s e, s < 16 → mm 12 s = 0 → F e (nI (s + 1)) → F (e + 1) (nI s)) {e : Nat} (h : G e (nI (n + (ptL x y c).length))) : F (e + (ptL x y c).length) (nI n) := by
  have z : ¬ y = 0 := fun q => by rw [q] at hy; exact absurd hy.1 (by decide)
  have k24 : it_shr (c ||| 24) 3 = 3 ∧ (c ||| 24) &&& 7 = c := by rcases hc with rfl | rfl <;> decide
  have k16 : it_shr (c ||| 16) 3 = 2 ∧ (c ||| 16) &&& 7 = c := by rcases hc with rfl | rfl <;> decide
  have k8 : it_shr (c ||| 8) 3 = 1 ∧ (c ||| 8) &&& 7 = c := by rcases hc with rfl | rfl <;> decide
  by_cases t : y &&& (y - 1) = 0 ∧ x &&& (y - 1) = 0
  · by_cases f : y = 4
    · have el : ptL x y c = [(it_shr x 2, c ||| 16)] := by unfold ptL; rw [if_neg z, if_pos t, if_pos f]
      rw [el] at h hL ⊢
      obtain ⟨a1, a2⟩ := hL 0 (by show 0 < 1; omega)
      have a1 : mm 11 n = it_shr x 2 := a1
      have a2 : mm 12 n = c ||| 16 := a2
      refine hit n e (by omega) (by rw [a2, k16.1]; decide) (by rw [a2]; exact k16.2) (fun Ψ k => ?_) h
      rw [f]
      exact c98F (by omega) (by rw [a2]; exact k16.1) (by rw [a1]; exact shl4 hx.2.2) k
    · have el : ptL x y c = [(it_shr x 2 ||| (it_shr y 3 - 1), c ||| 24)] := by unfold ptL; rw [if_neg z, if_pos t, if_neg f]
      rw [el] at h hL ⊢
      obtain ⟨a1, a2⟩ := hL 0 (by show 0 < 1; omega)
      have a1 : mm 11 n = it_shr x 2 ||| (it_shr y 3 - 1) := a1
      have a2 : mm 12 n = c ||| 24 := a2
      exact hit n e (by omega) (by rw [a2, k24.1]; decide) (by rw [a2]; exact k24.2) (fun Ψ k => c98N (by omega) (by rw [a2]; exact k24.1) a1 (npx ⟨hx.1, hx.2.1⟩ hy t f) k) h
  · have el : ptL x y c = [(it_shr x 2, 0), (it_shr (x + y) 2, c ||| 8)] := by unfold ptL; rw [if_neg z, if_neg t]
    rw [el] at h hL ⊢
    obtain ⟨a1, a2⟩ := hL 0 (by show 0 < 2; omega)
    obtain ⟨b1, b2⟩ := hL 1 (by show 1 < 2; omega)
    have a1 : mm 11 n = it_shr x 2 := a1
    have a2 : mm 12 n = 0 := a2
    have b1 : mm 11 (n + 1) = it_shr (x + y) 2 := b1
    have b2 : mm 12 (n + 1) = c ||| 8 := b2
    refine zero n (e + 1) (by omega) a2 (hit (n + 1) e (by omega) (by rw [b2, k8.1]; decide) (by rw [b2]; exact k8.2) (fun Ψ k => ?_) h)
    refine c98T (by omega) (by rw [b2]; exact k8.1) ?_ ?_ k
    · rw [Nat.add_sub_cancel, a1]
      exact shl4 hx.2.2
    · rw [Nat.add_sub_cancel, a1, b1]
      exact tor4 ⟨by omega, by omega, hx.2.2⟩ ⟨by omega, hy.2.1, hy.2.2⟩
theorem c_97 {kc : it_Kc} {B : Nat} {m : it_Me} (hI : Inv B m) {i : Nat} (hi : i < cnt m) {Φ : Int32 → it_Me → Prop} (h : Φ 1 (peC m (enL m i))) : w_97 kc (14 + 5 * i) m Φ := by
  have h8 := cnt_le hI
  have rg := regF hI hi
  have P := hI.p hi
  have ap := P.app
  have bl := blk_I (P 0)
  have oo := P.ord
  have cc := P.ctlI
  unfold w_97
  refine c_94 (by omega) ?_
  have k1 : peC m (enL m i) (14 + 5 * i + 1) = m (14 + 5 * i + 1) := pe_k _ _ (by omega)
  have k0 : peC m (enL m i) (14 + 5 * i) = m (14 + 5 * i) := pe_k _ _ (by omega)
  have r11 : ∀ j, j < 16 → peC m (enL m i) 11 j = ((enL m i).getD j (0, 0)).1 := fun j hj => by rw [pe_11, if_pos hj]
  have r12 : ∀ j, j < 16 → peC m (enL m i) 12 j = ((enL m i).getD j (0, 0)).2 := fun j hj => by rw [pe_12, if_pos hj]
  have l1 := ptL_len (m (14 + 5 * i + 1) 1) (m (14 + 5 * i + 1) 3) 5
  have l2 := ptL_len (m (14 + 5 * i) 5) (m (14 + 5 * i) 7 - m (14 + 5 * i) 5) 3
  have le : (enL m i).length = (ptL (m (14 + 5 * i + 1) 1) (m (14 + 5 * i + 1) 3) 5).length + (ptL (m (14 + 5 * i) 5) (m (14 + 5 * i) 7 - m (14 + 5 * i) 5) 3).length := by unfold enL; rw [List.length_append]
  have g1 : ∀ j, j < (ptL (m (14 + 5 * i + 1) 1) (m (14 + 5 * i + 1) 3) 5).length → (enL m i).getD j (0, 0) = (ptL (m (14 + 5 * i + 1) 1) (m (14 + 5 * i + 1) 3) 5).getD j (0, 0) := fun j hj => by unfold enL; rw [gd_app, if_pos hj]
  have g2 : ∀ j, (enL m i).getD ((ptL (m (14 + 5 * i + 1) 1) (m (14 + 5 * i + 1) 3) 5).length + j) (0, 0) = (ptL (m (14 + 5 * i) 5) (m (14 + 5 * i) 7 - m (14 + 5 * i) 5) 3).getD j (0, 0) := fun j => by unfold enL; rw [gd_app, if_neg (by omega), Nat.add_sub_cancel_left]
  have g3 : ∀ j, (enL m i).length ≤ j → (enL m i).getD j (0, 0) = (0, 0) := fun j hj => by rw [List.getD_eq_getElem?_getD, List.getElem?_eq_none hj]; rfl
  generalize peC m (enL m i) = mm at *
  have v : ∀ s, s < 16 → vp_in (nI s) 16 := fun s hs => by rw [vp_in_iff, nI_toInt (by omega)]; omega
  have nl16 : ∀ s, s < 16 → ¬ (16 : Int32) ≤ nI s := fun s hs q => absurd ((nLe (a := 16) (by omega) (by omega)).1 q) (by omega)
  have Z : ∀ (c r : Int32) (s e : Nat), s < 16 → mm 12 s = 0 → w_97_12 kc Φ (fun m => w_97_139 kc Φ m) (fun v1 v2 v3 m => w_97_147 kc Φ v1 v2 v3 m) e (14 + 5 * i) c r (nI (s + 1)) mm → w_97_12 kc Φ (fun m => w_97_139 kc Φ m) (fun v1 v2 v3 m => w_97_147 kc Φ v1 v2 v3 m) (e + 1) (14 + 5 * i) c r (nI s) mm := fun c r s e hs h0 k => by
    rw [w_97_12]
    unfold w_97_36 w_97_90 w_97_129 w_97_141
    rw [nI_clamp (by omega), h0, nI_s1]
    exact ⟨fun q => absurd q (nl16 s hs), fun _ => ⟨v s hs, fun _ => ⟨v s hs, fun _ => ⟨fun _ => ⟨fun _ => ⟨fun _ => k, fun q => absurd (by decide) q⟩, fun q => absurd rfl q⟩, fun q => absurd rfl q⟩, fun q => absurd rfl q⟩, fun q => absurd (by decide) q⟩⟩
  have HF : ∀ (c r : Int32) (s e : Nat), s < 16 → it_shr (mm 12 s) 3 ≠ 0 → mm 12 s &&& 7 = 5 → (∀ Ψ : Int32 → it_Me → Prop, Ψ 1 mm → w_98 kc (nI s) (m (14 + 5 * i + 1) 1) (m (14 + 5 * i + 1) 3) mm Ψ) → w_97_12 kc Φ (fun m => w_97_139 kc Φ m) (fun v1 v2 v3 m => w_97_147 kc Φ v1 v2 v3 m) e (14 + 5 * i) (c + 1) r (nI (s + 1)) mm → w_97_12 kc Φ (fun m => w_97_139 kc Φ m) (fun v1 v2 v3 m => w_97_147 kc Φ v1 v2 v3 m) (e + 1) (14 + 5 * i) c r (nI s) mm := fun c r s e hs n0 h5 hw k => by
    rw [w_97_12]
    unfold w_97_36 w_97_141
    rw [nI_clamp (by omega), h5, nI_s1, k1]
    exact ⟨fun q => absurd q (nl16 s hs), fun _ => ⟨v s hs, fun q => absurd q n0, fun _ => ⟨v s hs, fun q => absurd q (by decide), fun _ => ⟨fun _ => hw _ ⟨fun q => absurd q (by decide), fun _ => k⟩, fun q => absurd rfl q⟩⟩⟩⟩
  have HR : ∀ (c r : Int32) (s e : Nat), s < 16 → it_shr (mm 12 s) 3 ≠ 0 → mm 12 s &&& 7 = 3 → (∀ Ψ : Int32 → it_Me → Prop, Ψ 1 mm → w_98 kc (nI s) (m (14 + 5 * i) 5) (m (14 + 5 * i) 7 - m (14 + 5 * i) 5) mm Ψ) → w_97_12 kc Φ (fun m => w_97_139 kc Φ m) (fun v1 v2 v3 m => w_97_147 kc Φ v1 v2 v3 m) e (14 + 5 * i) c (r + 1) (nI (s + 1)) mm → w_97_12 kc Φ (fun m => w_97_139 kc Φ m) (fun v1 v2 v3 m => w_97_147 kc Φ v1 v2 v3 m) (e + 1) (14 + 5 * i) c r (nI s) mm := fun c r s e hs n0 h3 hw k => by
    rw [w_97_12]
    unfold w_97_36 w_97_90 w_97_141
    rw [nI_clamp (by omega), h3, nI_s1, k0]
    exact ⟨fun q => absurd q (nl16 s hs), fun _ => ⟨v s hs, fun q => absurd q n0, fun _ => ⟨v s hs, fun q => absurd q (by decide), fun _ => ⟨fun q => absurd q (by decide), fun _ => ⟨fun q => absurd q (by decide), fun _ => ⟨fun _ => hw _ ⟨fun q => absurd q (by decide), fun _ => k⟩, fun q => absurd rfl q⟩⟩⟩⟩⟩⟩
  -- the slots that are empty
  have E : ∀ (c r : Int32) (d s : Nat), s + d = 16 → (enL m i).length ≤ s → w_97_147 kc Φ (14 + 5 * i) c r mm → w_97_12 kc Φ (fun m => w_97_139 kc Φ m) (fun v1 v2 v3 m => w_97_147 kc Φ v1 v2 v3 m) (d + 1) (14 + 5 * i) c r (nI s) mm := by
    intro c r d
    induction d with
    | zero =>
      intro s hs _ k
      rw [w_97_12]
      exact ⟨fun _ => k, fun q => absurd ((nLe (a := 16) (by omega) (by omega)).2 (by omega)) q⟩
    | succ d ih =>
      intro s hs hl k
      exact Z c r s (d + 1) (by omega) (by rw [r12 s (by omega), g3 s hl]) (ih (s + 1) (by omega) (by omega) k)
  have a0 : (0 : Int32) = nI 0 := by decide
  have x1 : (131072 : Int) ≤ (m (14 + 5 * i) 5).toInt ∧ (m (14 + 5 * i) 5).toInt < 196608 ∧ (m (14 + 5 * i) 5).toInt % 4 = 0 := by omega
  by_cases y0 : m (14 + 5 * i) 7 - m (14 + 5 * i) 5 = 0
  · have yt : (m (14 + 5 * i) 7).toInt - (m (14 + 5 * i) 5).toInt = 0 := by rw [← rg.2.2.2.1, y0]; rfl
    have e2 : ptL (m (14 + 5 * i) 5) (m (14 + 5 * i) 7 - m (14 + 5 * i) 5) 3 = [] := by unfold ptL; rw [if_pos y0]
    rw [e2] at le
    have le : (enL m i).length = (ptL (m (14 + 5 * i + 1) 1) (m (14 + 5 * i + 1) 3) 5).length + 0 := le
    have fin : w_97_147 kc Φ (14 + 5 * i) 1 0 mm := by
      unfold w_97_147 w_97_169 w_97_177
      rw [k0]
      exact ⟨fun _ => ⟨fun _ => ⟨fun _ => ⟨Or.inr rfl, h⟩, fun q => absurd rfl q⟩, fun q => absurd (by rw [Int32.le_iff_toInt_le]; omega) q⟩, fun q => absurd rfl q⟩
    have s1 := E 1 0 (16 - (enL m i).length) (enL m i).length (by omega) (Nat.le_refl _) fin
    rw [le, Nat.add_zero] at s1
    have s2 := c97g (F := fun e v => w_97_12 kc Φ (fun m => w_97_139 kc Φ m) (fun v1 v2 v3 m => w_97_147 kc Φ v1 v2 v3 m) e (14 + 5 * i) 0 0 v mm) (G := fun e v => w_97_12 kc Φ (fun m => w_97_139 kc Φ m) (fun v1 v2 v3 m => w_97_147 kc Φ v1 v2 v3 m) e (14 + 5 * i) 1 0 v mm) (n := 0) (Or.inl rfl) (by omega) ⟨ap.1, by omega, ap.2.1⟩ rg.2.1 (fun j hj => by rw [Nat.zero_add, r11 j (by omega), r12 j (by omega), g1 j hj]; exact ⟨rfl, rfl⟩) (fun s e => HF 0 0 s e) (fun s e => Z 0 0 s e) (by rw [Nat.zero_add]; exact s1)
    exact ⟨_, s2⟩
  · have yp : 0 < (m (14 + 5 * i) 7 - m (14 + 5 * i) 5).toInt := by
      have : (m (14 + 5 * i) 7 - m (14 + 5 * i) 5).toInt ≠ 0 := fun q => y0 (Int32.toInt_inj.mp q)
      omega
    have fin : w_97_147 kc Φ (14 + 5 * i) 1 1 mm := by
      unfold w_97_147 w_97_169 w_97_177
      rw [k0]
      refine ⟨fun _ => ⟨fun q => ?_, fun _ => ⟨fun _ => ⟨Or.inr rfl, h⟩, fun q => absurd rfl q⟩⟩, fun q => absurd rfl q⟩
      rw [Int32.le_iff_toInt_le] at q
      omega
    have s1 := E 1 1 (16 - (enL m i).length) (enL m i).length (by omega) (Nat.le_refl _) fin
    rw [le] at s1
    have s3 := c97g (F := fun e v => w_97_12 kc Φ (fun m => w_97_139 kc Φ m) (fun v1 v2 v3 m => w_97_147 kc Φ v1 v2 v3 m) e (14 + 5 * i) 1 0 v mm) (G := fun e v => w_97_12 kc Φ (fun m => w_97_139 kc Φ m) (fun v1 v2 v3 m => w_97_147 kc Φ v1 v2 v3 m) e (14 + 5 * i) 1 1 v mm) (n := (ptL (m (14 + 5 * i + 1) 1) (m (14 + 5 * i + 1) 3) 5).length) (Or.inr rfl) (by omega) ⟨by omega, x1.2.1, x1.2.2⟩ ⟨yp, rg.2.2.2.2.2.1, rg.2.2.2.2.2.2⟩ (fun j hj => by rw [r11 _ (by omega), r12 _ (by omega), g2 j]; exact ⟨rfl, rfl⟩) (fun s e => HR 1 0 s e) (fun s e => Z 1 0 s e) s1
    have s2 := c97g (F := fun e v => w_97_12 kc Φ (fun m => w_97_139 kc Φ m) (fun v1 v2 v3 m => w_97_147 kc Φ v1 v2 v3 m) e (14 + 5 * i) 0 0 v mm) (G := fun e v => w_97_12 kc Φ (fun m => w_97_139 kc Φ m) (fun v1 v2 v3 m => w_97_147 kc Φ v1 v2 v3 m) e (14 + 5 * i) 1 0 v mm) (n := 0) (Or.inl rfl) (by omega) ⟨ap.1, by omega, ap.2.1⟩ rg.2.1 (fun j hj => by rw [Nat.zero_add, r11 j (by omega), r12 j (by omega), g1 j hj]; exact ⟨rfl, rfl⟩) (fun s e => HF 0 0 s e) (fun s e => Z 0 0 s e) (by rw [Nat.zero_add]; exact s3)
    exact ⟨_, s2⟩
