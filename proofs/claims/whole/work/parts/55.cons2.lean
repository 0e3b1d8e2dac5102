/-! Drivers: who asked first; bytes out and in. -/
def enc : Option Nat → Int32
  | none => -1
  | some j => nI j
theorem enc_n1 {j : Nat} (h : j < 8) : ¬ nI j = -1 := by
  intro q
  have := congrArg Int32.toInt q
  rw [nI_toInt (by omega)] at this
  have e1 : (-1 : Int32).toInt = -1 := by decide
  omega
theorem faW {kc : it_Kc} (hk : KC kc) {B : Nat} {m : it_Me} (hI : Inv B m) : ∀ (r k : Nat) (o : Option Nat), k + r = cnt m → (∀ j, o = some j → j < cnt m ∧ undW m j) → ∃ o' : Option Nat, (∀ j, o' = some j → j < cnt m ∧ undW m j) ∧ (∀ (Φ K : Option Nat → it_Me → Prop), K (o'.map (fun j => 14 + 5 * j)) m → w_47_5 kc Φ K (r + 1) 0 62 (o.map (fun j => 14 + 5 * j)) (nI k) m) ∧ ∀ M, Rel m M → ∀ (Φ K : Int32 → it_Me → Prop), K (enc o') M → w_309_4 kc Φ K (r + 1) 1 (enc o) (nI k) M := by
  have h8 := cnt_le hI
  have hce := cnt_eq hI
  have z : owA 1 = 64 ∧ gsz 1 = 80 := by decide
  intro r
  induction r with
  | zero =>
    intro k o hc ho
    have le : m 9 7 ≤ nI k := by rw [Int32.le_iff_toInt_le, nI_toInt (by omega)]; omega
    refine ⟨o, ho, fun Φ K h => ?_, fun M hM Φ K h => ?_⟩
    · unfold w_47_5
      exact ⟨fun _ => h, fun q => absurd le q⟩
    · unfold w_309_4
      rw [hM.count]
      exact ⟨fun _ => h, fun q => absurd le q⟩
  | succ r ih =>
    intro k o hc ho
    have hkc : k < cnt m := by omega
    have k8 : k < 8 := by omega
    have hP := hI.p hkc
    have nle : ¬ m 9 7 ≤ nI k := by rw [Int32.le_iff_toInt_le, nI_toInt (by omega)]; omega
    have cls : ∀ (Φ K : Option Nat → it_Me → Prop), (gw m (m (14 + 5 * k + 4) 1 + nI 64) = 0 → w_47_58 kc Φ (w_47_5 kc Φ K (r + 1)) K 0 62 (o.map (fun j => 14 + 5 * j)) (nI k) (14 + 5 * k) 0 m) → (¬ gw m (m (14 + 5 * k + 4) 1 + nI 64) = 0 → w_47_58 kc Φ (w_47_5 kc Φ K (r + 1)) K 0 62 (o.map (fun j => 14 + 5 * j)) (nI k) (14 + 5 * k) 1 m) → w_47_5 kc Φ K (r + 1 + 1) 0 62 (o.map (fun j => 14 + 5 * j)) (nI k) m := fun Φ K h0 h1 => by
      unfold w_47_5
      rw [nI_clamp (by omega)]
      refine ⟨fun q => absurd q nle, fun _ => ⟨vI k8, c_90 hk (d := 1) (by omega) (c_12 ?_)⟩⟩
      rw [show owA 1 = 64 from rfl, show (4 : Int32) * 0 = 0 from rfl, Int32.add_zero]
      exact ⟨h0, h1⟩
    by_cases w0 : gw m (m (14 + 5 * k + 4) 1 + nI 64) = 0
    · obtain ⟨o', a1, a2, a3⟩ := ih (k + 1) o (by omega) ho
      refine ⟨o', a1, fun Φ K h => cls Φ K (fun _ => ?_) (fun q => absurd w0 q), fun M hM Φ K h => ?_⟩
      · unfold w_47_58 w_47_85
        rw [nI_1]
        exact ⟨fun _ => a2 Φ K h, fun q => absurd rfl q⟩
      · unfold w_309_4 w_309_106
        rw [hM.count]
        refine ⟨fun q => absurd q nle, fun _ => r_272 hI hM hkc (d := 1) (by omega) ?_⟩
        have nx := a3 M hM Φ K h
        rw [nI_1]
        by_cases hg : m (14 + 5 * k + 4) 1 = 0
        · rw [if_pos hg]
          exact ⟨fun _ => nx, fun q => absurd rfl q⟩
        · rw [if_neg hg]
          refine ⟨fun q => absurd q (gN1 hP (by omega) hg), fun _ => r_269 (d := 1) (by omega) ?_⟩
          unfold w_309_43 w_309_106
          rw [show owA 1 = 64 from rfl, Int32.add_zero, n8_64, nI_1]
          exact ⟨fun q => absurd q (by decide), fun _ => r_220g hI hM hkc (by omega) hg (by omega) (by omega) ⟨fun _ => nx, fun q => absurd w0 q⟩⟩
    · have hg : m (14 + 5 * k + 4) 1 ≠ 0 := fun q => w0 (by rw [q, Int32.zero_add]; exact gw_low (by rw [nI_toInt (by omega)]; omega))
      have uk : undW m k := ⟨hg, w0⟩
      have bk := hI.askW (on_of hI hkc) k hkc uk
      have refK : ∀ M, Rel m M → ∀ (Φ K : Int32 → it_Me → Prop), w_309_69 kc Φ (w_309_4 kc Φ K (r + 1)) K 1 (enc o) (nI k) (m 62 k + 1) M → w_309_4 kc Φ K (r + 1 + 1) 1 (enc o) (nI k) M := fun M hM Φ K h => by
        unfold w_309_4
        rw [hM.count]
        refine ⟨fun q => absurd q nle, fun _ => r_272 hI hM hkc (d := 1) (by omega) ?_⟩
        rw [if_neg hg]
        refine ⟨fun q => absurd q (gN1 hP (by omega) hg), fun _ => r_269 (d := 1) (by omega) ?_⟩
        unfold w_309_43
        rw [show owA 1 = 64 from rfl, Int32.add_zero, n8_64]
        exact ⟨fun q => absurd q (by decide), fun _ => r_220g hI hM hkc (by omega) hg (by omega) (by omega) ⟨fun q => absurd q w0, fun _ => ⟨fun q => absurd q (by decide), fun _ => ⟨vI k8, by rw [cI k8, hM.worder k hkc uk]; exact h⟩⟩⟩⟩
      cases o with
      | none =>
        obtain ⟨o', a1, a2, a3⟩ := ih (k + 1) (some k) (by omega) (fun j hj => by cases hj; exact ⟨hkc, uk⟩)
        refine ⟨o', a1, fun Φ K h => cls Φ K (fun q => absurd q w0) (fun _ => ?_), fun M hM Φ K h => refK M hM Φ K ?_⟩
        · unfold w_47_58 w_47_82 w_47_85
          rw [nI_1]
          exact ⟨fun q => absurd q (by decide), fun _ => ⟨fun _ => a2 Φ K h, fun q1 e => by cases e⟩⟩
        · unfold w_309_69 w_309_100 w_309_105 w_309_106
          rw [nI_1]
          exact ⟨fun _ => a3 M hM Φ K h, fun q => absurd rfl q⟩
      | some j =>
        obtain ⟨hj, uj⟩ := ho j rfl
        have j8 : j < 8 := by omega
        have bj' := hI.askW (on_of hI hkc) j hj uj
        have ej : (m 62 j + 1).toInt = (m 62 j).toInt + 1 := add_I (by show _ ≤ _ + (1 : Int); omega) (by show _ + (1 : Int) < _; have := thi (m 59 12); omega)
        have ek : (m 62 k + 1).toInt = (m 62 k).toInt + 1 := add_I (by show _ ≤ _ + (1 : Int); omega) (by show _ + (1 : Int) < _; have := thi (m 59 12); omega)
        by_cases q : (m 62 j).toInt ≤ (m 62 k).toInt
        · obtain ⟨o', a1, a2, a3⟩ := ih (k + 1) (some j) (by omega) ho
          refine ⟨o', a1, fun Φ K h => cls Φ K (fun q => absurd q w0) (fun _ => ?_), fun M hM Φ K h => refK M hM Φ K ?_⟩
          · unfold w_47_58 w_47_82 w_47_85
            rw [nI_1]
            refine ⟨fun q => absurd q (by decide), fun _ => ⟨fun e => (by cases e), fun q1 e => ?_⟩⟩
            cases e
            rw [hI.num j j8, cI j8, cI k8]
            exact ⟨vI k8, vI j8, fun _ => a2 Φ K h, fun y => absurd (Int32.le_iff_toInt_le.mpr q) y⟩
          · unfold w_309_69 w_309_97 w_309_105 w_309_106
            rw [nI_1]
            rw [show enc (some j) = nI j from rfl, cI j8, hM.worder j hj uj]
            refine ⟨fun y => absurd y (enc_n1 j8), fun _ => ?_⟩
            have fin := a3 M hM Φ K h
            have le : m 62 j + 1 ≤ m 62 k + 1 := by rw [Int32.le_iff_toInt_le]; omega
            exact ⟨fun y => absurd y (by decide), fun _ => ⟨vI j8, fun _ => fin, fun y => absurd le y⟩⟩
        · obtain ⟨o', a1, a2, a3⟩ := ih (k + 1) (some k) (by omega) (fun j' hj' => by cases hj'; exact ⟨hkc, uk⟩)
          refine ⟨o', a1, fun Φ K h => cls Φ K (fun q => absurd q w0) (fun _ => ?_), fun M hM Φ K h => refK M hM Φ K ?_⟩
          · unfold w_47_58 w_47_82 w_47_85
            rw [nI_1]
            refine ⟨fun q => absurd q (by decide), fun _ => ⟨fun e => (by cases e), fun q1 e => ?_⟩⟩
            cases e
            rw [hI.num j j8, cI j8, cI k8]
            exact ⟨vI k8, vI j8, fun y => absurd (Int32.le_iff_toInt_le.mp y) q, fun _ => a2 Φ K h⟩
          · unfold w_309_69 w_309_97 w_309_100 w_309_105 w_309_106
            rw [nI_1]
            rw [show enc (some j) = nI j from rfl, cI j8, hM.worder j hj uj]
            refine ⟨fun y => absurd y (enc_n1 j8), fun _ => ?_⟩
            have fin := a3 M hM Φ K h
            have nl : ¬ m 62 j + 1 ≤ m 62 k + 1 := by rw [Int32.le_iff_toInt_le]; omega
            exact ⟨fun y => absurd y (by decide), fun _ => ⟨vI j8, fun y => absurd y nl, fun _ => fin⟩⟩
theorem faR {kc : it_Kc} (hk : KC kc) {B : Nat} {m : it_Me} (hI : Inv B m) : ∀ (r k : Nat) (o : Option Nat), k + r = cnt m → (∀ j, o = some j → j < cnt m ∧ undR m j) → ∃ o' : Option Nat, (∀ j, o' = some j → j < cnt m ∧ undR m j) ∧ (∀ (Φ K : Option Nat → it_Me → Prop), K (o'.map (fun j => 14 + 5 * j)) m → w_47_5 kc Φ K (r + 1) 2 63 (o.map (fun j => 14 + 5 * j)) (nI k) m) ∧ ∀ M, Rel m M → ∀ (Φ K : Int32 → it_Me → Prop), K (enc o') M → w_309_4 kc Φ K (r + 1) 0 (enc o) (nI k) M := by
  have h8 := cnt_le hI
  have hce := cnt_eq hI
  have z : owA 1 = 64 ∧ gsz 1 = 80 := by decide
  intro r
  induction r with
  | zero =>
    intro k o hc ho
    have le : m 9 7 ≤ nI k := by rw [Int32.le_iff_toInt_le, nI_toInt (by omega)]; omega
    refine ⟨o, ho, fun Φ K h => ?_, fun M hM Φ K h => ?_⟩
    · unfold w_47_5
      exact ⟨fun _ => h, fun q => absurd le q⟩
    · unfold w_309_4
      rw [hM.count]
      exact ⟨fun _ => h, fun q => absurd le q⟩
  | succ r ih =>
    intro k o hc ho
    have hkc : k < cnt m := by omega
    have k8 : k < 8 := by omega
    have hP := hI.p hkc
    have nle : ¬ m 9 7 ≤ nI k := by rw [Int32.le_iff_toInt_le, nI_toInt (by omega)]; omega
    have cls : ∀ (Φ K : Option Nat → it_Me → Prop), (gw m (m (14 + 5 * k + 4) 1 + nI 72) = 0 → w_47_58 kc Φ (w_47_5 kc Φ K (r + 1)) K 2 63 (o.map (fun j => 14 + 5 * j)) (nI k) (14 + 5 * k) 0 m) → (¬ gw m (m (14 + 5 * k + 4) 1 + nI 72) = 0 → w_47_58 kc Φ (w_47_5 kc Φ K (r + 1)) K 2 63 (o.map (fun j => 14 + 5 * j)) (nI k) (14 + 5 * k) 1 m) → w_47_5 kc Φ K (r + 1 + 1) 2 63 (o.map (fun j => 14 + 5 * j)) (nI k) m := fun Φ K h0 h1 => by
      unfold w_47_5
      rw [nI_clamp (by omega)]
      refine ⟨fun q => absurd q nle, fun _ => ⟨vI k8, c_90 hk (d := 1) (by omega) (c_12 ?_)⟩⟩
      rw [show owA 1 = 64 from rfl, show (4 : Int32) * 2 = 8 from rfl, n8_64]
      exact ⟨h0, h1⟩
    by_cases w0 : gw m (m (14 + 5 * k + 4) 1 + nI 72) = 0
    · obtain ⟨o', a1, a2, a3⟩ := ih (k + 1) o (by omega) ho
      refine ⟨o', a1, fun Φ K h => cls Φ K (fun _ => ?_) (fun q => absurd w0 q), fun M hM Φ K h => ?_⟩
      · unfold w_47_58 w_47_85
        rw [nI_1]
        exact ⟨fun _ => a2 Φ K h, fun q => absurd rfl q⟩
      · unfold w_309_4 w_309_106
        rw [hM.count]
        refine ⟨fun q => absurd q nle, fun _ => r_272 hI hM hkc (d := 1) (by omega) ?_⟩
        have nx := a3 M hM Φ K h
        rw [nI_1]
        by_cases hg : m (14 + 5 * k + 4) 1 = 0
        · rw [if_pos hg]
          exact ⟨fun _ => nx, fun q => absurd rfl q⟩
        · rw [if_neg hg]
          refine ⟨fun q => absurd q (gN1 hP (by omega) hg), fun _ => r_269 (d := 1) (by omega) ?_⟩
          unfold w_309_43 w_309_106
          rw [show owA 1 = 64 from rfl, Int32.add_zero, n8_64, nI_1]
          exact ⟨fun _ => r_220g hI hM hkc (by omega) hg (by omega) (by omega) ⟨fun _ => nx, fun q => absurd w0 q⟩, fun q => absurd rfl q⟩
    · have hg : m (14 + 5 * k + 4) 1 ≠ 0 := fun q => w0 (by rw [q, Int32.zero_add]; exact gw_low (by rw [nI_toInt (by omega)]; omega))
      have uk : undR m k := ⟨hg, w0⟩
      have bk := hI.askR (on_of hI hkc) k hkc uk
      have refK : ∀ M, Rel m M → ∀ (Φ K : Int32 → it_Me → Prop), w_309_69 kc Φ (w_309_4 kc Φ K (r + 1)) K 0 (enc o) (nI k) (m 63 k + 1) M → w_309_4 kc Φ K (r + 1 + 1) 0 (enc o) (nI k) M := fun M hM Φ K h => by
        unfold w_309_4
        rw [hM.count]
        refine ⟨fun q => absurd q nle, fun _ => r_272 hI hM hkc (d := 1) (by omega) ?_⟩
        rw [if_neg hg]
        refine ⟨fun q => absurd q (gN1 hP (by omega) hg), fun _ => r_269 (d := 1) (by omega) ?_⟩
        unfold w_309_43
        rw [show owA 1 = 64 from rfl, Int32.add_zero, n8_64]
        exact ⟨fun _ => r_220g hI hM hkc (by omega) hg (by omega) (by omega) ⟨fun q => absurd q w0, fun _ => ⟨fun _ => ⟨vI k8, by rw [cI k8, hM.rorder k hkc uk]; exact h⟩, fun q => absurd rfl q⟩⟩, fun q => absurd rfl q⟩
      cases o with
      | none =>
        obtain ⟨o', a1, a2, a3⟩ := ih (k + 1) (some k) (by omega) (fun j hj => by cases hj; exact ⟨hkc, uk⟩)
        refine ⟨o', a1, fun Φ K h => cls Φ K (fun q => absurd q w0) (fun _ => ?_), fun M hM Φ K h => refK M hM Φ K ?_⟩
        · unfold w_47_58 w_47_82 w_47_85
          rw [nI_1]
          exact ⟨fun q => absurd q (by decide), fun _ => ⟨fun _ => a2 Φ K h, fun q1 e => by cases e⟩⟩
        · unfold w_309_69 w_309_100 w_309_105 w_309_106
          rw [nI_1]
          exact ⟨fun _ => a3 M hM Φ K h, fun q => absurd rfl q⟩
      | some j =>
        obtain ⟨hj, uj⟩ := ho j rfl
        have j8 : j < 8 := by omega
        have bj' := hI.askR (on_of hI hkc) j hj uj
        have ej : (m 63 j + 1).toInt = (m 63 j).toInt + 1 := add_I (by show _ ≤ _ + (1 : Int); omega) (by show _ + (1 : Int) < _; have := thi (m 59 12); omega)
        have ek : (m 63 k + 1).toInt = (m 63 k).toInt + 1 := add_I (by show _ ≤ _ + (1 : Int); omega) (by show _ + (1 : Int) < _; have := thi (m 59 12); omega)
        by_cases q : (m 63 j).toInt ≤ (m 63 k).toInt
        · obtain ⟨o', a1, a2, a3⟩ := ih (k + 1) (some j) (by omega) ho
          refine ⟨o', a1, fun Φ K h => cls Φ K (fun q => absurd q w0) (fun _ => ?_), fun M hM Φ K h => refK M hM Φ K ?_⟩
          · unfold w_47_58 w_47_82 w_47_85
            rw [nI_1]
            refine ⟨fun q => absurd q (by decide), fun _ => ⟨fun e => (by cases e), fun q1 e => ?_⟩⟩
            cases e
            rw [hI.num j j8, cI j8, cI k8]
            exact ⟨vI k8, vI j8, fun _ => a2 Φ K h, fun y => absurd (Int32.le_iff_toInt_le.mpr q) y⟩
          · unfold w_309_69 w_309_97 w_309_105 w_309_106
            rw [nI_1]
            rw [show enc (some j) = nI j from rfl, cI j8, hM.rorder j hj uj]
            refine ⟨fun y => absurd y (enc_n1 j8), fun _ => ?_⟩
            have fin := a3 M hM Φ K h
            have le : m 63 j + 1 ≤ m 63 k + 1 := by rw [Int32.le_iff_toInt_le]; omega
            exact ⟨fun _ => ⟨vI j8, fun _ => fin, fun y => absurd le y⟩, fun y => absurd rfl y⟩
        · obtain ⟨o', a1, a2, a3⟩ := ih (k + 1) (some k) (by omega) (fun j' hj' => by cases hj'; exact ⟨hkc, uk⟩)
          refine ⟨o', a1, fun Φ K h => cls Φ K (fun q => absurd q w0) (fun _ => ?_), fun M hM Φ K h => refK M hM Φ K ?_⟩
          · unfold w_47_58 w_47_82 w_47_85
            rw [nI_1]
            refine ⟨fun q => absurd q (by decide), fun _ => ⟨fun e => (by cases e), fun q1 e => ?_⟩⟩
            cases e
            rw [hI.num j j8, cI j8, cI k8]
            exact ⟨vI k8, vI j8, fun y => absurd (Int32.le_iff_toInt_le.mp y) q, fun _ => a2 Φ K h⟩
          · unfold w_309_69 w_309_97 w_309_100 w_309_105 w_309_106
            rw [nI_1]
            rw [show enc (some j) = nI j from rfl, cI j8, hM.rorder j hj uj]
            refine ⟨fun y => absurd y (enc_n1 j8), fun _ => ?_⟩
            have fin := a3 M hM Φ K h
            have nl : ¬ m 63 j + 1 ≤ m 63 k + 1 := by rw [Int32.le_iff_toInt_le]; omega
            exact ⟨fun _ => ⟨vI j8, fun y => absurd y nl, fun _ => fin⟩, fun y => absurd rfl y⟩
/-- what a tick leaves as it is -/
def Ks (m m' : it_Me) : Prop := m' 0 = m 0 ∧ m' 9 = m 9 ∧ m' 7 = m 7 ∧ m' 4 0 = m 4 0 ∧ m' 54 = m 54
theorem Kp.s {m m' : it_Me} (h : Kp m m') : Ks m m' := ⟨h.1, h.2.1, h.2.2.1, h.2.2.2.1, h.2.2.2.2 54 (by omega) (by omega)⟩
theorem Ks.rfl {m : it_Me} : Ks m m := ⟨Eq.refl _, Eq.refl _, Eq.refl _, Eq.refl _, Eq.refl _⟩
theorem Ks.trans {a b c : it_Me} (h : Ks a b) (g : Ks b c) : Ks a c := ⟨g.1.trans h.1, g.2.1.trans h.2.1, g.2.2.1.trans h.2.2.1, g.2.2.2.1.trans h.2.2.2.1, g.2.2.2.2.trans h.2.2.2.2⟩
theorem Ks.cnt {m m' : it_Me} (h : Ks m m') : cnt m' = cnt m := cnt_cg (by rw [h.2.1])
theorem v12_3 : vp_in 3 12 := by rw [vp_in_iff]; decide
/-- a byte goes out -/
theorem po {kc : it_Kc} {B : Nat} {m : it_Me} (hI : Inv B m) (hB : B < 2147483000) (b : Int32) : ∃ m1, (∀ Φ, Φ m1 → w_49 kc b m Φ) ∧ Inv (B + 1) m1 ∧ (∀ k, k ≠ 5 → k ≠ 59 → k ≠ 61 → m1 k = m k) ∧ m1 59 12 = m 59 12 ∧ ∀ M, Rel m M → ∃ M0, (0 ≤ lg_cmp (Int32.toInt64 (M 69 3) &&& 4294967295) 4000 → M0 = M) ∧ (¬ 0 ≤ lg_cmp (Int32.toInt64 (M 69 3) &&& 4294967295) 4000 → vp_in (M 69 3) 4000 ∧ M0 = it_sv M 70 (Int32.toNatClampNeg (M 69 3)) (it_i2b (it_i2b b))) ∧ Rel m1 (it_sv M0 69 3 (M0 69 3 + 1)) ∧ FrM M (it_sv M0 69 3 (M0 69 3 + 1)) := by
  have h8 := cnt_le hI
  have hO := hI.out
  have e4 : (4000 : Int64).toInt = 4000 := by decide
  have z4 : (4000 : Int32).toInt = 4000 := rfl
  have ea : (m 5 3 + 1).toInt = (m 5 3).toInt + 1 := add_I (by show _ ≤ _ + (1 : Int); omega) (by show _ + (1 : Int) < _; omega)
  have lc : ∀ M, Rel m M → (0 ≤ lg_cmp (Int32.toInt64 (M 69 3) &&& 4294967295) 4000 ↔ 4000 ≤ (m 5 3).toInt) := fun M hM => by
    rw [lgge, u32, e4, hM.counts 3 (by omega)]
    omega
  by_cases q : 4000 ≤ (m 5 3).toInt
  · refine ⟨it_sv m 5 3 (m 5 3 + 1), fun Φ h => ?_, ?_, fun k h1 _ _ => sv_cell _ _ _ _ h1, by rw [sv_n1 _ _ _ _ _ (by omega)], fun M hM => ⟨M, fun _ => rfl, fun y => absurd ((lc M hM).mpr q) y, ?_, FrM.rfl.sv (by omega)⟩⟩
    · unfold w_49 w_49_44
      rw [cl_3, sv_n1 _ _ _ _ _ (by omega)]
      refine ⟨v12_3, v12_3, fun _ => h, fun y => ?_⟩
      exfalso; rw [Int32.le_iff_toInt_le, z4] at y; omega
    · exact (Inv.upd (hI) ((by omega)) ([5]) (by intro k hk; simp only [List.mem_cons, List.not_mem_nil, or_false, not_or, not_false_eq_true] at hk; first | rfl | (repeat (first | rw [sv_cell _ _ _ _ (by omega)] | rw [up_cell _ _ _ (by omega)] | rw [fil_cell _ _ _ _ _ (by omega)]))) (by first | (refine Or.inl (And.intro ?_ ?_) <;> first | (simp only [List.mem_cons, List.not_mem_nil, or_false, forall_eq_or_imp, forall_eq, false_implies, implies_true, and_true] <;> omega) | (repeat' (first | exact True.intro | rfl | refine And.intro ?_ ?_ | (rw [sv_ne _ _ _ _ (by omega)]) | (rw [up_cell _ _ _ (by omega)]) | (rw [fil_cell _ _ _ _ _ (by omega)]) | (rw [hM _ (by omega)]) | (rw [hm _ (by omega)])))) | (have t_ := Inv.tl (hI); exact Or.inr t_)) (by first | (refine Or.inl (And.intro ?_ ?_) <;> first | (simp only [List.mem_cons, List.not_mem_nil, or_false, forall_eq_or_imp, forall_eq, false_implies, implies_true, and_true] <;> omega) | (repeat' (first | exact True.intro | rfl | refine And.intro ?_ ?_ | (rw [sv_ne _ _ _ _ (by omega)]) | (rw [up_cell _ _ _ (by omega)]) | (rw [fil_cell _ _ _ _ _ (by omega)]) | (rw [hM _ (by omega)]) | (rw [hm _ (by omega)])))) | (have t_ := Inv.tp (hI); exact Or.inr t_)) (by first | (refine Or.inl (And.intro ?_ ?_) <;> first | (simp only [List.mem_cons, List.not_mem_nil, or_false, forall_eq_or_imp, forall_eq, false_implies, implies_true, and_true] <;> omega) | (repeat' (first | exact True.intro | rfl | refine And.intro ?_ ?_ | (rw [sv_ne _ _ _ _ (by omega)]) | (rw [up_cell _ _ _ (by omega)]) | (rw [fil_cell _ _ _ _ _ (by omega)]) | (rw [hM _ (by omega)]) | (rw [hm _ (by omega)])))) | (have t_ := Inv.on (hI); exact Or.inr t_)) (by first | (refine Or.inl (And.intro ?_ ?_) <;> first | (simp only [List.mem_cons, List.not_mem_nil, or_false, forall_eq_or_imp, forall_eq, false_implies, implies_true, and_true] <;> omega) | (repeat' (first | exact True.intro | rfl | refine And.intro ?_ ?_ | (rw [sv_ne _ _ _ _ (by omega)]) | (rw [up_cell _ _ _ (by omega)]) | (rw [fil_cell _ _ _ _ _ (by omega)]) | (rw [hM _ (by omega)]) | (rw [hm _ (by omega)])))) | (have t_ := Inv.off (hI); exact Or.inr t_)) (by first | (refine Or.inl (And.intro ?_ ?_) <;> first | (simp only [List.mem_cons, List.not_mem_nil, or_false, forall_eq_or_imp, forall_eq, false_implies, implies_true, and_true] <;> omega) | (repeat' (first | exact True.intro | rfl | refine And.intro ?_ ?_ | (rw [sv_ne _ _ _ _ (by omega)]) | (rw [up_cell _ _ _ (by omega)]) | (rw [fil_cell _ _ _ _ _ (by omega)]) | (rw [hM _ (by omega)]) | (rw [hm _ (by omega)])))) | (have t_ := Inv.cn (hI); exact Or.inr t_)) (Or.inr (by
        rw [sv_n2 _ _ _ _ (by omega), sv_n1 _ _ _ _ _ (by omega), sv_n1 _ _ _ _ _ (by omega)]
        have := hI.ev
        exact ⟨this.1, by omega, this.2.2⟩)) (Or.inr (by
        rw [sv_same, sv_n1 _ _ _ _ _ (by omega), ea]
        omega)) (by first | (refine Or.inl (And.intro ?_ ?_) <;> first | (simp only [List.mem_cons, List.not_mem_nil, or_false, forall_eq_or_imp, forall_eq, false_implies, implies_true, and_true] <;> omega) | (repeat' (first | exact True.intro | rfl | refine And.intro ?_ ?_ | (rw [sv_ne _ _ _ _ (by omega)]) | (rw [up_cell _ _ _ (by omega)]) | (rw [fil_cell _ _ _ _ _ (by omega)]) | (rw [hM _ (by omega)]) | (rw [hm _ (by omega)])))) | (have t_ := Inv.num (hI); exact Or.inr t_)) (by first | (refine Or.inl (And.intro ?_ ?_) <;> first | (simp only [List.mem_cons, List.not_mem_nil, or_false, forall_eq_or_imp, forall_eq, false_implies, implies_true, and_true] <;> omega) | (repeat' (first | exact True.intro | rfl | refine And.intro ?_ ?_ | (rw [sv_ne _ _ _ _ (by omega)]) | (rw [up_cell _ _ _ (by omega)]) | (rw [fil_cell _ _ _ _ _ (by omega)]) | (rw [hM _ (by omega)]) | (rw [hm _ (by omega)])))) | (have t_ := Inv.crc (hI); exact Or.inr t_)) (by first | (refine Or.inl (And.intro ?_ ?_) <;> first | (simp only [List.mem_cons, List.not_mem_nil, or_false, forall_eq_or_imp, forall_eq, false_implies, implies_true, and_true] <;> omega) | (repeat' (first | exact True.intro | rfl | refine And.intro ?_ ?_ | (rw [sv_ne _ _ _ _ (by omega)]) | (rw [up_cell _ _ _ (by omega)]) | (rw [fil_cell _ _ _ _ _ (by omega)]) | (rw [hM _ (by omega)]) | (rw [hm _ (by omega)])))) | (have t_ := Inv.bk (hI); exact Or.inr t_)) (by first | (refine Or.inl (And.intro ?_ ?_) <;> first | (simp only [List.mem_cons, List.not_mem_nil, or_false, forall_eq_or_imp, forall_eq, false_implies, implies_true, and_true] <;> omega) | (repeat' (first | exact True.intro | rfl | refine And.intro ?_ ?_ | (rw [sv_ne _ _ _ _ (by omega)]) | (rw [up_cell _ _ _ (by omega)]) | (rw [fil_cell _ _ _ _ _ (by omega)]) | (rw [hM _ (by omega)]) | (rw [hm _ (by omega)])))) | (have t_ := Inv.bk1 (hI); exact Or.inr t_)) (by first | (refine Or.inl (And.intro ?_ ?_) <;> first | (simp only [List.mem_cons, List.not_mem_nil, or_false, forall_eq_or_imp, forall_eq, false_implies, implies_true, and_true] <;> omega) | (repeat' (first | exact True.intro | rfl | refine And.intro ?_ ?_ | (rw [sv_ne _ _ _ _ (by omega)]) | (rw [up_cell _ _ _ (by omega)]) | (rw [fil_cell _ _ _ _ _ (by omega)]) | (rw [hM _ (by omega)]) | (rw [hm _ (by omega)])))) | (have t_ := Inv.pw (hI); exact Or.inr t_)) (by first | (refine Or.inl (And.intro ?_ ?_) <;> first | (simp only [List.mem_cons, List.not_mem_nil, or_false, forall_eq_or_imp, forall_eq, false_implies, implies_true, and_true] <;> omega) | (repeat' (first | exact True.intro | rfl | refine And.intro ?_ ?_ | (rw [sv_ne _ _ _ _ (by omega)]) | (rw [up_cell _ _ _ (by omega)]) | (rw [fil_cell _ _ _ _ _ (by omega)]) | (rw [hM _ (by omega)]) | (rw [hm _ (by omega)])))) | (have t_ := Inv.kd (hI); exact Or.inr t_)) (by first | (refine Or.inl (And.intro ?_ ?_) <;> first | (simp only [List.mem_cons, List.not_mem_nil, or_false, forall_eq_or_imp, forall_eq, false_implies, implies_true, and_true] <;> omega) | (repeat' (first | exact True.intro | rfl | refine And.intro ?_ ?_ | (rw [sv_ne _ _ _ _ (by omega)]) | (rw [up_cell _ _ _ (by omega)]) | (rw [fil_cell _ _ _ _ _ (by omega)]) | (rw [hM _ (by omega)]) | (rw [hm _ (by omega)])))) | (have t_ := Inv.tn (hI); exact Or.inr t_)) (by first | (refine Or.inl (And.intro ?_ ?_) <;> first | (simp only [List.mem_cons, List.not_mem_nil, or_false, forall_eq_or_imp, forall_eq, false_implies, implies_true, and_true] <;> omega) | (repeat' (first | exact True.intro | rfl | refine And.intro ?_ ?_ | (rw [sv_ne _ _ _ _ (by omega)]) | (rw [up_cell _ _ _ (by omega)]) | (rw [fil_cell _ _ _ _ _ (by omega)]) | (rw [hM _ (by omega)]) | (rw [hm _ (by omega)])))) | (have t_ := Inv.ask (hI); exact Or.inr t_)) (by first | (refine Or.inl (And.intro ?_ ?_) <;> first | (simp only [List.mem_cons, List.not_mem_nil, or_false, forall_eq_or_imp, forall_eq, false_implies, implies_true, and_true] <;> omega) | (repeat' (first | exact True.intro | rfl | refine And.intro ?_ ?_ | (rw [sv_ne _ _ _ _ (by omega)]) | (rw [up_cell _ _ _ (by omega)]) | (rw [fil_cell _ _ _ _ _ (by omega)]) | (rw [hM _ (by omega)]) | (rw [hm _ (by omega)])))) | (have t_ := Inv.askW (hI); exact Or.inr t_)) (by first | (refine Or.inl (And.intro ?_ ?_) <;> first | (simp only [List.mem_cons, List.not_mem_nil, or_false, forall_eq_or_imp, forall_eq, false_implies, implies_true, and_true] <;> omega) | (repeat' (first | exact True.intro | rfl | refine And.intro ?_ ?_ | (rw [sv_ne _ _ _ _ (by omega)]) | (rw [up_cell _ _ _ (by omega)]) | (rw [fil_cell _ _ _ _ _ (by omega)]) | (rw [hM _ (by omega)]) | (rw [hm _ (by omega)])))) | (have t_ := Inv.askR (hI); exact Or.inr t_)) (by first | (refine Or.inl (And.intro ?_ ?_) <;> first | (simp only [List.mem_cons, List.not_mem_nil, or_false, forall_eq_or_imp, forall_eq, false_implies, implies_true, and_true] <;> omega) | (repeat' (first | exact True.intro | rfl | refine And.intro ?_ ?_ | (rw [sv_ne _ _ _ _ (by omega)]) | (rw [up_cell _ _ _ (by omega)]) | (rw [fil_cell _ _ _ _ _ (by omega)]) | (rw [hM _ (by omega)]) | (rw [hm _ (by omega)])))) | (have t_ := Inv.lv0 (hI); exact Or.inr t_)) (by first | (refine Or.inl (And.intro ?_ ?_) <;> first | (simp only [List.mem_cons, List.not_mem_nil, or_false, forall_eq_or_imp, forall_eq, false_implies, implies_true, and_true] <;> omega) | (repeat' (first | exact True.intro | rfl | refine And.intro ?_ ?_ | (rw [sv_ne _ _ _ _ (by omega)]) | (rw [up_cell _ _ _ (by omega)]) | (rw [fil_cell _ _ _ _ _ (by omega)]) | (rw [hM _ (by omega)]) | (rw [hm _ (by omega)])))) | (have t_ := Inv.lv2 (hI); exact Or.inr t_)) (by first | (refine Or.inl (And.intro ?_ ?_) <;> first | (simp only [List.mem_cons, List.not_mem_nil, or_false, forall_eq_or_imp, forall_eq, false_implies, implies_true, and_true] <;> omega) | (repeat' (first | exact True.intro | rfl | refine And.intro ?_ ?_ | (rw [sv_ne _ _ _ _ (by omega)]) | (rw [up_cell _ _ _ (by omega)]) | (rw [fil_cell _ _ _ _ _ (by omega)]) | (rw [hM _ (by omega)]) | (rw [hm _ (by omega)])))) | (have t_ := Inv.pl (hI); exact Or.inr t_)) (by first | (refine Or.inl (And.intro ?_ ?_) <;> first | (simp only [List.mem_cons, List.not_mem_nil, or_false, forall_eq_or_imp, forall_eq, false_implies, implies_true, and_true] <;> omega) | (repeat' (first | exact True.intro | rfl | refine And.intro ?_ ?_ | (rw [sv_ne _ _ _ _ (by omega)]) | (rw [up_cell _ _ _ (by omega)]) | (rw [fil_cell _ _ _ _ _ (by omega)]) | (rw [hM _ (by omega)]) | (rw [hm _ (by omega)])))) | (have t_ := Inv.pi (hI); exact Or.inr t_)) (by first | (refine Or.inl (And.intro ?_ ?_) <;> first | (simp only [List.mem_cons, List.not_mem_nil, or_false, forall_eq_or_imp, forall_eq, false_implies, implies_true, and_true] <;> omega) | (repeat' (first | exact True.intro | rfl | refine And.intro ?_ ?_ | (rw [sv_ne _ _ _ _ (by omega)]) | (rw [up_cell _ _ _ (by omega)]) | (rw [fil_cell _ _ _ _ _ (by omega)]) | (rw [hM _ (by omega)]) | (rw [hm _ (by omega)])))) | (have t_ := Inv.dis (hI); exact Or.inr t_)))
    · rw [hM.counts 3 (by omega)]
      exact hM.cn h8 3 _
  · have eo : (m 59 9).toInt = (m 5 3).toInt := by omega
    have e59 : m 59 9 = m 5 3 := Int32.toInt_inj.mp eo
    refine ⟨it_sv (it_sv (it_sv m 5 3 (m 5 3 + 1)) 61 (Int32.toNatClampNeg (m 5 3)) (it_i2b (it_i2b b))) 59 9 (m 5 3 + 1), fun Φ h => ?_, ?_, fun k h1 h2 h3 => by rw [sv_cell _ _ _ _ h2, sv_cell _ _ _ _ h3, sv_cell _ _ _ _ h1], by rw [sv_n2 _ _ _ _ (by omega), sv_n1 _ _ _ _ _ (by omega), sv_n1 _ _ _ _ _ (by omega)], fun M hM => ⟨it_sv M 70 (Int32.toNatClampNeg (M 69 3)) (it_i2b (it_i2b b)), fun y => absurd ((lc M hM).mp y) q, fun _ => ⟨by rw [hM.counts 3 (by omega), vp_in_iff]; omega, rfl⟩, ?_, (FrM.rfl.sv (by omega)).sv (by omega)⟩⟩
    · unfold w_49 w_49_44
      rw [cl_3, sv_n1 _ _ _ _ _ (by omega), sv_n1 _ _ _ _ _ (by omega), sv_n1 _ _ _ _ _ (by omega), e59]
      refine ⟨v12_3, v12_3, fun y => ?_, fun _ => ⟨by rw [vp_in_iff]; omega, h⟩⟩
      exfalso; rw [Int32.le_iff_toInt_le, z4] at y; omega
    · exact (Inv.upd (hI) ((by omega)) ([5, 61, 59]) (by intro k hk; simp only [List.mem_cons, List.not_mem_nil, or_false, not_or, not_false_eq_true] at hk; first | rfl | (repeat (first | rw [sv_cell _ _ _ _ (by omega)] | rw [up_cell _ _ _ (by omega)] | rw [fil_cell _ _ _ _ _ (by omega)]))) (by first | (refine Or.inl (And.intro ?_ ?_) <;> first | (simp only [List.mem_cons, List.not_mem_nil, or_false, forall_eq_or_imp, forall_eq, false_implies, implies_true, and_true] <;> omega) | (repeat' (first | exact True.intro | rfl | refine And.intro ?_ ?_ | (rw [sv_ne _ _ _ _ (by omega)]) | (rw [up_cell _ _ _ (by omega)]) | (rw [fil_cell _ _ _ _ _ (by omega)]) | (rw [hM _ (by omega)]) | (rw [hm _ (by omega)])))) | (have t_ := Inv.tl (hI); exact Or.inr t_)) (by first | (refine Or.inl (And.intro ?_ ?_) <;> first | (simp only [List.mem_cons, List.not_mem_nil, or_false, forall_eq_or_imp, forall_eq, false_implies, implies_true, and_true] <;> omega) | (repeat' (first | exact True.intro | rfl | refine And.intro ?_ ?_ | (rw [sv_ne _ _ _ _ (by omega)]) | (rw [up_cell _ _ _ (by omega)]) | (rw [fil_cell _ _ _ _ _ (by omega)]) | (rw [hM _ (by omega)]) | (rw [hm _ (by omega)])))) | (have t_ := Inv.tp (hI); exact Or.inr t_)) (by first | (refine Or.inl (And.intro ?_ ?_) <;> first | (simp only [List.mem_cons, List.not_mem_nil, or_false, forall_eq_or_imp, forall_eq, false_implies, implies_true, and_true] <;> omega) | (repeat' (first | exact True.intro | rfl | refine And.intro ?_ ?_ | (rw [sv_ne _ _ _ _ (by omega)]) | (rw [up_cell _ _ _ (by omega)]) | (rw [fil_cell _ _ _ _ _ (by omega)]) | (rw [hM _ (by omega)]) | (rw [hm _ (by omega)])))) | (have t_ := Inv.on (hI); exact Or.inr t_)) (by first | (refine Or.inl (And.intro ?_ ?_) <;> first | (simp only [List.mem_cons, List.not_mem_nil, or_false, forall_eq_or_imp, forall_eq, false_implies, implies_true, and_true] <;> omega) | (repeat' (first | exact True.intro | rfl | refine And.intro ?_ ?_ | (rw [sv_ne _ _ _ _ (by omega)]) | (rw [up_cell _ _ _ (by omega)]) | (rw [fil_cell _ _ _ _ _ (by omega)]) | (rw [hM _ (by omega)]) | (rw [hm _ (by omega)])))) | (have t_ := Inv.off (hI); exact Or.inr t_)) (by first | (refine Or.inl (And.intro ?_ ?_) <;> first | (simp only [List.mem_cons, List.not_mem_nil, or_false, forall_eq_or_imp, forall_eq, false_implies, implies_true, and_true] <;> omega) | (repeat' (first | exact True.intro | rfl | refine And.intro ?_ ?_ | (rw [sv_ne _ _ _ _ (by omega)]) | (rw [up_cell _ _ _ (by omega)]) | (rw [fil_cell _ _ _ _ _ (by omega)]) | (rw [hM _ (by omega)]) | (rw [hm _ (by omega)])))) | (have t_ := Inv.cn (hI); exact Or.inr t_)) (Or.inr (by
        simp (disch := omega) only [sv_n1, sv_n2]
        have := hI.ev
        exact ⟨this.1, by omega, this.2.2⟩)) (Or.inr (by
        rw [sv_same, sv_n1 _ _ _ _ _ (by omega), sv_n1 _ _ _ _ _ (by omega), sv_same, ea]
        omega)) (by first | (refine Or.inl (And.intro ?_ ?_) <;> first | (simp only [List.mem_cons, List.not_mem_nil, or_false, forall_eq_or_imp, forall_eq, false_implies, implies_true, and_true] <;> omega) | (repeat' (first | exact True.intro | rfl | refine And.intro ?_ ?_ | (rw [sv_ne _ _ _ _ (by omega)]) | (rw [up_cell _ _ _ (by omega)]) | (rw [fil_cell _ _ _ _ _ (by omega)]) | (rw [hM _ (by omega)]) | (rw [hm _ (by omega)])))) | (have t_ := Inv.num (hI); exact Or.inr t_)) (by first | (refine Or.inl (And.intro ?_ ?_) <;> first | (simp only [List.mem_cons, List.not_mem_nil, or_false, forall_eq_or_imp, forall_eq, false_implies, implies_true, and_true] <;> omega) | (repeat' (first | exact True.intro | rfl | refine And.intro ?_ ?_ | (rw [sv_ne _ _ _ _ (by omega)]) | (rw [up_cell _ _ _ (by omega)]) | (rw [fil_cell _ _ _ _ _ (by omega)]) | (rw [hM _ (by omega)]) | (rw [hm _ (by omega)])))) | (have t_ := Inv.crc (hI); exact Or.inr t_)) (by first | (refine Or.inl (And.intro ?_ ?_) <;> first | (simp only [List.mem_cons, List.not_mem_nil, or_false, forall_eq_or_imp, forall_eq, false_implies, implies_true, and_true] <;> omega) | (repeat' (first | exact True.intro | rfl | refine And.intro ?_ ?_ | (rw [sv_ne _ _ _ _ (by omega)]) | (rw [up_cell _ _ _ (by omega)]) | (rw [fil_cell _ _ _ _ _ (by omega)]) | (rw [hM _ (by omega)]) | (rw [hm _ (by omega)])))) | (have t_ := Inv.bk (hI); exact Or.inr t_)) (by first | (refine Or.inl (And.intro ?_ ?_) <;> first | (simp only [List.mem_cons, List.not_mem_nil, or_false, forall_eq_or_imp, forall_eq, false_implies, implies_true, and_true] <;> omega) | (repeat' (first | exact True.intro | rfl | refine And.intro ?_ ?_ | (rw [sv_ne _ _ _ _ (by omega)]) | (rw [up_cell _ _ _ (by omega)]) | (rw [fil_cell _ _ _ _ _ (by omega)]) | (rw [hM _ (by omega)]) | (rw [hm _ (by omega)])))) | (have t_ := Inv.bk1 (hI); exact Or.inr t_)) (by first | (refine Or.inl (And.intro ?_ ?_) <;> first | (simp only [List.mem_cons, List.not_mem_nil, or_false, forall_eq_or_imp, forall_eq, false_implies, implies_true, and_true] <;> omega) | (repeat' (first | exact True.intro | rfl | refine And.intro ?_ ?_ | (rw [sv_ne _ _ _ _ (by omega)]) | (rw [up_cell _ _ _ (by omega)]) | (rw [fil_cell _ _ _ _ _ (by omega)]) | (rw [hM _ (by omega)]) | (rw [hm _ (by omega)])))) | (have t_ := Inv.pw (hI); exact Or.inr t_)) (by first | (refine Or.inl (And.intro ?_ ?_) <;> first | (simp only [List.mem_cons, List.not_mem_nil, or_false, forall_eq_or_imp, forall_eq, false_implies, implies_true, and_true] <;> omega) | (repeat' (first | exact True.intro | rfl | refine And.intro ?_ ?_ | (rw [sv_ne _ _ _ _ (by omega)]) | (rw [up_cell _ _ _ (by omega)]) | (rw [fil_cell _ _ _ _ _ (by omega)]) | (rw [hM _ (by omega)]) | (rw [hm _ (by omega)])))) | (have t_ := Inv.kd (hI); exact Or.inr t_)) (by first | (refine Or.inl (And.intro ?_ ?_) <;> first | (simp only [List.mem_cons, List.not_mem_nil, or_false, forall_eq_or_imp, forall_eq, false_implies, implies_true, and_true] <;> omega) | (repeat' (first | exact True.intro | rfl | refine And.intro ?_ ?_ | (rw [sv_ne _ _ _ _ (by omega)]) | (rw [up_cell _ _ _ (by omega)]) | (rw [fil_cell _ _ _ _ _ (by omega)]) | (rw [hM _ (by omega)]) | (rw [hm _ (by omega)])))) | (have t_ := Inv.tn (hI); exact Or.inr t_)) (by first | (refine Or.inl (And.intro ?_ ?_) <;> first | (simp only [List.mem_cons, List.not_mem_nil, or_false, forall_eq_or_imp, forall_eq, false_implies, implies_true, and_true] <;> omega) | (repeat' (first | exact True.intro | rfl | refine And.intro ?_ ?_ | (rw [sv_ne _ _ _ _ (by omega)]) | (rw [up_cell _ _ _ (by omega)]) | (rw [fil_cell _ _ _ _ _ (by omega)]) | (rw [hM _ (by omega)]) | (rw [hm _ (by omega)])))) | (have t_ := Inv.ask (hI); exact Or.inr t_)) (by first | (refine Or.inl (And.intro ?_ ?_) <;> first | (simp only [List.mem_cons, List.not_mem_nil, or_false, forall_eq_or_imp, forall_eq, false_implies, implies_true, and_true] <;> omega) | (repeat' (first | exact True.intro | rfl | refine And.intro ?_ ?_ | (rw [sv_ne _ _ _ _ (by omega)]) | (rw [up_cell _ _ _ (by omega)]) | (rw [fil_cell _ _ _ _ _ (by omega)]) | (rw [hM _ (by omega)]) | (rw [hm _ (by omega)])))) | (have t_ := Inv.askW (hI); exact Or.inr t_)) (by first | (refine Or.inl (And.intro ?_ ?_) <;> first | (simp only [List.mem_cons, List.not_mem_nil, or_false, forall_eq_or_imp, forall_eq, false_implies, implies_true, and_true] <;> omega) | (repeat' (first | exact True.intro | rfl | refine And.intro ?_ ?_ | (rw [sv_ne _ _ _ _ (by omega)]) | (rw [up_cell _ _ _ (by omega)]) | (rw [fil_cell _ _ _ _ _ (by omega)]) | (rw [hM _ (by omega)]) | (rw [hm _ (by omega)])))) | (have t_ := Inv.askR (hI); exact Or.inr t_)) (by first | (refine Or.inl (And.intro ?_ ?_) <;> first | (simp only [List.mem_cons, List.not_mem_nil, or_false, forall_eq_or_imp, forall_eq, false_implies, implies_true, and_true] <;> omega) | (repeat' (first | exact True.intro | rfl | refine And.intro ?_ ?_ | (rw [sv_ne _ _ _ _ (by omega)]) | (rw [up_cell _ _ _ (by omega)]) | (rw [fil_cell _ _ _ _ _ (by omega)]) | (rw [hM _ (by omega)]) | (rw [hm _ (by omega)])))) | (have t_ := Inv.lv0 (hI); exact Or.inr t_)) (by first | (refine Or.inl (And.intro ?_ ?_) <;> first | (simp only [List.mem_cons, List.not_mem_nil, or_false, forall_eq_or_imp, forall_eq, false_implies, implies_true, and_true] <;> omega) | (repeat' (first | exact True.intro | rfl | refine And.intro ?_ ?_ | (rw [sv_ne _ _ _ _ (by omega)]) | (rw [up_cell _ _ _ (by omega)]) | (rw [fil_cell _ _ _ _ _ (by omega)]) | (rw [hM _ (by omega)]) | (rw [hm _ (by omega)])))) | (have t_ := Inv.lv2 (hI); exact Or.inr t_)) (by first | (refine Or.inl (And.intro ?_ ?_) <;> first | (simp only [List.mem_cons, List.not_mem_nil, or_false, forall_eq_or_imp, forall_eq, false_implies, implies_true, and_true] <;> omega) | (repeat' (first | exact True.intro | rfl | refine And.intro ?_ ?_ | (rw [sv_ne _ _ _ _ (by omega)]) | (rw [up_cell _ _ _ (by omega)]) | (rw [fil_cell _ _ _ _ _ (by omega)]) | (rw [hM _ (by omega)]) | (rw [hm _ (by omega)])))) | (have t_ := Inv.pl (hI); exact Or.inr t_)) (by first | (refine Or.inl (And.intro ?_ ?_) <;> first | (simp only [List.mem_cons, List.not_mem_nil, or_false, forall_eq_or_imp, forall_eq, false_implies, implies_true, and_true] <;> omega) | (repeat' (first | exact True.intro | rfl | refine And.intro ?_ ?_ | (rw [sv_ne _ _ _ _ (by omega)]) | (rw [up_cell _ _ _ (by omega)]) | (rw [fil_cell _ _ _ _ _ (by omega)]) | (rw [hM _ (by omega)]) | (rw [hm _ (by omega)])))) | (have t_ := Inv.pi (hI); exact Or.inr t_)) (by first | (refine Or.inl (And.intro ?_ ?_) <;> first | (simp only [List.mem_cons, List.not_mem_nil, or_false, forall_eq_or_imp, forall_eq, false_implies, implies_true, and_true] <;> omega) | (repeat' (first | exact True.intro | rfl | refine And.intro ?_ ?_ | (rw [sv_ne _ _ _ _ (by omega)]) | (rw [up_cell _ _ _ (by omega)]) | (rw [fil_cell _ _ _ _ _ (by omega)]) | (rw [hM _ (by omega)]) | (rw [hm _ (by omega)])))) | (have t_ := Inv.dis (hI); exact Or.inr t_)))
    · rw [hM.counts 3 (by omega), sv_n1 _ _ _ _ _ (by omega), hM.counts 3 (by omega)]
      exact (Rel.upd (hM) (h8) ([5, 61, 59]) ([70, 69]) (by intro k hk; simp only [List.mem_cons, List.not_mem_nil, or_false, not_or, not_false_eq_true] at hk; first | rfl | (repeat (first | rw [sv_cell _ _ _ _ (by omega)] | rw [up_cell _ _ _ (by omega)] | rw [fil_cell _ _ _ _ _ (by omega)]))) (by intro k hk; simp only [List.mem_cons, List.not_mem_nil, or_false, not_or, not_false_eq_true] at hk; first | rfl | (repeat (first | rw [sv_cell _ _ _ _ (by omega)] | rw [up_cell _ _ _ (by omega)] | rw [fil_cell _ _ _ _ _ (by omega)]))) (by first | (refine Or.inl (And.intro ?_ (And.intro ?_ ?_)) <;> first | (simp only [List.mem_cons, List.not_mem_nil, or_false, forall_eq_or_imp, forall_eq, false_implies, implies_true, and_true] <;> omega) | (repeat' (first | exact True.intro | rfl | refine And.intro ?_ ?_ | (rw [sv_ne _ _ _ _ (by omega)]) | (rw [up_cell _ _ _ (by omega)]) | (rw [fil_cell _ _ _ _ _ (by omega)]) | (rw [hM _ (by omega)]) | (rw [hm _ (by omega)])))) | (have t_ := Rel.tapeLen (hM); exact Or.inr t_)) (by first | (refine Or.inl (And.intro ?_ (And.intro ?_ ?_)) <;> first | (simp only [List.mem_cons, List.not_mem_nil, or_false, forall_eq_or_imp, forall_eq, false_implies, implies_true, and_true] <;> omega) | (repeat' (first | exact True.intro | rfl | refine And.intro ?_ ?_ | (rw [sv_ne _ _ _ _ (by omega)]) | (rw [up_cell _ _ _ (by omega)]) | (rw [fil_cell _ _ _ _ _ (by omega)]) | (rw [hM _ (by omega)]) | (rw [hm _ (by omega)])))) | (have t_ := Rel.on (hM); exact Or.inr t_)) (by first | (refine Or.inl (And.intro ?_ (And.intro ?_ ?_)) <;> first | (simp only [List.mem_cons, List.not_mem_nil, or_false, forall_eq_or_imp, forall_eq, false_implies, implies_true, and_true] <;> omega) | (repeat' (first | exact True.intro | rfl | refine And.intro ?_ ?_ | (rw [sv_ne _ _ _ _ (by omega)]) | (rw [up_cell _ _ _ (by omega)]) | (rw [fil_cell _ _ _ _ _ (by omega)]) | (rw [hM _ (by omega)]) | (rw [hm _ (by omega)])))) | (have t_ := Rel.lost (hM); exact Or.inr t_)) (by first | (refine Or.inl (And.intro ?_ (And.intro ?_ ?_)) <;> first | (simp only [List.mem_cons, List.not_mem_nil, or_false, forall_eq_or_imp, forall_eq, false_implies, implies_true, and_true] <;> omega) | (repeat' (first | exact True.intro | rfl | refine And.intro ?_ ?_ | (rw [sv_ne _ _ _ _ (by omega)]) | (rw [up_cell _ _ _ (by omega)]) | (rw [fil_cell _ _ _ _ _ (by omega)]) | (rw [hM _ (by omega)]) | (rw [hm _ (by omega)])))) | (have t_ := Rel.power (hM); exact Or.inr t_)) (by first | (refine Or.inl (And.intro ?_ (And.intro ?_ ?_)) <;> first | (simp only [List.mem_cons, List.not_mem_nil, or_false, forall_eq_or_imp, forall_eq, false_implies, implies_true, and_true] <;> omega) | (repeat' (first | exact True.intro | rfl | refine And.intro ?_ ?_ | (rw [sv_ne _ _ _ _ (by omega)]) | (rw [up_cell _ _ _ (by omega)]) | (rw [fil_cell _ _ _ _ _ (by omega)]) | (rw [hM _ (by omega)]) | (rw [hm _ (by omega)])))) | (have t_ := Rel.time (hM); exact Or.inr t_)) (by first | (refine Or.inl (And.intro ?_ (And.intro ?_ ?_)) <;> first | (simp only [List.mem_cons, List.not_mem_nil, or_false, forall_eq_or_imp, forall_eq, false_implies, implies_true, and_true] <;> omega) | (repeat' (first | exact True.intro | rfl | refine And.intro ?_ ?_ | (rw [sv_ne _ _ _ _ (by omega)]) | (rw [up_cell _ _ _ (by omega)]) | (rw [fil_cell _ _ _ _ _ (by omega)]) | (rw [hM _ (by omega)]) | (rw [hm _ (by omega)])))) | (have t_ := Rel.z (hM); exact Or.inr t_)) (by first | (refine Or.inl (And.intro ?_ (And.intro ?_ ?_)) <;> first | (simp only [List.mem_cons, List.not_mem_nil, or_false, forall_eq_or_imp, forall_eq, false_implies, implies_true, and_true] <;> omega) | (repeat' (first | exact True.intro | rfl | refine And.intro ?_ ?_ | (rw [sv_ne _ _ _ _ (by omega)]) | (rw [up_cell _ _ _ (by omega)]) | (rw [fil_cell _ _ _ _ _ (by omega)]) | (rw [hM _ (by omega)]) | (rw [hm _ (by omega)])))) | (have t_ := Rel.count (hM); exact Or.inr t_)) (by first | (refine Or.inl (And.intro ?_ (And.intro ?_ ?_)) <;> first | (simp only [List.mem_cons, List.not_mem_nil, or_false, forall_eq_or_imp, forall_eq, false_implies, implies_true, and_true] <;> omega) | (repeat' (first | exact True.intro | rfl | refine And.intro ?_ ?_ | (rw [sv_ne _ _ _ _ (by omega)]) | (rw [up_cell _ _ _ (by omega)]) | (rw [fil_cell _ _ _ _ _ (by omega)]) | (rw [hM _ (by omega)]) | (rw [hm _ (by omega)])))) | (have t_ := Rel.turn (hM); exact Or.inr t_)) (by first | (refine Or.inl (And.intro ?_ (And.intro ?_ ?_)) <;> first | (simp only [List.mem_cons, List.not_mem_nil, or_false, forall_eq_or_imp, forall_eq, false_implies, implies_true, and_true] <;> omega) | (repeat' (first | exact True.intro | rfl | refine And.intro ?_ ?_ | (rw [sv_ne _ _ _ _ (by omega)]) | (rw [up_cell _ _ _ (by omega)]) | (rw [fil_cell _ _ _ _ _ (by omega)]) | (rw [hM _ (by omega)]) | (rw [hm _ (by omega)])))) | (have t_ := Rel.bank (hM); exact Or.inr t_)) (by first | (refine Or.inl (And.intro ?_ (And.intro ?_ ?_)) <;> first | (simp only [List.mem_cons, List.not_mem_nil, or_false, forall_eq_or_imp, forall_eq, false_implies, implies_true, and_true] <;> omega) | (repeat' (first | exact True.intro | rfl | refine And.intro ?_ ?_ | (rw [sv_ne _ _ _ _ (by omega)]) | (rw [up_cell _ _ _ (by omega)]) | (rw [fil_cell _ _ _ _ _ (by omega)]) | (rw [hM _ (by omega)]) | (rw [hm _ (by omega)])))) | (have t_ := Rel.tape (hM); exact Or.inr t_)) (Or.inr (by
        intro j hj
        simp [sv_rd, hM.counts j hj])) (by first | (refine Or.inl (And.intro ?_ (And.intro ?_ ?_)) <;> first | (simp only [List.mem_cons, List.not_mem_nil, or_false, forall_eq_or_imp, forall_eq, false_implies, implies_true, and_true] <;> omega) | (repeat' (first | exact True.intro | rfl | refine And.intro ?_ ?_ | (rw [sv_ne _ _ _ _ (by omega)]) | (rw [up_cell _ _ _ (by omega)]) | (rw [fil_cell _ _ _ _ _ (by omega)]) | (rw [hM _ (by omega)]) | (rw [hm _ (by omega)])))) | (have t_ := Rel.events (hM); exact Or.inr t_)) (Or.inr (by
        intro j hj
        simp [sv_rd, hM.out j hj])) (by first | (refine Or.inl (And.intro ?_ (And.intro ?_ ?_)) <;> first | (simp only [List.mem_cons, List.not_mem_nil, or_false, forall_eq_or_imp, forall_eq, false_implies, implies_true, and_true] <;> omega) | (repeat' (first | exact True.intro | rfl | refine And.intro ?_ ?_ | (rw [sv_ne _ _ _ _ (by omega)]) | (rw [up_cell _ _ _ (by omega)]) | (rw [fil_cell _ _ _ _ _ (by omega)]) | (rw [hM _ (by omega)]) | (rw [hm _ (by omega)])))) | (have t_ := Rel.lamps (hM); exact Or.inr t_)) (by first | (refine Or.inl (And.intro ?_ (And.intro ?_ ?_)) <;> first | (simp only [List.mem_cons, List.not_mem_nil, or_false, forall_eq_or_imp, forall_eq, false_implies, implies_true, and_true] <;> omega) | (repeat' (first | exact True.intro | rfl | refine And.intro ?_ ?_ | (rw [sv_ne _ _ _ _ (by omega)]) | (rw [up_cell _ _ _ (by omega)]) | (rw [fil_cell _ _ _ _ _ (by omega)]) | (rw [hM _ (by omega)]) | (rw [hm _ (by omega)])))) | (have t_ := Rel.buttons (hM); exact Or.inr t_)) (by first | (refine Or.inl (And.intro ?_ (And.intro ?_ ?_)) <;> first | (simp only [List.mem_cons, List.not_mem_nil, or_false, forall_eq_or_imp, forall_eq, false_implies, implies_true, and_true] <;> omega) | (repeat' (first | exact True.intro | rfl | refine And.intro ?_ ?_ | (rw [sv_ne _ _ _ _ (by omega)]) | (rw [up_cell _ _ _ (by omega)]) | (rw [fil_cell _ _ _ _ _ (by omega)]) | (rw [hM _ (by omega)]) | (rw [hm _ (by omega)])))) | (have t_ := Rel.lev (hM); exact Or.inr t_)) (by first | (refine Or.inl (And.intro ?_ (And.intro ?_ ?_)) <;> first | (simp only [List.mem_cons, List.not_mem_nil, or_false, forall_eq_or_imp, forall_eq, false_implies, implies_true, and_true] <;> omega) | (repeat' (first | exact True.intro | rfl | refine And.intro ?_ ?_ | (rw [sv_ne _ _ _ _ (by omega)]) | (rw [up_cell _ _ _ (by omega)]) | (rw [fil_cell _ _ _ _ _ (by omega)]) | (rw [hM _ (by omega)]) | (rw [hm _ (by omega)])))) | (have t_ := Rel.mem (hM); exact Or.inr t_)) (by first | (refine Or.inl (And.intro ?_ (And.intro ?_ ?_)) <;> first | (simp only [List.mem_cons, List.not_mem_nil, or_false, forall_eq_or_imp, forall_eq, false_implies, implies_true, and_true] <;> omega) | (repeat' (first | exact True.intro | rfl | refine And.intro ?_ ?_ | (rw [sv_ne _ _ _ _ (by omega)]) | (rw [up_cell _ _ _ (by omega)]) | (rw [fil_cell _ _ _ _ _ (by omega)]) | (rw [hM _ (by omega)]) | (rw [hm _ (by omega)])))) | (have t_ := Rel.sched (hM); exact Or.inr t_)) (by first | (refine Or.inl (And.intro ?_ (And.intro ?_ ?_)) <;> first | (simp only [List.mem_cons, List.not_mem_nil, or_false, forall_eq_or_imp, forall_eq, false_implies, implies_true, and_true] <;> omega) | (repeat' (first | exact True.intro | rfl | refine And.intro ?_ ?_ | (rw [sv_ne _ _ _ _ (by omega)]) | (rw [up_cell _ _ _ (by omega)]) | (rw [fil_cell _ _ _ _ _ (by omega)]) | (rw [hM _ (by omega)]) | (rw [hm _ (by omega)])))) | (have t_ := Rel.done (hM); exact Or.inr t_)) (by first | (refine Or.inl (And.intro ?_ (And.intro ?_ ?_)) <;> first | (simp only [List.mem_cons, List.not_mem_nil, or_false, forall_eq_or_imp, forall_eq, false_implies, implies_true, and_true] <;> omega) | (repeat' (first | exact True.intro | rfl | refine And.intro ?_ ?_ | (rw [sv_ne _ _ _ _ (by omega)]) | (rw [up_cell _ _ _ (by omega)]) | (rw [fil_cell _ _ _ _ _ (by omega)]) | (rw [hM _ (by omega)]) | (rw [hm _ (by omega)])))) | (have t_ := Rel.levels (hM); exact Or.inr t_)) (by first | (refine Or.inl (And.intro ?_ (And.intro ?_ ?_)) <;> first | (simp only [List.mem_cons, List.not_mem_nil, or_false, forall_eq_or_imp, forall_eq, false_implies, implies_true, and_true] <;> omega) | (repeat' (first | exact True.intro | rfl | refine And.intro ?_ ?_ | (rw [sv_ne _ _ _ _ (by omega)]) | (rw [up_cell _ _ _ (by omega)]) | (rw [fil_cell _ _ _ _ _ (by omega)]) | (rw [hM _ (by omega)]) | (rw [hm _ (by omega)])))) | (have t_ := Rel.places (hM); exact Or.inr t_)) (by first | (refine Or.inl (And.intro ?_ (And.intro ?_ ?_)) <;> first | (simp only [List.mem_cons, List.not_mem_nil, or_false, forall_eq_or_imp, forall_eq, false_implies, implies_true, and_true] <;> omega) | (repeat' (first | exact True.intro | rfl | refine And.intro ?_ ?_ | (rw [sv_ne _ _ _ _ (by omega)]) | (rw [up_cell _ _ _ (by omega)]) | (rw [fil_cell _ _ _ _ _ (by omega)]) | (rw [hM _ (by omega)]) | (rw [hm _ (by omega)])))) | (have t_ := Rel.asked (hM); exact Or.inr t_)) (by first | (refine Or.inl (And.intro ?_ (And.intro ?_ ?_)) <;> first | (simp only [List.mem_cons, List.not_mem_nil, or_false, forall_eq_or_imp, forall_eq, false_implies, implies_true, and_true] <;> omega) | (repeat' (first | exact True.intro | rfl | refine And.intro ?_ ?_ | (rw [sv_ne _ _ _ _ (by omega)]) | (rw [up_cell _ _ _ (by omega)]) | (rw [fil_cell _ _ _ _ _ (by omega)]) | (rw [hM _ (by omega)]) | (rw [hm _ (by omega)])))) | (have t_ := Rel.worder (hM); exact Or.inr t_)) (by first | (refine Or.inl (And.intro ?_ (And.intro ?_ ?_)) <;> first | (simp only [List.mem_cons, List.not_mem_nil, or_false, forall_eq_or_imp, forall_eq, false_implies, implies_true, and_true] <;> omega) | (repeat' (first | exact True.intro | rfl | refine And.intro ?_ ?_ | (rw [sv_ne _ _ _ _ (by omega)]) | (rw [up_cell _ _ _ (by omega)]) | (rw [fil_cell _ _ _ _ _ (by omega)]) | (rw [hM _ (by omega)]) | (rw [hm _ (by omega)])))) | (have t_ := Rel.rorder (hM); exact Or.inr t_)) (by first | (refine Or.inl (And.intro ?_ (And.intro ?_ ?_)) <;> first | (simp only [List.mem_cons, List.not_mem_nil, or_false, forall_eq_or_imp, forall_eq, false_implies, implies_true, and_true] <;> omega) | (repeat' (first | exact True.intro | rfl | refine And.intro ?_ ?_ | (rw [sv_ne _ _ _ _ (by omega)]) | (rw [up_cell _ _ _ (by omega)]) | (rw [fil_cell _ _ _ _ _ (by omega)]) | (rw [hM _ (by omega)]) | (rw [hm _ (by omega)])))) | (have t_ := Rel.ps (hM); exact Or.inr t_)) (by first | (refine Or.inl (And.intro ?_ (And.intro ?_ ?_)) <;> first | (simp only [List.mem_cons, List.not_mem_nil, or_false, forall_eq_or_imp, forall_eq, false_implies, implies_true, and_true] <;> omega) | (repeat' (first | exact True.intro | rfl | refine And.intro ?_ ?_ | (rw [sv_ne _ _ _ _ (by omega)]) | (rw [up_cell _ _ _ (by omega)]) | (rw [fil_cell _ _ _ _ _ (by omega)]) | (rw [hM _ (by omega)]) | (rw [hm _ (by omega)])))) | (have t_ := Rel.app (hM); exact Or.inr t_)) (by first | (refine Or.inl (And.intro ?_ (And.intro ?_ ?_)) <;> first | (simp only [List.mem_cons, List.not_mem_nil, or_false, forall_eq_or_imp, forall_eq, false_implies, implies_true, and_true] <;> omega) | (repeat' (first | exact True.intro | rfl | refine And.intro ?_ ?_ | (rw [sv_ne _ _ _ _ (by omega)]) | (rw [up_cell _ _ _ (by omega)]) | (rw [fil_cell _ _ _ _ _ (by omega)]) | (rw [hM _ (by omega)]) | (rw [hm _ (by omega)])))) | (have t_ := Rel.name (hM); exact Or.inr t_)) (by first | (refine Or.inl (And.intro ?_ (And.intro ?_ ?_)) <;> first | (simp only [List.mem_cons, List.not_mem_nil, or_false, forall_eq_or_imp, forall_eq, false_implies, implies_true, and_true] <;> omega) | (repeat' (first | exact True.intro | rfl | refine And.intro ?_ ?_ | (rw [sv_ne _ _ _ _ (by omega)]) | (rw [up_cell _ _ _ (by omega)]) | (rw [fil_cell _ _ _ _ _ (by omega)]) | (rw [hM _ (by omega)]) | (rw [hm _ (by omega)])))) | (have t_ := Rel.number (hM); exact Or.inr t_)) (by first | (refine Or.inl (And.intro ?_ (And.intro ?_ ?_)) <;> first | (simp only [List.mem_cons, List.not_mem_nil, or_false, forall_eq_or_imp, forall_eq, false_implies, implies_true, and_true] <;> omega) | (repeat' (first | exact True.intro | rfl | refine And.intro ?_ ?_ | (rw [sv_ne _ _ _ _ (by omega)]) | (rw [up_cell _ _ _ (by omega)]) | (rw [fil_cell _ _ _ _ _ (by omega)]) | (rw [hM _ (by omega)]) | (rw [hm _ (by omega)])))) | (have t_ := Rel.bits (hM); exact Or.inr t_)) (by first | (refine Or.inl (And.intro ?_ (And.intro ?_ ?_)) <;> first | (simp only [List.mem_cons, List.not_mem_nil, or_false, forall_eq_or_imp, forall_eq, false_implies, implies_true, and_true] <;> omega) | (repeat' (first | exact True.intro | rfl | refine And.intro ?_ ?_ | (rw [sv_ne _ _ _ _ (by omega)]) | (rw [up_cell _ _ _ (by omega)]) | (rw [fil_cell _ _ _ _ _ (by omega)]) | (rw [hM _ (by omega)]) | (rw [hm _ (by omega)])))) | (have t_ := Rel.regs (hM); exact Or.inr t_)) (by first | (refine Or.inl (And.intro ?_ (And.intro ?_ ?_)) <;> first | (simp only [List.mem_cons, List.not_mem_nil, or_false, forall_eq_or_imp, forall_eq, false_implies, implies_true, and_true] <;> omega) | (repeat' (first | exact True.intro | rfl | refine And.intro ?_ ?_ | (rw [sv_ne _ _ _ _ (by omega)]) | (rw [up_cell _ _ _ (by omega)]) | (rw [fil_cell _ _ _ _ _ (by omega)]) | (rw [hM _ (by omega)]) | (rw [hm _ (by omega)])))) | (have t_ := Rel.rsv (hM); exact Or.inr t_)) (by first | (refine Or.inl (And.intro ?_ (And.intro ?_ ?_)) <;> first | (simp only [List.mem_cons, List.not_mem_nil, or_false, forall_eq_or_imp, forall_eq, false_implies, implies_true, and_true] <;> omega) | (repeat' (first | exact True.intro | rfl | refine And.intro ?_ ?_ | (rw [sv_ne _ _ _ _ (by omega)]) | (rw [up_cell _ _ _ (by omega)]) | (rw [fil_cell _ _ _ _ _ (by omega)]) | (rw [hM _ (by omega)]) | (rw [hm _ (by omega)])))) | (have t_ := Rel.queue (hM); exact Or.inr t_)) (by first | (refine Or.inl (And.intro ?_ (And.intro ?_ ?_)) <;> first | (simp only [List.mem_cons, List.not_mem_nil, or_false, forall_eq_or_imp, forall_eq, false_implies, implies_true, and_true] <;> omega) | (repeat' (first | exact True.intro | rfl | refine And.intro ?_ ?_ | (rw [sv_ne _ _ _ _ (by omega)]) | (rw [up_cell _ _ _ (by omega)]) | (rw [fil_cell _ _ _ _ _ (by omega)]) | (rw [hM _ (by omega)]) | (rw [hm _ (by omega)])))) | (have t_ := Rel.ctlw (hM); exact Or.inr t_)) (by first | (refine Or.inl (And.intro ?_ (And.intro ?_ ?_)) <;> first | (simp only [List.mem_cons, List.not_mem_nil, or_false, forall_eq_or_imp, forall_eq, false_implies, implies_true, and_true] <;> omega) | (repeat' (first | exact True.intro | rfl | refine And.intro ?_ ?_ | (rw [sv_ne _ _ _ _ (by omega)]) | (rw [up_cell _ _ _ (by omega)]) | (rw [fil_cell _ _ _ _ _ (by omega)]) | (rw [hM _ (by omega)]) | (rw [hm _ (by omega)])))) | (have t_ := Rel.wt (hM); exact Or.inr t_)))
