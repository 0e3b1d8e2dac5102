/-! The post: send. -/
theorem lst_min {a b : Int32} (ha : 0 ≤ a.toInt) (hb : 0 ≤ b.toInt) : lst a b = it_min a b := by
  have := thi a
  have := thi b
  unfold lst it_min
  by_cases q : ult a b
  · rw [if_pos q]
    unfold ult at q
    rw [if_neg (by rw [Int32.lt_iff_toInt_lt]; omega)]
  · rw [if_neg q]
    unfold ult at q
    by_cases e : b < a
    · rw [if_pos e]
    · rw [if_neg e]
      rw [Int32.lt_iff_toInt_lt] at e
      exact Int32.toInt_inj.mp (by omega)
theorem gw_own {m m' : it_Me} {B : Nat} (hI : Inv B m) {i j d k : Nat} (hi : i < cnt m) (hj : j < cnt m) (hd : d < 9) (hg : m (14 + 5 * i + 4) d ≠ 0) (hk : k < gsz d) (hw : ∀ w, m' 2 w ≠ m 2 w → (m (14 + 5 * j) 5).toInt ≤ 65536 + 4 * (w : Int) ∧ 65536 + 4 * (w : Int) < (m (14 + 5 * j) 8).toInt) : gw m' (m (14 + 5 * i + 4) d + nI k) = gw m (m (14 + 5 * i + 4) d + nI k) := by
  have g := (hI.p hi).gI hd hg
  have o := (hI.p hi).ord
  have oj := (hI.p hj).ord
  have cj := (hI.p hj).ctlI
  have ci := (hI.p hi).ctlI
  have aX := gadr hI hi hd hg hk
  have w1 := wi_eq aX.2.1
  rw [gw_in aX.2.1, gw_in aX.2.1]
  refine Classical.byContradiction fun q => ?_
  have := hw _ q
  have on := on_of hI hi
  by_cases e : i = j
  · subst e; omega
  · rcases Nat.lt_or_gt_of_ne e with l | l
    · have := hI.dis on i j hj l
      omega
    · have := hI.dis on j i hi l
      omega
theorem d_send {kc : it_Kc} (hk : KC kc) {B : Nat} {m : it_Me} (hI : Inv B m) (hB : B < 2147483000) {i : Nat} (hi : i < cnt m) (hg : m (14 + 5 * i + 4) 7 ≠ 0) (v w : Int32) : Lv (w_65 kc (14 + 5 * i) v w) (w_307 kc (nI i) (m (14 + 5 * i + 4) 7) v w) (B + 1) m (Kq m) := by
  have h8 := cnt_le hI
  have i8 : i < 8 := by omega
  have z : owA 7 = 32 ∧ gsz 7 = 36 ∧ sbN 7 = 1 ∧ rbN 7 = 1 ∧ wbN 7 = 1 := by decide
  have bad : Lv (fun m Φ => w_65_58 kc Φ (14 + 5 * i) m) (fun M Φ => w_307_64 kc Φ (nI i) M) B m (Kp m) := lv_fail (kc := kc) hI hi 11
  obtain ⟨mb, x1, x2, x3, x4, x5⟩ := bad
  dsimp only at x1 x5
  have e1 : (-1 : Int32) = -1 := rfl
  have r38 : ∀ M, Rel m M → ∀ Φ, w_307_64 kc Φ (nI i) M → w_307_38 kc Φ (nI i) (m (14 + 5 * i + 4) 7) v w M := fun M hM Φ h => by
    unfold w_307_38 w_307_39
    exact ⟨fun _ => h, fun q => absurd rfl q⟩
  rcases pr_cases hI v with hv | ⟨j, hj, ev⟩
  · refine ⟨mb, fun Φ h => ?_, x2.mono (by omega), x3, x4.q, fun M hM Φ h => ?_⟩
    · unfold w_65
      exact c_72n hv (cm_none (x1 Φ h))
    · unfold w_307
      exact r_341n hM hv ⟨fun _ => r38 M hM Φ (x5 M hM Φ h), fun q => absurd rfl q⟩
  have j8 : j < 8 := by omega
  have ej : v = nI j := Int32.toInt_inj.mp (by rw [nI_toInt (by omega)]; exact ev)
  subst ej
  have c7 : Int32.toNatClampNeg (7 : Int32) = 7 := rfl
  have v97 : vp_in 7 9 := by rw [vp_in_iff]; decide
  by_cases ho : m (14 + 5 * j) 9 = 4 ∨ m (14 + 5 * j) 9 = 5
  · refine ⟨mb, fun Φ h => ?_, x2.mono (by omega), x3, x4.q, fun M hM Φ h => ?_⟩
    · unfold w_65
      exact c_72s hI hj ev (cm_some (c_131o ho ⟨fun q => absurd q (by decide), fun _ => x1 Φ h⟩))
    · have f := r38 M hM Φ (x5 M hM Φ h)
      unfold w_307
      refine r_341s hI hM hj ev ⟨fun q => absurd q (by decide), fun _ => ⟨vI j8, ?_⟩⟩
      rw [nI_clamp (by omega), hM.state hj]
      exact ⟨fun _ => f, fun q => ⟨vI j8, fun _ => f, fun q2 => absurd ho (fun y => y.elim q q2)⟩⟩
  have n4 : ¬ m (14 + 5 * j) 9 = 4 := fun q => ho (Or.inl q)
  have n5 : ¬ m (14 + 5 * j) 9 = 5 := fun q => ho (Or.inr q)
  have ref : ∀ M, Rel m M → ∀ Φ, w_307_39 kc Φ (nI i) (m (14 + 5 * i + 4) 7) (nI j) w (if m (14 + 5 * j + 4) 7 = 0 then -1 else m (14 + 5 * j + 4) 7) M → w_307 kc (nI i) (m (14 + 5 * i + 4) 7) (nI j) w M Φ := fun M hM Φ h => by
    unfold w_307
    refine r_341s hI hM hj ev ⟨fun q => absurd q (by decide), fun _ => ⟨vI j8, ?_⟩⟩
    rw [nI_clamp (by omega), hM.state hj]
    exact ⟨fun q => absurd q n4, fun _ => ⟨vI j8, fun q => absurd q n5, fun _ => r_272 hI hM hj (d := 7) (by omega) h⟩⟩
  by_cases hgj : m (14 + 5 * j + 4) 7 = 0
  · refine ⟨mb, fun Φ h => ?_, x2.mono (by omega), x3, x4.q, fun M hM Φ h => ref M hM Φ ?_⟩
    · unfold w_65
      refine c_72s hI hj ev (cm_some (c_131n n4 n5 ⟨fun _ => ⟨v97, ?_⟩, fun q => absurd rfl q⟩))
      rw [c7]
      exact ⟨fun _ => x1 Φ h, fun q => absurd hgj q⟩
    · rw [if_pos hgj]
      unfold w_307_39
      exact ⟨fun _ => x5 M hM Φ h, fun q => absurd rfl q⟩
  have g1 := gN1 (hI.p hj) (d := 7) (by omega) hgj
  by_cases hl0 : gw m (m (14 + 5 * j + 4) 7 + nI 28) = 0
  · refine ⟨mb, fun Φ h => ?_, x2.mono (by omega), x3, x4.q, fun M hM Φ h => ref M hM Φ ?_⟩
    · unfold w_65
      refine c_72s hI hj ev (cm_some (c_131n n4 n5 ⟨fun _ => ⟨v97, ?_⟩, fun q => absurd rfl q⟩))
      rw [c7]
      refine ⟨fun q => absurd q hgj, fun _ => c_89 hk (d := 7) (n := 0) (by omega) (c_12 ?_)⟩
      rw [ga4]
      exact ⟨fun _ => x1 Φ h, fun q => absurd hl0 q⟩
    · rw [if_neg hgj]
      unfold w_307_39
      refine ⟨fun q => absurd q g1, fun _ => r_271 (d := 7) (k := 0) (by omega) ?_⟩
      rw [ga4]
      exact r_220g hI hM hj (d := 7) (k := 28) (by omega) hgj (by omega) (by omega) ⟨fun _ => x5 M hM Φ h, fun q => absurd hl0 q⟩
  have eij : (14 + 5 * j = 14 + 5 * i ↔ j = i) := by omega
  have eij2 : (nI j = nI i ↔ j = i) := by
    refine ⟨fun q => ?_, fun q => by rw [q]⟩
    have a1 := nI_toInt (n := j) (by omega)
    have a2 := nI_toInt (n := i) (by omega)
    rw [q] at a1
    omega
  by_cases hij : j = i
  · obtain ⟨m', c1, c2, c3, c4, c5⟩ := lv_fail (kc := kc) hI hi 6
    refine ⟨m', fun Φ h => ?_, c2.mono (by omega), c3, c4.q, fun M hM Φ h => ref M hM Φ ?_⟩
    · unfold w_65
      refine c_72s hI hj ev (cm_some (c_131n n4 n5 ⟨fun _ => ⟨v97, ?_⟩, fun q => absurd rfl q⟩))
      rw [c7]
      refine ⟨fun q => absurd q hgj, fun _ => c_89 hk (d := 7) (n := 0) (by omega) (c_12 ?_)⟩
      rw [ga4]
      exact ⟨fun q => absurd q hl0, fun _ => c_90 hk (d := 7) (by omega) ⟨fun _ => c1 _ h, fun q => absurd (eij.2 hij) q⟩⟩
    · rw [if_neg hgj]
      unfold w_307_39
      refine ⟨fun q => absurd q g1, fun _ => r_271 (d := 7) (k := 0) (by omega) ?_⟩
      rw [ga4]
      exact r_220g hI hM hj (d := 7) (k := 28) (by omega) hgj (by omega) (by omega) ⟨fun q => absurd q hl0, fun _ => ⟨fun _ => c5 M hM _ h, fun q => absurd (eij2.2 hij) q⟩⟩
  by_cases hw0 : gw m (m (14 + 5 * j + 4) 7 + nI 32) = 0
  · have lI : 0 ≤ (gw m (m (14 + 5 * i + 4) 7 + nI 20)).toInt ∧ (gw m (m (14 + 5 * i + 4) 7 + nI 20)).toInt ≤ 65536 := bfN hI hi (d := 7) (k := 0) (by omega) hg (by omega)
    have lJ : 0 ≤ (gw m (m (14 + 5 * j + 4) 7 + nI 28)).toInt ∧ (gw m (m (14 + 5 * j + 4) 7 + nI 28)).toInt ≤ 65536 := bfN hI hj (d := 7) (k := 1) (by omega) hgj (by omega)
    have l1 := lst_I (a := w) lI.1
    have l2 := lst_I (a := lst w (gw m (m (14 + 5 * i + 4) 7 + nI 20))) lJ.1
    have lm : lst (lst w (gw m (m (14 + 5 * i + 4) 7 + nI 20))) (gw m (m (14 + 5 * j + 4) 7 + nI 28)) = it_min (lst w (gw m (m (14 + 5 * i + 4) 7 + nI 20))) (gw m (m (14 + 5 * j + 4) 7 + nI 28)) := lst_min l1.1 lJ.1
    have l3 : (lst (lst w (gw m (m (14 + 5 * i + 4) 7 + nI 20))) (gw m (m (14 + 5 * j + 4) 7 + nI 28))).toInt ≤ (lst w (gw m (m (14 + 5 * i + 4) 7 + nI 20))).toInt := by
      rw [lm]
      unfold it_min
      split
      · rename_i q; rw [Int32.lt_iff_toInt_lt] at q; omega
      · exact Int.le_refl _
    obtain ⟨m1, a1, a2, a3, a4, a6, a5⟩ := cpL (kc := kc) (j := j) (s := gw m (m (14 + 5 * i + 4) 7 + nI 16)) (d := gw m (m (14 + 5 * j + 4) 7 + nI 24)) (n := lst (lst w (gw m (m (14 + 5 * i + 4) 7 + nI 20))) (gw m (m (14 + 5 * j + 4) 7 + nI 28))) _ 0 m hI hj (Nat.zero_add _) (fun x hx => (bfA hI hj (d := 7) (k := 1) (by omega) hgj (by omega) l2.2 x hx).2.2 (by omega)) (fun x hx => by
      have := bfA hI hi (d := 7) (k := 0) (by omega) hg (by omega) (n := lst (lst w (gw m (m (14 + 5 * i + 4) 7 + nI 20))) (gw m (m (14 + 5 * j + 4) 7 + nI 28))) (Int.le_trans l3 l1.2) x hx
      exact ⟨this.1, this.2.1⟩)
    have ct1 : cnt m1 = cnt m := cnt_cg (by rw [a4 9 (by omega)])
    have gj1 : m1 (14 + 5 * j + 4) = m (14 + 5 * j + 4) := a4 _ (by omega)
    have sj1 : m1 (14 + 5 * j) = m (14 + 5 * j) := a4 _ (by omega)
    obtain ⟨b1, b2, b3⟩ := lv_w (kc := kc) a2 (i := j) (d := 7) (k := 32) (by rw [ct1]; exact hj) (by omega) (by omega) (by rw [gj1]; exact hgj) (by omega) (v := 1) (fun q => by rw [sj1] at q; exact absurd q ho) (fun e => absurd e (by omega))
    rw [gj1] at b1 b2 b3
    obtain ⟨m3, d1, d2, d3, d4, d5⟩ := lv_ok1 (kc := kc) b1 (i := i) (by rw [cnt_pw, ct1]; exact hi) (lst (lst w (gw m (m (14 + 5 * i + 4) 7 + nI 20))) (gw m (m (14 + 5 * j + 4) 7 + nI 28)))
    have ct3 : cnt m3 = cnt m := by rw [d4.cnt, cnt_pw, ct1]
    obtain ⟨m', f1, f2, f3, f4, f5⟩ := sd hk d2 hB (i := j) (d := 7) (n := 0) (by rw [ct3]; exact hj) (by omega) (by omega) (nI i) (lst (lst w (gw m (m (14 + 5 * i + 4) 7 + nI 20))) (gw m (m (14 + 5 * j + 4) 7 + nI 28))) 0
    refine ⟨m', fun Φ h => ?_, f2, ((a3.trans (FrC.rfl.pwF _ _)).trans d3).trans f3, Kq.trans (Kq.trans (Kq.trans ⟨a4 0 (by omega), a4 9 (by omega)⟩ (Kp.rfl.pwK _ _).q) d4.q) f4.q, fun M hM Φ h => ref M hM Φ ?_⟩
    · unfold w_65
      refine c_72s hI hj ev (cm_some (c_131n n4 n5 ⟨fun _ => ⟨v97, ?_⟩, fun q => absurd rfl q⟩))
      rw [c7]
      refine ⟨fun q => absurd q hgj, fun _ => c_89 hk (d := 7) (n := 0) (by omega) (c_12 ?_)⟩
      rw [ga4]
      refine ⟨fun q => absurd q hl0, fun _ => c_90 hk (d := 7) (by omega) ⟨fun q => absurd (eij.1 q) hij, fun _ => c_12 ⟨fun _ => c_88 hk (d := 7) (n := 0) (by omega) (c_89 hk (d := 7) (n := 0) (by omega) (c_12 (c_214 (c_12 (c_214 (c_12 (c_12 ?_))))))), fun q => absurd hw0 q⟩⟩⟩
      rw [ga4, ga4]
      unfold w_19
      refine ⟨_, a1 _ _ ?_⟩
      unfold w_19_31
      refine b2 _ (d1 _ ?_)
      rw [d2.num i i8]
      exact f1 _ h
    · rw [if_neg hgj]
      unfold w_307_39
      refine ⟨fun q => absurd q g1, fun _ => r_271 (d := 7) (k := 0) (by omega) ?_⟩
      rw [ga4]
      refine r_220g hI hM hj (d := 7) (k := 28) (by omega) hgj (by omega) (by omega) ⟨fun q => absurd q hl0, fun _ => ⟨fun q => absurd (eij2.1 q) hij, fun _ => r_269 (d := 7) (by omega) (r_220g hI hM hj (d := 7) (k := 32) (by omega) hgj (by omega) (by omega) ⟨fun _ => r_270 (d := 7) (k := 0) (by omega) ?_, fun q => absurd hw0 q⟩)⟩⟩
      rw [ga4]
      refine r_220g hI hM hi (d := 7) (k := 20) (by omega) hg (by omega) (by omega) (r_297 lI.1 (r_271 (d := 7) (k := 0) (by omega) ?_))
      rw [ga4]
      refine r_220g hI hM hj (d := 7) (k := 28) (by omega) hgj (by omega) (by omega) (r_270 (d := 7) (k := 0) (by omega) (r_220g hI hM hi (d := 7) (k := 16) (by omega) hg (by omega) (by omega) (r_271 (d := 7) (k := 0) (by omega) (r_220g hI hM hj (d := 7) (k := 24) (by omega) hgj (by omega) (by omega) ?_))))
      rw [← lm]
      refine ⟨_, a5 M hM _ _ _ _ _ (fun M1 r1 k1 => ?_)⟩
      have R2 := b3 M1 r1
      unfold w_307_216
      exact r_269 (d := 7) (by omega) (R2.2 _ (d5 _ R2.1 _ (fun M3 r3 k3 => f5 M3 r3 _ (fun M' r f => h M' r (((k1.trans (FrM.rfl.pwF _ _)).trans k3).trans f)))))
  · obtain ⟨m', c1, c2, c3, c4, c5⟩ := lv_fail (kc := kc) hI hi 2
    refine ⟨m', fun Φ h => ?_, c2.mono (by omega), c3, c4.q, fun M hM Φ h => ref M hM Φ ?_⟩
    · unfold w_65
      refine c_72s hI hj ev (cm_some (c_131n n4 n5 ⟨fun _ => ⟨v97, ?_⟩, fun q => absurd rfl q⟩))
      rw [c7]
      refine ⟨fun q => absurd q hgj, fun _ => c_89 hk (d := 7) (n := 0) (by omega) (c_12 ?_)⟩
      rw [ga4]
      exact ⟨fun q => absurd q hl0, fun _ => c_90 hk (d := 7) (by omega) ⟨fun q => absurd (eij.1 q) hij, fun _ => c_12 ⟨fun q => absurd q hw0, fun _ => c1 _ h⟩⟩⟩
    · rw [if_neg hgj]
      unfold w_307_39
      refine ⟨fun q => absurd q g1, fun _ => r_271 (d := 7) (k := 0) (by omega) ?_⟩
      rw [ga4]
      exact r_220g hI hM hj (d := 7) (k := 28) (by omega) hgj (by omega) (by omega) ⟨fun q => absurd q hl0, fun _ => ⟨fun q => absurd (eij2.1 q) hij, fun _ => r_269 (d := 7) (by omega) (r_220g hI hM hj (d := 7) (k := 32) (by omega) hgj (by omega) (by omega) ⟨fun q => absurd q hw0, fun _ => c5 M hM _ h⟩)⟩⟩
theorem d_post {kc : it_Kc} (hk : KC kc) {B : Nat} {m : it_Me} (hI : Inv B m) (hB : B < 2147483000) {i : Nat} (hi : i < cnt m) (hg : m (14 + 5 * i + 4) 7 ≠ 0) (c v w : Int32) : Lv (w_64 kc (14 + 5 * i) c v w) (w_305 kc (nI i) (m (14 + 5 * i + 4) 7) c v w) (B + 1) m (Kq m) := by
  have z : owA 7 = 32 ∧ gsz 7 = 36 := by decide
  by_cases a1 : c = 1
  · obtain ⟨m', c1, c2, c3, c4, c5⟩ := d_send hk hI hB hi hg v w
    refine ⟨m', fun Φ h => ?_, c2, c3, c4, fun M hM Φ h => ?_⟩
    · unfold w_64
      exact ⟨fun _ => c1 _ h, fun q => absurd a1 q⟩
    · unfold w_305
      exact ⟨fun _ => c5 M hM _ h, fun q => absurd a1 q⟩
  by_cases a2 : c = 2
  · by_cases y : gw m (m (14 + 5 * i + 4) 7 + nI 32) = 0
    · obtain ⟨m', c1, c2, c3, c4, c5⟩ := lv_fail (kc := kc) hI hi 3
      refine ⟨m', fun Φ h => ?_, c2.mono (by omega), c3, c4.q, fun M hM Φ h => ?_⟩
      · unfold w_64 w_44
        exact ⟨fun q => absurd q a1, fun _ => ⟨fun _ => c_90 hk (d := 7) (by omega) (c_12 ⟨fun _ => c1 _ h, fun q => absurd y q⟩), fun q => absurd a2 q⟩⟩
      · unfold w_305
        exact ⟨fun q => absurd q a1, fun _ => ⟨fun _ => r_269 (d := 7) (by omega) (r_220g hI hM hi (d := 7) (k := 32) (by omega) hg (by omega) (by omega) ⟨fun _ => c5 M hM _ h, fun q => absurd y q⟩), fun q => absurd a2 q⟩⟩
    · obtain ⟨b1, b2, b3⟩ := lv_w (kc := kc) hI hi (d := 7) (k := 32) (by omega) (by omega) hg (by omega) (v := 0) (fun _ => rfl) (fun e => absurd e (by omega))
      obtain ⟨m', c1, c2, c3, c4, c5⟩ := lv_ok (kc := kc) b1 (i := i) (by rw [cnt_pw]; exact hi)
      refine ⟨m', fun Φ h => ?_, c2.mono (by omega), FrC.trans (FrC.rfl.pwF _ _) c3, ((Kp.rfl.pwK _ _).trans c4).q, fun M hM Φ h => ?_⟩
      · unfold w_64 w_44
        exact ⟨fun q => absurd q a1, fun _ => ⟨fun _ => c_90 hk (d := 7) (by omega) (c_12 ⟨fun q => absurd q y, fun _ => b2 _ (c1 _ h)⟩), fun q => absurd a2 q⟩⟩
      · unfold w_305
        exact ⟨fun q => absurd q a1, fun _ => ⟨fun _ => r_269 (d := 7) (by omega) (r_220g hI hM hi (d := 7) (k := 32) (by omega) hg (by omega) (by omega) ⟨fun q => absurd q y, fun _ => r_269 (d := 7) (by omega) ((b3 M hM).2 _ (c5 _ (b3 M hM).1 _ (fun M' r f => h M' r (FrM.trans (FrM.rfl.pwF _ _) f))))⟩), fun q => absurd a2 q⟩⟩
  · obtain ⟨m', c1, c2, c3, c4, c5⟩ := d_find (kc := kc) hk hI hi hg v
    refine ⟨m', fun Φ h => ?_, c2.mono (by omega), c3, c4.q, fun M hM Φ h => ?_⟩
    · unfold w_64
      exact ⟨fun q => absurd q a1, fun _ => ⟨fun q => absurd q a2, fun _ => c1 _ h⟩⟩
    · unfold w_305
      exact ⟨fun q => absurd q a1, fun _ => ⟨fun q => absurd q a2, fun _ => c5 M hM _ h⟩⟩
