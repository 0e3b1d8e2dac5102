/-! The store's commands; what is stored. -/
theorem ap {kc : it_Kc} (hk : KC kc) {B : Nat} {m : it_Me} (hI : Inv B m) (hB : B < 2147483000) {i : Nat} (hi : i < cnt m) (e n key : Int32) : Lv (w_60 kc (14 + 5 * i) e n key) (fun M Φ => (M 66 4 = 0 → w_280 kc (nI i) M (fun m1 => w_274 kc (nI i) 5 0 e n key m1 Φ)) ∧ (¬ M 66 4 = 0 → Φ M)) (B + 1) m (Kq m) := by
  by_cases q : m 7 4 = 0
  · obtain ⟨m1, a1, a2, a3, a4, a5⟩ := lv_ok (kc := kc) hI hi
    obtain ⟨m', b1, b2, b3, b4, b5⟩ := sd hk a2 hB (i := i) (d := 5) (n := 0) (by rw [a4.cnt]; exact hi) (by omega) (by decide) e n key
    refine ⟨m', fun Φ h => ?_, b2, a3.trans b3, (a4.trans b4).q, fun M hM Φ h => ⟨fun _ => a5 M hM _ (fun M1 r1 f1 => b5 M1 r1 _ (fun M' r f => h M' r (f1.trans f))), fun y => absurd (hM.lost.trans q) y⟩⟩
    unfold w_60 w_60_28
    exact ⟨fun _ => a1 _ (b1 _ h), fun y => absurd q y⟩
  · refine ⟨m, fun Φ h => ?_, hI.mono (by omega), FrC.rfl, ⟨rfl, rfl⟩, fun M hM Φ h => ⟨fun y => absurd (hM.lost.symm.trans y) q, fun _ => h M hM FrM.rfl⟩⟩
    unfold w_60 w_60_28
    exact ⟨fun y => absurd y q, fun _ => h⟩
theorem cpL2 {kc : it_Kc} {j A : Nat} {d n : Int32} (v1 v4 v8 : Int32) : ∀ (r k : Nat) {B : Nat} (m : it_Me), Inv B m → j < cnt m → k + r = n.toInt.toNat → (∀ x : Nat, (x : Int) < n.toInt → (m (14 + 5 * j) 5).toInt ≤ (d + nI x).toInt ∧ (d + nI x).toInt < (m (14 + 5 * j) 7).toInt) → (∀ x : Nat, (x : Int) < n.toInt → InM (nI (A + 12) + nI x) ∧ ¬ excl m (wi (nI (A + 12) + nI x))) → ∃ m', (∀ (Φ K : it_Me → Prop), K m' → w_19_3 kc Φ K (r + 1) (nI (A + 12)) d n (nI k) m) ∧ Inv B m' ∧ FrC m m' ∧ (∀ c, c ≠ 2 → m' c = m c) ∧ ∀ M, Rel m M → ∀ (Φ : it_Me → Prop) (K : Int32 → Int32 → Int32 → Int32 → it_Me → Prop), (∀ M', Rel m' M' → FrM M M' → K v1 v4 (nI A) v8 M') → w_303_82 kc Φ K (r + 1) v1 v4 (nI A) v8 n d (nI k) M := by
  intro r
  induction r with
  | zero =>
    intro k B m hI hi hr ha hs
    refine ⟨m, fun Φ K h => ?_, hI, FrC.rfl, fun _ _ => rfl, fun M hM Φ K h => ?_⟩
    · unfold w_19_3
      exact ⟨fun _ => h, fun q => absurd ((crN hr).2 rfl) q⟩
    · unfold w_303_82
      exact ⟨fun _ => h M hM FrM.rfl, fun q => absurd ((crN hr).2 rfl) q⟩
  | succ r ih =>
    intro k B m hI hi hr ha hs
    have hA := ha k (by omega)
    have hS := hs k (by omega)
    obtain ⟨o1, o2, o3⟩ := own_b hI hi hA (gb m (nI (A + 12) + nI k))
    have pc : ∀ c, c ≠ 2 → pb m (d + nI k) (gb m (nI (A + 12) + nI k)) c = m c := fun c x1 => by rw [pb_c _ _ _ x1]
    have ex : ∀ w, excl (pb m (d + nI k) (gb m (nI (A + 12) + nI k))) w ↔ excl m w := excl_cg (by rw [pc 9 (by omega)]) (fun i _ => pc _ (by omega))
    obtain ⟨m', b1, b2, b3, b4, b5⟩ := ih (k + 1) _ o2 (by rw [cnt_cg (by rw [pc 9 (by omega)])]; exact hi) (by omega) (by rw [pc _ (by omega)]; exact ha) (fun x hx => by rw [ex]; exact hs x hx)
    have nle : ¬ n ≤ nI k := fun q => absurd ((crN hr).1 q) (by omega)
    refine ⟨m', fun Φ K h => ?_, b2, FrC.trans (fun c hc => pc c (by omega)) b3, fun c x1 => (b4 c x1).trans (pc c x1), fun M hM Φ K h => ?_⟩
    · unfold w_19_3
      rw [nI_1]
      exact ⟨fun q => absurd q nle, fun _ => c_16 (c_17 (b1 Φ K h))⟩
    · unfold w_303_82
      have gS := gb_i2b hM hS.1 hS.2
      rw [n_12, nI_1, gS.1, i2b_i2b]
      refine ⟨fun q => absurd q nle, fun _ => ⟨gS.2, ?_, b5 _ (o3 _ hM) Φ K (fun M' r f => h M' r (FrM.trans (FrM.rfl.sv (by omega)) f))⟩⟩
      rw [vp_in_iff]
      exact ⟨by have := o1.1; omega, o1.2⟩
theorem lst0 {b : Int32} (hb : 0 ≤ b.toInt) : lst 0 b = 0 := by
  have := thi b
  have z0 : (0 : Int32).toInt = 0 := rfl
  unfold lst
  by_cases q : ult 0 b
  · rw [if_pos q]
  · rw [if_neg q]
    unfold ult at q
    exact Int32.toInt_inj.mp (by omega)
theorem fdO_in {m : it_Me} {x y : Int32} {l : List Nat} {A : Nat} (h : fdO m x y l = some A) : A ∈ l ∧ ¬ gw m (nI (A + 8)) = 255 := by
  unfold fdO at h
  cases hq : lastM m x y l none with
  | none => rw [hq] at h; cases h
  | some C =>
    rw [hq] at h
    dsimp only at h
    by_cases e : gw m (nI (C + 8)) = 255
    · rw [if_pos e] at h; cases h
    · rw [if_neg e] at h
      cases h
      refine ⟨?_, e⟩
      rcases lastM_in m x y _ _ A hq with y | y
      · exact y
      · cases y
/-- the record that is found -/
theorem fdR {m : it_Me} {b : Nat} (hb : b = 126976 ∨ b = 129024) {x y : Int32} {ss : List Nat} (hW : Wk m b (b + 4) ss) {A : Nat} (h : fdO m x y (pls (b + 4) ss) = some A) : ∃ L, L ≤ 32 ∧ gw m (nI (A + 8)) = nI L ∧ 126976 ≤ A ∧ A % 4 = 0 ∧ A + 16 + L ≤ 131072 := by
  have hB := bkR hb
  obtain ⟨h1, h2⟩ := fdO_in h
  obtain ⟨p1, p2, s, p3⟩ := pls_in ss (b + 4) hW (by omega) A h1
  rcases okC p3.2.2.1 with e | ⟨k, hk, e⟩
  · exact absurd e h2
  · have hs := p3.2.2.2.1
    have he := p3.2.2.2.2.1
    rw [e, szK hk] at hs
    exact ⟨k, by omega, e, by omega, by omega, by omega⟩
theorem d_store {kc : it_Kc} (hk : KC kc) {B : Nat} {m : it_Me} (hI : Inv B m) (hB : B < 2147483000) (hl : m 7 4 = 0) {i : Nat} (hi : i < cnt m) (hg : m (14 + 5 * i + 4) 5 ≠ 0) (hn : m (14 + 5 * i + 1) 12 ≠ 0) (c v w : Int32) : Lv (w_56 kc (14 + 5 * i) c v w) (w_303 kc (nI i) (m (14 + 5 * i + 4) 5) c v w) (B + 1) m (Kq m) := by
  have h8 := cnt_le hI
  have i8 : i < 8 := by omega
  have on := on_of hI hi
  have hb0 := hI.bk1 on
  have hP := hI.p hi
  have z : gsz 5 = 32 ∧ sbN 5 = 1 ∧ rbN 5 = 1 ∧ wbN 5 = 1 := by decide
  have so : 65536 ≤ (m (14 + 5 * i + 1) 12).toInt ∧ (m (14 + 5 * i + 1) 12).toInt % 4 = 0 ∧ (m (14 + 5 * i + 1) 12).toInt + 4 ≤ 126976 := by
    rcases hP.so with q | q
    · exact absurd q hn
    · exact q
  have nA := nexA hI (a := m (14 + 5 * i + 1) 12) (Or.inl ⟨so.1, by omega⟩)
  have pre : ∀ M, Rel m M → ∀ Φ, ((c = 1 → w_239 kc (gw m (m (14 + 5 * i + 1) 12)) v M (fun r3 m4 => (r3 = (-1 : Int32) → w_303_46 kc Φ (nI i) (m (14 + 5 * i + 4) 5) v r3 (0 : Int32) m4) ∧ (¬ r3 = (-1 : Int32) → w_220 kc (r3 + (8 : Int32)) m4 (fun r5 m6 => w_303_46 kc Φ (nI i) (m (14 + 5 * i + 4) 5) v r3 r5 m6)))) ∧ (¬ c = 1 → (c = 2 → (0 < (lg_cmp ((Int32.toInt64 w) &&& (4294967295 : Int64)) (32 : Int64)) → w_303_185 kc Φ (nI i) M) ∧ (¬ 0 < (lg_cmp ((Int32.toInt64 w) &&& (4294967295 : Int64)) (32 : Int64)) → w_270 kc (m (14 + 5 * i + 4) 5) (5 : Int32) (0 : Int32) M (fun r7 m8 => w_220 kc (r7 + (4 : Int32)) m8 (fun r9 m10 => (w ≤ r9 → w_270 kc (m (14 + 5 * i + 4) 5) (5 : Int32) (0 : Int32) m10 (fun r11 m12 => w_220 kc r11 m12 (fun r13 m14 => w_242 kc (gw m (m (14 + 5 * i + 1) 12)) v w r13 m14 (fun r15 m16 => ((m16 66 4) = 0 → w_280 kc (nI i) m16 (fun m17 => (r15 = 0 → w_303_242 kc Φ v w (nI i) (5 : Int32) (0 : Int32) (9 : Int32) m17) ∧ (¬ r15 = 0 → w_303_242 kc Φ v w (nI i) (5 : Int32) (0 : Int32) (0 : Int32) m17))) ∧ (¬ (m16 66 4) = 0 → w_303_249 kc Φ m16))))) ∧ (¬ w ≤ r9 → w_303_185 kc Φ (nI i) m10))))) ∧ (¬ c = 2 → w_239 kc (gw m (m (14 + 5 * i + 1) 12)) v M (fun r18 m19 => (r18 = (-1 : Int32) → w_280 kc (nI i) m19 (fun m20 => w_274 kc (nI i) (5 : Int32) (0 : Int32) (10 : Int32) (0 : Int32) v m20 (fun m21 => w_303_331 kc Φ m21))) ∧ (¬ r18 = (-1 : Int32) → w_242 kc (gw m (m (14 + 5 * i + 1) 12)) v (255 : Int32) (0 : Int32) m19 (fun r22 m23 => ((m23 66 4) = 0 → w_280 kc (nI i) m23 (fun m24 => (r22 = 0 → w_303_325 kc Φ v (nI i) (5 : Int32) (0 : Int32) (9 : Int32) m24) ∧ (¬ r22 = 0 → w_303_325 kc Φ v (nI i) (5 : Int32) (0 : Int32) (0 : Int32) m24))) ∧ (¬ (m23 66 4) = 0 → w_303_331 kc Φ m23))))))) → w_303 kc (nI i) (m (14 + 5 * i + 4) 5) c v w M Φ := fun M hM Φ h => by
    unfold w_303
    refine ⟨vI i8, ?_⟩
    rw [cI i8, hM.number i hi, nz, if_neg hn]
    exact r_220 hM nA.1 so.2.1 nA.2 h
  obtain ⟨b, F⟩ := bkF hI hb0
  have hBk := bkR F.bb
  obtain ⟨ss, w1, w2⟩ := Wk_ex m b 2048 (b + 4) (by omega) (by omega)
  obtain ⟨m1, s1, s2⟩ := c_159 (kc := kc) F.h2 (by omega) w1 (by omega) (gw m (m (14 + 5 * i + 1) 12)) v
  have I1 := s2.I hI
  have e9 : ∀ c, c ≠ 7 → c ≠ 8 → m1 c = m c := s2.2.2.2.1
  have hi1 : i < cnt m1 := by rw [cnt_cg (by rw [e9 9 (by omega) (by omega)])]; exact hi
  have g15 : m (14 + 5 * i + 4) 5 = m1 (14 + 5 * i + 4) 5 := by rw [e9 _ (by omega) (by omega)]
  have fr1 : FrC m m1 := fun k hk => e9 k (by omega) (by omega)
  have kq1 : Kq m m1 := ⟨e9 0 (by omega) (by omega), e9 9 (by omega) (by omega)⟩
  have gw1 : ∀ a, gw m1 a = gw m a := gw_c2 (e9 2 (by omega) (by omega))
  have l1 : m1 7 4 = 0 := by rw [s2.2.2.2.2 4 (by omega) (by omega)]; exact hl
  by_cases c1 : c = 1
  · cases ho : fdO m (gw m (m (14 + 5 * i + 1) 12)) v (pls (b + 4) ss) with
    | none =>
      have n0 : 0 ≤ (gw m (m (14 + 5 * i + 4) 5 + nI 28)).toInt ∧ (gw m (m (14 + 5 * i + 4) 5 + nI 28)).toInt ≤ 65536 := bfN hI hi (d := 5) (k := 1) (by omega) hg (by omega)
      obtain ⟨m2, a1, a2, a3, a4, a5⟩ := lv_ok (kc := kc) I1 hi1
      obtain ⟨m', b1, b2, b3, b4, b5⟩ := sd hk a2 hB (i := i) (d := 5) (n := 0) (by rw [a4.cnt]; exact hi1) (by omega) (by omega) 10 0 v
      refine ⟨m', fun Φ h => ?_, b2, (fr1.trans a3).trans b3, Kq.trans kq1 (a4.trans b4).q, fun M hM Φ h => pre M hM Φ ⟨fun _ => r_239 hI hM F w1 ?_, fun q => absurd c1 q⟩⟩
      · unfold w_56 w_56_76 w_57 w_57_82 w_57_104
        refine c_12 ⟨fun _ => s1 _ ?_, fun q => absurd c1 q⟩
        rw [ho]
        exact ⟨fun _ => a1 _ ⟨fun _ => b1 _ h, fun q => absurd rfl q⟩, fun q => absurd rfl q⟩
      · rw [ho]
        refine ⟨fun _ => ?_, fun q => absurd rfl q⟩
        unfold w_303_46
        refine r_271 (d := 5) (k := 0) (by omega) ?_
        rw [ga4]
        refine r_220g hI hM hi (d := 5) (k := 28) (by omega) hg (by omega) (by omega) (r_297 n0.1 (r_271 (d := 5) (k := 0) (by omega) (r_220g hI hM hi (d := 5) (k := 24) (by omega) hg (by omega) (by omega) ⟨1, ?_⟩)))
        rw [lst0 n0.1]
        unfold w_303_82
        refine ⟨fun _ => ?_, fun q => absurd (by decide) q⟩
        unfold w_303_118 w_303_139 w_303_331
        exact a5 M (s2.R hI hM) _ (fun M1 r1 f1 => ⟨fun _ => b5 M1 r1 _ (fun M' r f => h M' r (f1.trans f)), fun q => absurd rfl q⟩)
    | some A =>
      obtain ⟨L, hL, eL, hA1, hA2, hA3⟩ := fdR F.bb w1 ho
      have hg1 : m1 (14 + 5 * i + 4) 5 ≠ 0 := by rw [← g15]; exact hg
      have n0 : 0 ≤ (gw m1 (m1 (14 + 5 * i + 4) 5 + nI 28)).toInt ∧ (gw m1 (m1 (14 + 5 * i + 4) 5 + nI 28)).toInt ≤ 65536 := bfN I1 hi1 (d := 5) (k := 1) (by omega) hg1 (by omega)
      have l2 := lst_I (a := nI L) n0.1
      have lL : (lst (nI L) (gw m1 (m1 (14 + 5 * i + 4) 5 + nI 28))).toInt ≤ L := by
        have a1 := nI_toInt (n := L) (by omega)
        unfold lst
        by_cases q : ult (nI L) (gw m1 (m1 (14 + 5 * i + 4) 5 + nI 28))
        · rw [if_pos q]; omega
        · rw [if_neg q]
          unfold ult at q
          omega
      have nA0 : ¬ nI A = 0 := fun q => by
        rw [show (0 : Int32) = nI 0 from rfl, nEq (by omega) (by omega)] at q
        omega
      obtain ⟨m2, a1, a2, a3, a4, a5⟩ := cpL2 (kc := kc) (j := i) (A := A) (d := gw m1 (m1 (14 + 5 * i + 4) 5 + nI 24)) (n := lst (nI L) (gw m1 (m1 (14 + 5 * i + 4) 5 + nI 28))) (nI i) v (nI L) _ 0 m1 I1 hi1 (Nat.zero_add _) (fun x hx => (bfA I1 hi1 (d := 5) (k := 1) (by omega) hg1 (by omega) l2.2 x hx).2.2 (by omega)) (fun x hx => by
        rw [nI_add]
        exact ⟨inF (by omega), nxF I1 (by omega)⟩)
      obtain ⟨m3, d1, d2, d3, d4, d5⟩ := lv_ok (kc := kc) a2 (i := i) (by rw [cnt_cg (by rw [a4 9 (by omega)])]; exact hi1)
      obtain ⟨m', b1, b2, b3, b4, b5⟩ := sd hk d2 hB (i := i) (d := 5) (n := 0) (by rw [d4.cnt, cnt_cg (by rw [a4 9 (by omega)])]; exact hi1) (by omega) (by omega) 0 (nI L) v
      refine ⟨m', fun Φ h => ?_, b2, ((fr1.trans a3).trans d3).trans b3, Kq.trans (Kq.trans kq1 ⟨a4 0 (by omega), a4 9 (by omega)⟩) (d4.trans b4).q, fun M hM Φ h => pre M hM Φ ⟨fun _ => r_239 hI hM F w1 ?_, fun q => absurd c1 q⟩⟩
      · unfold w_56 w_56_76 w_57
        refine c_12 ⟨fun _ => s1 _ ?_, fun q => absurd c1 q⟩
        rw [ho, show enc0 (some A) = nI A from rfl]
        refine ⟨fun q => absurd q nA0, fun _ => ?_⟩
        rw [n_8, n_12]
        refine c_12 (c_89 hk (d := 5) (n := 0) (by omega) (c_12 (c_12 ?_)))
        rw [ga4, gw1 (nI (A + 8)), eL]
        refine c_214 ?_
        unfold w_19
        refine ⟨_, a1 _ _ ?_⟩
        unfold w_19_31 w_57_82 w_57_104
        exact d1 _ ⟨fun q => absurd q nA0, fun _ => b1 _ h⟩
      · rw [ho, show encO (some A) = nI A from rfl]
        have R1 := s2.R hI hM
        refine ⟨fun q => absurd q (nM1 (by omega)), fun _ => ?_⟩
        rw [n_8]
        refine rS I1 R1 (by omega) (by omega) ?_
        rw [gw1 (nI (A + 8)), eL, g15]
        unfold w_303_46
        refine r_271 (d := 5) (k := 0) (by omega) ?_
        rw [ga4]
        refine r_220g I1 R1 hi1 (d := 5) (k := 28) (by omega) hg1 (by omega) (by omega) (r_297 n0.1 (r_271 (d := 5) (k := 0) (by omega) (r_220g I1 R1 hi1 (d := 5) (k := 24) (by omega) hg1 (by omega) (by omega) ⟨_, a5 M R1 Φ _ (fun M2 r2 f2 => ?_)⟩)))
        unfold w_303_118 w_303_139 w_303_331
        exact d5 M2 r2 _ (fun M3 r3 f3 => ⟨fun q => absurd q (nM1 (by omega)), fun _ => b5 M3 r3 _ (fun M' r f => h M' r ((f2.trans f3).trans f))⟩)
  by_cases c2 : c = 2
  · have ul : 0 < lg_cmp ((Int32.toInt64 w) &&& (4294967295 : Int64)) (32 : Int64) ↔ ult 32 w := by
      rw [lggt, u32]
      rfl
    have bad : Lv (w_136 kc (14 + 5 * i) 7) (w_282 kc (nI i) 7) B m (Kp m) := lv_fail hI hi 7
    obtain ⟨mb, x1, x2, x3, x4, x5⟩ := bad
    by_cases hu : ult 32 w
    · refine ⟨mb, fun Φ h => ?_, x2.mono (by omega), x3, x4.q, fun M hM Φ h => pre M hM Φ ⟨fun q => absurd q c1, fun _ => ⟨fun _ => ⟨fun _ => ?_, fun q => absurd (ul.2 hu) q⟩, fun q => absurd c2 q⟩⟩⟩
      · unfold w_56 w_56_76 w_58 w_58_38
        refine c_12 ⟨fun q => absurd q c1, fun _ => ⟨fun _ => c_88 hk (d := 5) (n := 0) (by omega) (c_213 ?_), fun q => absurd c2 q⟩⟩
        rw [bI_t hu]
        exact ⟨fun q => absurd q (by decide), fun _ => x1 _ h⟩
      · unfold w_303_185
        exact x5 M hM _ h
    have hwL : ∃ L, L ≤ 32 ∧ w = nI L := by
      unfold ult at hu
      have t1 := tlo w
      have t2 := thi w
      have z32 : (32 : Int32).toInt = 32 := rfl
      rw [z32] at hu
      obtain ⟨k, k1, k2⟩ := numN (x := w) (k := 33) (by omega) (by omega)
      exact ⟨k, by omega, k2⟩
    obtain ⟨L, hL, eL⟩ := hwL
    by_cases hle : w ≤ gw m (m (14 + 5 * i + 4) 5 + nI 20)
    · have hle' : w.toInt ≤ (gw m (m (14 + 5 * i + 4) 5 + nI 20)).toInt := by rw [← Int32.le_iff_toInt_le]; exact hle
      obtain ⟨r, m2, p1, p2, p3, p4⟩ := pu (kc := kc) hI hb0 (x := gw m (m (14 + 5 * i + 1) 12)) (y := v) (len := w) (a := gw m (m (14 + 5 * i + 4) 5 + nI 16)) hL (Or.inr eL) (fun x hx => by
        have := bfA hI hi (d := 5) (k := 0) (by omega) hg (by omega) (n := w) hle' x (by rw [eL, nI_toInt (by omega)]; omega)
        exact ⟨this.1, this.2.1⟩)
      have fr2 : FrC m m2 := fun k hk => p3 k (by omega) (by omega) (by omega) (by omega)
      have kq2 : Kq m m2 := ⟨p3 0 (by omega) (by omega) (by omega) (by omega), p3 9 (by omega) (by omega) (by omega) (by omega)⟩
      obtain ⟨m', b1, b2, b3, b4, b5⟩ := ap hk p2 hB (i := i) (by rw [cnt_cg (by rw [kq2.2])]; exact hi) (if r = 0 then 9 else 0) w v
      refine ⟨m', fun Φ h => ?_, b2, fr2.trans b3, Kq.trans kq2 b4, fun M hM Φ h => pre M hM Φ ⟨fun q => absurd q c1, fun _ => ⟨fun _ => ⟨fun q => absurd (ul.1 q) hu, fun _ => r_270 (d := 5) (k := 0) (by omega) ?_⟩, fun q => absurd c2 q⟩⟩⟩
      · have fin := b1 Φ h
        unfold w_56 w_56_76 w_58
        refine c_12 ⟨fun q => absurd q c1, fun _ => ⟨fun _ => c_88 hk (d := 5) (n := 0) (by omega) (c_213 ?_), fun q => absurd c2 q⟩⟩
        rw [bI_f hu, ga4]
        refine ⟨fun _ => c_12 ⟨fun _ => c_12 (p1 _ ⟨fun q => ?_, fun q => ?_⟩), fun q => absurd hle q⟩, fun q => absurd rfl q⟩
        · rw [if_pos q] at fin
          exact fin
        · rw [if_neg q] at fin
          exact fin
      · rw [ga4]
        refine r_220g hI hM hi (d := 5) (k := 20) (by omega) hg (by omega) (by omega) ⟨fun _ => r_270 (d := 5) (k := 0) (by omega) (r_220g hI hM hi (d := 5) (k := 16) (by omega) hg (by omega) (by omega) (p4 M hM _ (fun r' M2 hr r2 f2 => ?_))), fun q => absurd hle q⟩
        have fin := b5 M2 r2 Φ (fun M' r f => h M' r (f2.trans f))
        unfold w_303_242 w_303_249 w_303_331
        refine ⟨fun q => ?_, fin.2⟩
        have er := hr (by rw [← r2.lost]; exact q)
        rw [er]
        by_cases y : r = 0
        · rw [if_pos y] at fin
          simp only [y, true_implies, not_true, false_implies, and_true]
          exact fin.1 q
        · rw [if_neg y] at fin
          simp only [y, false_implies, not_false_eq_true, true_implies, true_and]
          exact fin.1 q
    · refine ⟨mb, fun Φ h => ?_, x2.mono (by omega), x3, x4.q, fun M hM Φ h => pre M hM Φ ⟨fun q => absurd q c1, fun _ => ⟨fun _ => ⟨fun q => absurd (ul.1 q) hu, fun _ => r_270 (d := 5) (k := 0) (by omega) ?_⟩, fun q => absurd c2 q⟩⟩⟩
      · unfold w_56 w_56_76 w_58 w_58_38
        refine c_12 ⟨fun q => absurd q c1, fun _ => ⟨fun _ => c_88 hk (d := 5) (n := 0) (by omega) (c_213 ?_), fun q => absurd c2 q⟩⟩
        rw [bI_f hu, ga4]
        exact ⟨fun _ => c_12 ⟨fun q => absurd q hle, fun _ => x1 _ h⟩, fun q => absurd rfl q⟩
      · rw [ga4]
        refine r_220g hI hM hi (d := 5) (k := 20) (by omega) hg (by omega) (by omega) ⟨fun q => absurd q hle, fun _ => ?_⟩
        unfold w_303_185
        exact x5 M hM _ h
  · cases ho : fdO m (gw m (m (14 + 5 * i + 1) 12)) v (pls (b + 4) ss) with
    | none =>
      obtain ⟨m', b1, b2, b3, b4, b5⟩ := ap hk I1 hB hi1 10 0 v
      refine ⟨m', fun Φ h => ?_, b2, fr1.trans b3, Kq.trans kq1 b4, fun M hM Φ h => pre M hM Φ ⟨fun q => absurd q c1, fun _ => ⟨fun q => absurd q c2, fun _ => r_239 hI hM F w1 ?_⟩⟩⟩
      · unfold w_56 w_56_76 w_59
        refine c_12 ⟨fun q => absurd q c1, fun _ => ⟨fun q => absurd q c2, fun _ => s1 _ ?_⟩⟩
        rw [ho]
        exact ⟨fun _ => b1 _ h, fun q => absurd rfl q⟩
      · rw [ho]
        have R1 := s2.R hI hM
        unfold w_303_331
        exact ⟨fun _ => (b5 M R1 Φ h).1 (R1.lost.trans l1), fun q => absurd rfl q⟩
    | some A =>
      obtain ⟨L, hL, eL, hA1, hA2, hA3⟩ := fdR F.bb w1 ho
      have nA0 : ¬ nI A = 0 := fun q => by
        rw [show (0 : Int32) = nI 0 from rfl, nEq (by omega) (by omega)] at q
        omega
      obtain ⟨r, m2, p1, p2, p3, p4⟩ := pu (kc := kc) I1 (by rw [s2.2.2.2.2 2 (by omega) (by omega)]; exact hb0) (x := gw m (m (14 + 5 * i + 1) 12)) (y := v) (len := 255) (a := 0) (L := 0) (by omega) (Or.inl ⟨rfl, rfl⟩) (fun x hx => absurd hx (by omega))
      have fr2 : FrC m m2 := fr1.trans (fun k hk => p3 k (by omega) (by omega) (by omega) (by omega))
      have kq2 : Kq m m2 := Kq.trans kq1 ⟨p3 0 (by omega) (by omega) (by omega) (by omega), p3 9 (by omega) (by omega) (by omega) (by omega)⟩
      obtain ⟨m', b1, b2, b3, b4, b5⟩ := ap hk p2 hB (i := i) (by rw [cnt_cg (by rw [kq2.2])]; exact hi) (if r = 0 then 9 else 0) 0 v
      refine ⟨m', fun Φ h => ?_, b2, fr2.trans b3, Kq.trans kq2 b4, fun M hM Φ h => pre M hM Φ ⟨fun q => absurd q c1, fun _ => ⟨fun q => absurd q c2, fun _ => r_239 hI hM F w1 ?_⟩⟩⟩
      · have fin := b1 Φ h
        unfold w_56 w_56_76 w_59
        refine c_12 ⟨fun q => absurd q c1, fun _ => ⟨fun q => absurd q c2, fun _ => s1 _ ?_⟩⟩
        rw [ho]
        refine ⟨fun q => absurd q nA0, fun _ => p1 _ ⟨fun q => ?_, fun q => ?_⟩⟩
        · rw [if_pos q] at fin
          exact fin
        · rw [if_neg q] at fin
          exact fin
      · rw [ho]
        have R1 := s2.R hI hM
        refine ⟨fun q => absurd q (nM1 (a := A) (by omega)), fun _ => p4 M R1 _ (fun r' M2 hr r2 f2 => ?_)⟩
        have fin := b5 M2 r2 Φ (fun M' r f => h M' r (f2.trans f))
        unfold w_303_325 w_303_331
        refine ⟨fun q => ?_, fin.2⟩
        have er := hr (by rw [← r2.lost]; exact q)
        rw [er]
        by_cases y : r = 0
        · rw [if_pos y] at fin
          simp only [y, true_implies, not_true, false_implies, and_true]
          exact fin.1 q
        · rw [if_neg y] at fin
          simp only [y, false_implies, not_false_eq_true, true_implies, true_and]
          exact fin.1 q
/-- stored -/
theorem c_163z {kc : it_Kc} {m : it_Me} (hb : m 7 2 = 0) {Φ : it_Me → Prop} (h : Φ (it_sv (it_sv m 7 6 0) 7 7 4)) : w_163 kc m Φ := by
  have e2 : it_sv m 7 6 0 7 2 = 0 := by rw [sv_n2 _ _ _ _ (by omega)]; exact hb
  have e3 : it_sv (it_sv m 7 6 0) 7 7 4 7 2 = 0 := by rw [sv_n2 _ _ _ _ (by omega)]; exact e2
  unfold w_163
  rw [e2, show (0 : Int32) + 4 = 4 from rfl]
  exact ⟨fun _ => h, fun q => absurd e3 q⟩
theorem a_stored {kc : it_Kc} {B : Nat} {m : it_Me} (hI : Inv B m) (hl : m 7 4 = 0) (x y n : Int32) : Lk (w_209 kc x y n) (w_243 kc x y n) B m := by
  by_cases hb0 : m 7 2 = 0
  · refine ⟨-1, it_sv (it_sv m 7 6 0) 7 7 4, fun Φ h => ?_, (Inv.upd (hI) (Nat.le_refl B) ([7]) (by intro k hk; simp only [List.mem_cons, List.not_mem_nil, or_false, not_or, not_false_eq_true] at hk; first | rfl | (repeat (first | rw [sv_cell _ _ _ _ (by omega)] | rw [up_cell _ _ _ (by omega)] | rw [fil_cell _ _ _ _ _ (by omega)]))) (by first | (refine Or.inl (And.intro ?_ ?_) <;> first | (simp only [List.mem_cons, List.not_mem_nil, or_false, forall_eq_or_imp, forall_eq, false_implies, implies_true, and_true] <;> omega) | (repeat' (first | exact True.intro | rfl | refine And.intro ?_ ?_ | (rw [sv_ne _ _ _ _ (by omega)]) | (rw [up_cell _ _ _ (by omega)]) | (rw [fil_cell _ _ _ _ _ (by omega)]) | (rw [hM _ (by omega)]) | (rw [hm _ (by omega)])))) | (have t_ := Inv.tl (hI); exact Or.inr t_)) (by first | (refine Or.inl (And.intro ?_ ?_) <;> first | (simp only [List.mem_cons, List.not_mem_nil, or_false, forall_eq_or_imp, forall_eq, false_implies, implies_true, and_true] <;> omega) | (repeat' (first | exact True.intro | rfl | refine And.intro ?_ ?_ | (rw [sv_ne _ _ _ _ (by omega)]) | (rw [up_cell _ _ _ (by omega)]) | (rw [fil_cell _ _ _ _ _ (by omega)]) | (rw [hM _ (by omega)]) | (rw [hm _ (by omega)])))) | (have t_ := Inv.tp (hI); exact Or.inr t_)) (by first | (refine Or.inl (And.intro ?_ ?_) <;> first | (simp only [List.mem_cons, List.not_mem_nil, or_false, forall_eq_or_imp, forall_eq, false_implies, implies_true, and_true] <;> omega) | (repeat' (first | exact True.intro | rfl | refine And.intro ?_ ?_ | (rw [sv_ne _ _ _ _ (by omega)]) | (rw [up_cell _ _ _ (by omega)]) | (rw [fil_cell _ _ _ _ _ (by omega)]) | (rw [hM _ (by omega)]) | (rw [hm _ (by omega)])))) | (have t_ := Inv.on (hI); exact Or.inr t_)) (by first | (refine Or.inl (And.intro ?_ ?_) <;> first | (simp only [List.mem_cons, List.not_mem_nil, or_false, forall_eq_or_imp, forall_eq, false_implies, implies_true, and_true] <;> omega) | (repeat' (first | exact True.intro | rfl | refine And.intro ?_ ?_ | (rw [sv_ne _ _ _ _ (by omega)]) | (rw [up_cell _ _ _ (by omega)]) | (rw [fil_cell _ _ _ _ _ (by omega)]) | (rw [hM _ (by omega)]) | (rw [hm _ (by omega)])))) | (have t_ := Inv.off (hI); exact Or.inr t_)) (by first | (refine Or.inl (And.intro ?_ ?_) <;> first | (simp only [List.mem_cons, List.not_mem_nil, or_false, forall_eq_or_imp, forall_eq, false_implies, implies_true, and_true] <;> omega) | (repeat' (first | exact True.intro | rfl | refine And.intro ?_ ?_ | (rw [sv_ne _ _ _ _ (by omega)]) | (rw [up_cell _ _ _ (by omega)]) | (rw [fil_cell _ _ _ _ _ (by omega)]) | (rw [hM _ (by omega)]) | (rw [hm _ (by omega)])))) | (have t_ := Inv.cn (hI); exact Or.inr t_)) (by first | (refine Or.inl (And.intro ?_ ?_) <;> first | (simp only [List.mem_cons, List.not_mem_nil, or_false, forall_eq_or_imp, forall_eq, false_implies, implies_true, and_true] <;> omega) | (repeat' (first | exact True.intro | rfl | refine And.intro ?_ ?_ | (rw [sv_ne _ _ _ _ (by omega)]) | (rw [up_cell _ _ _ (by omega)]) | (rw [fil_cell _ _ _ _ _ (by omega)]) | (rw [hM _ (by omega)]) | (rw [hm _ (by omega)])))) | (have t_ := Inv.ev (hI); exact Or.inr t_)) (by first | (refine Or.inl (And.intro ?_ ?_) <;> first | (simp only [List.mem_cons, List.not_mem_nil, or_false, forall_eq_or_imp, forall_eq, false_implies, implies_true, and_true] <;> omega) | (repeat' (first | exact True.intro | rfl | refine And.intro ?_ ?_ | (rw [sv_ne _ _ _ _ (by omega)]) | (rw [up_cell _ _ _ (by omega)]) | (rw [fil_cell _ _ _ _ _ (by omega)]) | (rw [hM _ (by omega)]) | (rw [hm _ (by omega)])))) | (have t_ := Inv.out (hI); exact Or.inr t_)) (by first | (refine Or.inl (And.intro ?_ ?_) <;> first | (simp only [List.mem_cons, List.not_mem_nil, or_false, forall_eq_or_imp, forall_eq, false_implies, implies_true, and_true] <;> omega) | (repeat' (first | exact True.intro | rfl | refine And.intro ?_ ?_ | (rw [sv_ne _ _ _ _ (by omega)]) | (rw [up_cell _ _ _ (by omega)]) | (rw [fil_cell _ _ _ _ _ (by omega)]) | (rw [hM _ (by omega)]) | (rw [hm _ (by omega)])))) | (have t_ := Inv.num (hI); exact Or.inr t_)) (by first | (refine Or.inl (And.intro ?_ ?_) <;> first | (simp only [List.mem_cons, List.not_mem_nil, or_false, forall_eq_or_imp, forall_eq, false_implies, implies_true, and_true] <;> omega) | (repeat' (first | exact True.intro | rfl | refine And.intro ?_ ?_ | (rw [sv_ne _ _ _ _ (by omega)]) | (rw [up_cell _ _ _ (by omega)]) | (rw [fil_cell _ _ _ _ _ (by omega)]) | (rw [hM _ (by omega)]) | (rw [hm _ (by omega)])))) | (have t_ := Inv.crc (hI); exact Or.inr t_)) (by first | (refine Or.inl (And.intro ?_ ?_) <;> first | (simp only [List.mem_cons, List.not_mem_nil, or_false, forall_eq_or_imp, forall_eq, false_implies, implies_true, and_true] <;> omega) | (repeat' (first | exact True.intro | rfl | refine And.intro ?_ ?_ | (rw [sv_ne _ _ _ _ (by omega)]) | (rw [up_cell _ _ _ (by omega)]) | (rw [fil_cell _ _ _ _ _ (by omega)]) | (rw [hM _ (by omega)]) | (rw [hm _ (by omega)])))) | (have t_ := Inv.bk (hI); exact Or.inr t_)) (by first | (refine Or.inl (And.intro ?_ ?_) <;> first | (simp only [List.mem_cons, List.not_mem_nil, or_false, forall_eq_or_imp, forall_eq, false_implies, implies_true, and_true] <;> omega) | (repeat' (first | exact True.intro | rfl | refine And.intro ?_ ?_ | (rw [sv_ne _ _ _ _ (by omega)]) | (rw [up_cell _ _ _ (by omega)]) | (rw [fil_cell _ _ _ _ _ (by omega)]) | (rw [hM _ (by omega)]) | (rw [hm _ (by omega)])))) | (have t_ := Inv.bk1 (hI); exact Or.inr t_)) (by first | (refine Or.inl (And.intro ?_ ?_) <;> first | (simp only [List.mem_cons, List.not_mem_nil, or_false, forall_eq_or_imp, forall_eq, false_implies, implies_true, and_true] <;> omega) | (repeat' (first | exact True.intro | rfl | refine And.intro ?_ ?_ | (rw [sv_ne _ _ _ _ (by omega)]) | (rw [up_cell _ _ _ (by omega)]) | (rw [fil_cell _ _ _ _ _ (by omega)]) | (rw [hM _ (by omega)]) | (rw [hm _ (by omega)])))) | (have t_ := Inv.pw (hI); exact Or.inr t_)) (by first | (refine Or.inl (And.intro ?_ ?_) <;> first | (simp only [List.mem_cons, List.not_mem_nil, or_false, forall_eq_or_imp, forall_eq, false_implies, implies_true, and_true] <;> omega) | (repeat' (first | exact True.intro | rfl | refine And.intro ?_ ?_ | (rw [sv_ne _ _ _ _ (by omega)]) | (rw [up_cell _ _ _ (by omega)]) | (rw [fil_cell _ _ _ _ _ (by omega)]) | (rw [hM _ (by omega)]) | (rw [hm _ (by omega)])))) | (have t_ := Inv.kd (hI); exact Or.inr t_)) (by first | (refine Or.inl (And.intro ?_ ?_) <;> first | (simp only [List.mem_cons, List.not_mem_nil, or_false, forall_eq_or_imp, forall_eq, false_implies, implies_true, and_true] <;> omega) | (repeat' (first | exact True.intro | rfl | refine And.intro ?_ ?_ | (rw [sv_ne _ _ _ _ (by omega)]) | (rw [up_cell _ _ _ (by omega)]) | (rw [fil_cell _ _ _ _ _ (by omega)]) | (rw [hM _ (by omega)]) | (rw [hm _ (by omega)])))) | (have t_ := Inv.tn (hI); exact Or.inr t_)) (by first | (refine Or.inl (And.intro ?_ ?_) <;> first | (simp only [List.mem_cons, List.not_mem_nil, or_false, forall_eq_or_imp, forall_eq, false_implies, implies_true, and_true] <;> omega) | (repeat' (first | exact True.intro | rfl | refine And.intro ?_ ?_ | (rw [sv_ne _ _ _ _ (by omega)]) | (rw [up_cell _ _ _ (by omega)]) | (rw [fil_cell _ _ _ _ _ (by omega)]) | (rw [hM _ (by omega)]) | (rw [hm _ (by omega)])))) | (have t_ := Inv.ask (hI); exact Or.inr t_)) (by first | (refine Or.inl (And.intro ?_ ?_) <;> first | (simp only [List.mem_cons, List.not_mem_nil, or_false, forall_eq_or_imp, forall_eq, false_implies, implies_true, and_true] <;> omega) | (repeat' (first | exact True.intro | rfl | refine And.intro ?_ ?_ | (rw [sv_ne _ _ _ _ (by omega)]) | (rw [up_cell _ _ _ (by omega)]) | (rw [fil_cell _ _ _ _ _ (by omega)]) | (rw [hM _ (by omega)]) | (rw [hm _ (by omega)])))) | (have t_ := Inv.askW (hI); exact Or.inr t_)) (by first | (refine Or.inl (And.intro ?_ ?_) <;> first | (simp only [List.mem_cons, List.not_mem_nil, or_false, forall_eq_or_imp, forall_eq, false_implies, implies_true, and_true] <;> omega) | (repeat' (first | exact True.intro | rfl | refine And.intro ?_ ?_ | (rw [sv_ne _ _ _ _ (by omega)]) | (rw [up_cell _ _ _ (by omega)]) | (rw [fil_cell _ _ _ _ _ (by omega)]) | (rw [hM _ (by omega)]) | (rw [hm _ (by omega)])))) | (have t_ := Inv.askR (hI); exact Or.inr t_)) (by first | (refine Or.inl (And.intro ?_ ?_) <;> first | (simp only [List.mem_cons, List.not_mem_nil, or_false, forall_eq_or_imp, forall_eq, false_implies, implies_true, and_true] <;> omega) | (repeat' (first | exact True.intro | rfl | refine And.intro ?_ ?_ | (rw [sv_ne _ _ _ _ (by omega)]) | (rw [up_cell _ _ _ (by omega)]) | (rw [fil_cell _ _ _ _ _ (by omega)]) | (rw [hM _ (by omega)]) | (rw [hm _ (by omega)])))) | (have t_ := Inv.lv0 (hI); exact Or.inr t_)) (by first | (refine Or.inl (And.intro ?_ ?_) <;> first | (simp only [List.mem_cons, List.not_mem_nil, or_false, forall_eq_or_imp, forall_eq, false_implies, implies_true, and_true] <;> omega) | (repeat' (first | exact True.intro | rfl | refine And.intro ?_ ?_ | (rw [sv_ne _ _ _ _ (by omega)]) | (rw [up_cell _ _ _ (by omega)]) | (rw [fil_cell _ _ _ _ _ (by omega)]) | (rw [hM _ (by omega)]) | (rw [hm _ (by omega)])))) | (have t_ := Inv.lv2 (hI); exact Or.inr t_)) (by first | (refine Or.inl (And.intro ?_ ?_) <;> first | (simp only [List.mem_cons, List.not_mem_nil, or_false, forall_eq_or_imp, forall_eq, false_implies, implies_true, and_true] <;> omega) | (repeat' (first | exact True.intro | rfl | refine And.intro ?_ ?_ | (rw [sv_ne _ _ _ _ (by omega)]) | (rw [up_cell _ _ _ (by omega)]) | (rw [fil_cell _ _ _ _ _ (by omega)]) | (rw [hM _ (by omega)]) | (rw [hm _ (by omega)])))) | (have t_ := Inv.pl (hI); exact Or.inr t_)) (by first | (refine Or.inl (And.intro ?_ ?_) <;> first | (simp only [List.mem_cons, List.not_mem_nil, or_false, forall_eq_or_imp, forall_eq, false_implies, implies_true, and_true] <;> omega) | (repeat' (first | exact True.intro | rfl | refine And.intro ?_ ?_ | (rw [sv_ne _ _ _ _ (by omega)]) | (rw [up_cell _ _ _ (by omega)]) | (rw [fil_cell _ _ _ _ _ (by omega)]) | (rw [hM _ (by omega)]) | (rw [hm _ (by omega)])))) | (have t_ := Inv.pi (hI); exact Or.inr t_)) (by first | (refine Or.inl (And.intro ?_ ?_) <;> first | (simp only [List.mem_cons, List.not_mem_nil, or_false, forall_eq_or_imp, forall_eq, false_implies, implies_true, and_true] <;> omega) | (repeat' (first | exact True.intro | rfl | refine And.intro ?_ ?_ | (rw [sv_ne _ _ _ _ (by omega)]) | (rw [up_cell _ _ _ (by omega)]) | (rw [fil_cell _ _ _ _ _ (by omega)]) | (rw [hM _ (by omega)]) | (rw [hm _ (by omega)])))) | (have t_ := Inv.dis (hI); exact Or.inr t_))), (FrC.rfl.sv (by omega)).sv (by omega), by rw [sv_n2 _ _ _ _ (by omega), sv_n2 _ _ _ _ (by omega)]; exact hl, fun M hM Φ h => ?_⟩
    · unfold w_209 w_158 w_159
      refine c_163z hb0 ⟨1, ?_⟩
      unfold w_159_11 w_159_82
      rw [sv_n2 _ _ _ _ (by omega), sv_same]
      exact ⟨fun _ => ⟨fun _ => h, fun q => absurd rfl q⟩, fun q => absurd (by decide) q⟩
    · have R : Rel (it_sv (it_sv m 7 6 0) 7 7 4) M := (Rel.upd (hM) (cnt_le hI) ([7]) ([]) (fun k hk => by simp only [List.mem_cons, List.not_mem_nil, or_false, not_or] at hk; rw [sv_cell _ _ _ _ (by omega), sv_cell _ _ _ _ (by omega)]) (fun _ _ => rfl) (by first | (refine Or.inl (And.intro ?_ (And.intro ?_ ?_)) <;> first | (simp only [List.mem_cons, List.not_mem_nil, or_false, forall_eq_or_imp, forall_eq, false_implies, implies_true, and_true] <;> omega) | (repeat' (first | exact True.intro | rfl | refine And.intro ?_ ?_ | (rw [sv_ne _ _ _ _ (by omega)]) | (rw [up_cell _ _ _ (by omega)]) | (rw [fil_cell _ _ _ _ _ (by omega)]) | (rw [hM _ (by omega)]) | (rw [hm _ (by omega)])))) | (have t_ := Rel.tapeLen (hM); exact Or.inr t_)) (by first | (refine Or.inl (And.intro ?_ (And.intro ?_ ?_)) <;> first | (simp only [List.mem_cons, List.not_mem_nil, or_false, forall_eq_or_imp, forall_eq, false_implies, implies_true, and_true] <;> omega) | (repeat' (first | exact True.intro | rfl | refine And.intro ?_ ?_ | (rw [sv_ne _ _ _ _ (by omega)]) | (rw [up_cell _ _ _ (by omega)]) | (rw [fil_cell _ _ _ _ _ (by omega)]) | (rw [hM _ (by omega)]) | (rw [hm _ (by omega)])))) | (have t_ := Rel.on (hM); exact Or.inr t_)) (by first | (refine Or.inl (And.intro ?_ (And.intro ?_ ?_)) <;> first | (simp only [List.mem_cons, List.not_mem_nil, or_false, forall_eq_or_imp, forall_eq, false_implies, implies_true, and_true] <;> omega) | (repeat' (first | exact True.intro | rfl | refine And.intro ?_ ?_ | (rw [sv_ne _ _ _ _ (by omega)]) | (rw [up_cell _ _ _ (by omega)]) | (rw [fil_cell _ _ _ _ _ (by omega)]) | (rw [hM _ (by omega)]) | (rw [hm _ (by omega)])))) | (have t_ := Rel.lost (hM); exact Or.inr t_)) (by first | (refine Or.inl (And.intro ?_ (And.intro ?_ ?_)) <;> first | (simp only [List.mem_cons, List.not_mem_nil, or_false, forall_eq_or_imp, forall_eq, false_implies, implies_true, and_true] <;> omega) | (repeat' (first | exact True.intro | rfl | refine And.intro ?_ ?_ | (rw [sv_ne _ _ _ _ (by omega)]) | (rw [up_cell _ _ _ (by omega)]) | (rw [fil_cell _ _ _ _ _ (by omega)]) | (rw [hM _ (by omega)]) | (rw [hm _ (by omega)])))) | (have t_ := Rel.power (hM); exact Or.inr t_)) (by first | (refine Or.inl (And.intro ?_ (And.intro ?_ ?_)) <;> first | (simp only [List.mem_cons, List.not_mem_nil, or_false, forall_eq_or_imp, forall_eq, false_implies, implies_true, and_true] <;> omega) | (repeat' (first | exact True.intro | rfl | refine And.intro ?_ ?_ | (rw [sv_ne _ _ _ _ (by omega)]) | (rw [up_cell _ _ _ (by omega)]) | (rw [fil_cell _ _ _ _ _ (by omega)]) | (rw [hM _ (by omega)]) | (rw [hm _ (by omega)])))) | (have t_ := Rel.time (hM); exact Or.inr t_)) (by first | (refine Or.inl (And.intro ?_ (And.intro ?_ ?_)) <;> first | (simp only [List.mem_cons, List.not_mem_nil, or_false, forall_eq_or_imp, forall_eq, false_implies, implies_true, and_true] <;> omega) | (repeat' (first | exact True.intro | rfl | refine And.intro ?_ ?_ | (rw [sv_ne _ _ _ _ (by omega)]) | (rw [up_cell _ _ _ (by omega)]) | (rw [fil_cell _ _ _ _ _ (by omega)]) | (rw [hM _ (by omega)]) | (rw [hm _ (by omega)])))) | (have t_ := Rel.z (hM); exact Or.inr t_)) (by first | (refine Or.inl (And.intro ?_ (And.intro ?_ ?_)) <;> first | (simp only [List.mem_cons, List.not_mem_nil, or_false, forall_eq_or_imp, forall_eq, false_implies, implies_true, and_true] <;> omega) | (repeat' (first | exact True.intro | rfl | refine And.intro ?_ ?_ | (rw [sv_ne _ _ _ _ (by omega)]) | (rw [up_cell _ _ _ (by omega)]) | (rw [fil_cell _ _ _ _ _ (by omega)]) | (rw [hM _ (by omega)]) | (rw [hm _ (by omega)])))) | (have t_ := Rel.count (hM); exact Or.inr t_)) (by first | (refine Or.inl (And.intro ?_ (And.intro ?_ ?_)) <;> first | (simp only [List.mem_cons, List.not_mem_nil, or_false, forall_eq_or_imp, forall_eq, false_implies, implies_true, and_true] <;> omega) | (repeat' (first | exact True.intro | rfl | refine And.intro ?_ ?_ | (rw [sv_ne _ _ _ _ (by omega)]) | (rw [up_cell _ _ _ (by omega)]) | (rw [fil_cell _ _ _ _ _ (by omega)]) | (rw [hM _ (by omega)]) | (rw [hm _ (by omega)])))) | (have t_ := Rel.turn (hM); exact Or.inr t_)) (by first | (refine Or.inl (And.intro ?_ (And.intro ?_ ?_)) <;> first | (simp only [List.mem_cons, List.not_mem_nil, or_false, forall_eq_or_imp, forall_eq, false_implies, implies_true, and_true] <;> omega) | (repeat' (first | exact True.intro | rfl | refine And.intro ?_ ?_ | (rw [sv_ne _ _ _ _ (by omega)]) | (rw [up_cell _ _ _ (by omega)]) | (rw [fil_cell _ _ _ _ _ (by omega)]) | (rw [hM _ (by omega)]) | (rw [hm _ (by omega)])))) | (have t_ := Rel.bank (hM); exact Or.inr t_)) (by first | (refine Or.inl (And.intro ?_ (And.intro ?_ ?_)) <;> first | (simp only [List.mem_cons, List.not_mem_nil, or_false, forall_eq_or_imp, forall_eq, false_implies, implies_true, and_true] <;> omega) | (repeat' (first | exact True.intro | rfl | refine And.intro ?_ ?_ | (rw [sv_ne _ _ _ _ (by omega)]) | (rw [up_cell _ _ _ (by omega)]) | (rw [fil_cell _ _ _ _ _ (by omega)]) | (rw [hM _ (by omega)]) | (rw [hm _ (by omega)])))) | (have t_ := Rel.tape (hM); exact Or.inr t_)) (by first | (refine Or.inl (And.intro ?_ (And.intro ?_ ?_)) <;> first | (simp only [List.mem_cons, List.not_mem_nil, or_false, forall_eq_or_imp, forall_eq, false_implies, implies_true, and_true] <;> omega) | (repeat' (first | exact True.intro | rfl | refine And.intro ?_ ?_ | (rw [sv_ne _ _ _ _ (by omega)]) | (rw [up_cell _ _ _ (by omega)]) | (rw [fil_cell _ _ _ _ _ (by omega)]) | (rw [hM _ (by omega)]) | (rw [hm _ (by omega)])))) | (have t_ := Rel.counts (hM); exact Or.inr t_)) (by first | (refine Or.inl (And.intro ?_ (And.intro ?_ ?_)) <;> first | (simp only [List.mem_cons, List.not_mem_nil, or_false, forall_eq_or_imp, forall_eq, false_implies, implies_true, and_true] <;> omega) | (repeat' (first | exact True.intro | rfl | refine And.intro ?_ ?_ | (rw [sv_ne _ _ _ _ (by omega)]) | (rw [up_cell _ _ _ (by omega)]) | (rw [fil_cell _ _ _ _ _ (by omega)]) | (rw [hM _ (by omega)]) | (rw [hm _ (by omega)])))) | (have t_ := Rel.events (hM); exact Or.inr t_)) (by first | (refine Or.inl (And.intro ?_ (And.intro ?_ ?_)) <;> first | (simp only [List.mem_cons, List.not_mem_nil, or_false, forall_eq_or_imp, forall_eq, false_implies, implies_true, and_true] <;> omega) | (repeat' (first | exact True.intro | rfl | refine And.intro ?_ ?_ | (rw [sv_ne _ _ _ _ (by omega)]) | (rw [up_cell _ _ _ (by omega)]) | (rw [fil_cell _ _ _ _ _ (by omega)]) | (rw [hM _ (by omega)]) | (rw [hm _ (by omega)])))) | (have t_ := Rel.out (hM); exact Or.inr t_)) (by first | (refine Or.inl (And.intro ?_ (And.intro ?_ ?_)) <;> first | (simp only [List.mem_cons, List.not_mem_nil, or_false, forall_eq_or_imp, forall_eq, false_implies, implies_true, and_true] <;> omega) | (repeat' (first | exact True.intro | rfl | refine And.intro ?_ ?_ | (rw [sv_ne _ _ _ _ (by omega)]) | (rw [up_cell _ _ _ (by omega)]) | (rw [fil_cell _ _ _ _ _ (by omega)]) | (rw [hM _ (by omega)]) | (rw [hm _ (by omega)])))) | (have t_ := Rel.lamps (hM); exact Or.inr t_)) (by first | (refine Or.inl (And.intro ?_ (And.intro ?_ ?_)) <;> first | (simp only [List.mem_cons, List.not_mem_nil, or_false, forall_eq_or_imp, forall_eq, false_implies, implies_true, and_true] <;> omega) | (repeat' (first | exact True.intro | rfl | refine And.intro ?_ ?_ | (rw [sv_ne _ _ _ _ (by omega)]) | (rw [up_cell _ _ _ (by omega)]) | (rw [fil_cell _ _ _ _ _ (by omega)]) | (rw [hM _ (by omega)]) | (rw [hm _ (by omega)])))) | (have t_ := Rel.buttons (hM); exact Or.inr t_)) (by first | (refine Or.inl (And.intro ?_ (And.intro ?_ ?_)) <;> first | (simp only [List.mem_cons, List.not_mem_nil, or_false, forall_eq_or_imp, forall_eq, false_implies, implies_true, and_true] <;> omega) | (repeat' (first | exact True.intro | rfl | refine And.intro ?_ ?_ | (rw [sv_ne _ _ _ _ (by omega)]) | (rw [up_cell _ _ _ (by omega)]) | (rw [fil_cell _ _ _ _ _ (by omega)]) | (rw [hM _ (by omega)]) | (rw [hm _ (by omega)])))) | (have t_ := Rel.lev (hM); exact Or.inr t_)) (by first | (refine Or.inl (And.intro ?_ (And.intro ?_ ?_)) <;> first | (simp only [List.mem_cons, List.not_mem_nil, or_false, forall_eq_or_imp, forall_eq, false_implies, implies_true, and_true] <;> omega) | (repeat' (first | exact True.intro | rfl | refine And.intro ?_ ?_ | (rw [sv_ne _ _ _ _ (by omega)]) | (rw [up_cell _ _ _ (by omega)]) | (rw [fil_cell _ _ _ _ _ (by omega)]) | (rw [hM _ (by omega)]) | (rw [hm _ (by omega)])))) | (have t_ := Rel.mem (hM); exact Or.inr t_)) (by first | (refine Or.inl (And.intro ?_ (And.intro ?_ ?_)) <;> first | (simp only [List.mem_cons, List.not_mem_nil, or_false, forall_eq_or_imp, forall_eq, false_implies, implies_true, and_true] <;> omega) | (repeat' (first | exact True.intro | rfl | refine And.intro ?_ ?_ | (rw [sv_ne _ _ _ _ (by omega)]) | (rw [up_cell _ _ _ (by omega)]) | (rw [fil_cell _ _ _ _ _ (by omega)]) | (rw [hM _ (by omega)]) | (rw [hm _ (by omega)])))) | (have t_ := Rel.sched (hM); exact Or.inr t_)) (by first | (refine Or.inl (And.intro ?_ (And.intro ?_ ?_)) <;> first | (simp only [List.mem_cons, List.not_mem_nil, or_false, forall_eq_or_imp, forall_eq, false_implies, implies_true, and_true] <;> omega) | (repeat' (first | exact True.intro | rfl | refine And.intro ?_ ?_ | (rw [sv_ne _ _ _ _ (by omega)]) | (rw [up_cell _ _ _ (by omega)]) | (rw [fil_cell _ _ _ _ _ (by omega)]) | (rw [hM _ (by omega)]) | (rw [hm _ (by omega)])))) | (have t_ := Rel.done (hM); exact Or.inr t_)) (by first | (refine Or.inl (And.intro ?_ (And.intro ?_ ?_)) <;> first | (simp only [List.mem_cons, List.not_mem_nil, or_false, forall_eq_or_imp, forall_eq, false_implies, implies_true, and_true] <;> omega) | (repeat' (first | exact True.intro | rfl | refine And.intro ?_ ?_ | (rw [sv_ne _ _ _ _ (by omega)]) | (rw [up_cell _ _ _ (by omega)]) | (rw [fil_cell _ _ _ _ _ (by omega)]) | (rw [hM _ (by omega)]) | (rw [hm _ (by omega)])))) | (have t_ := Rel.levels (hM); exact Or.inr t_)) (by first | (refine Or.inl (And.intro ?_ (And.intro ?_ ?_)) <;> first | (simp only [List.mem_cons, List.not_mem_nil, or_false, forall_eq_or_imp, forall_eq, false_implies, implies_true, and_true] <;> omega) | (repeat' (first | exact True.intro | rfl | refine And.intro ?_ ?_ | (rw [sv_ne _ _ _ _ (by omega)]) | (rw [up_cell _ _ _ (by omega)]) | (rw [fil_cell _ _ _ _ _ (by omega)]) | (rw [hM _ (by omega)]) | (rw [hm _ (by omega)])))) | (have t_ := Rel.places (hM); exact Or.inr t_)) (by first | (refine Or.inl (And.intro ?_ (And.intro ?_ ?_)) <;> first | (simp only [List.mem_cons, List.not_mem_nil, or_false, forall_eq_or_imp, forall_eq, false_implies, implies_true, and_true] <;> omega) | (repeat' (first | exact True.intro | rfl | refine And.intro ?_ ?_ | (rw [sv_ne _ _ _ _ (by omega)]) | (rw [up_cell _ _ _ (by omega)]) | (rw [fil_cell _ _ _ _ _ (by omega)]) | (rw [hM _ (by omega)]) | (rw [hm _ (by omega)])))) | (have t_ := Rel.asked (hM); exact Or.inr t_)) (by first | (refine Or.inl (And.intro ?_ (And.intro ?_ ?_)) <;> first | (simp only [List.mem_cons, List.not_mem_nil, or_false, forall_eq_or_imp, forall_eq, false_implies, implies_true, and_true] <;> omega) | (repeat' (first | exact True.intro | rfl | refine And.intro ?_ ?_ | (rw [sv_ne _ _ _ _ (by omega)]) | (rw [up_cell _ _ _ (by omega)]) | (rw [fil_cell _ _ _ _ _ (by omega)]) | (rw [hM _ (by omega)]) | (rw [hm _ (by omega)])))) | (have t_ := Rel.worder (hM); exact Or.inr t_)) (by first | (refine Or.inl (And.intro ?_ (And.intro ?_ ?_)) <;> first | (simp only [List.mem_cons, List.not_mem_nil, or_false, forall_eq_or_imp, forall_eq, false_implies, implies_true, and_true] <;> omega) | (repeat' (first | exact True.intro | rfl | refine And.intro ?_ ?_ | (rw [sv_ne _ _ _ _ (by omega)]) | (rw [up_cell _ _ _ (by omega)]) | (rw [fil_cell _ _ _ _ _ (by omega)]) | (rw [hM _ (by omega)]) | (rw [hm _ (by omega)])))) | (have t_ := Rel.rorder (hM); exact Or.inr t_)) (by first | (refine Or.inl (And.intro ?_ (And.intro ?_ ?_)) <;> first | (simp only [List.mem_cons, List.not_mem_nil, or_false, forall_eq_or_imp, forall_eq, false_implies, implies_true, and_true] <;> omega) | (repeat' (first | exact True.intro | rfl | refine And.intro ?_ ?_ | (rw [sv_ne _ _ _ _ (by omega)]) | (rw [up_cell _ _ _ (by omega)]) | (rw [fil_cell _ _ _ _ _ (by omega)]) | (rw [hM _ (by omega)]) | (rw [hm _ (by omega)])))) | (have t_ := Rel.ps (hM); exact Or.inr t_)) (by first | (refine Or.inl (And.intro ?_ (And.intro ?_ ?_)) <;> first | (simp only [List.mem_cons, List.not_mem_nil, or_false, forall_eq_or_imp, forall_eq, false_implies, implies_true, and_true] <;> omega) | (repeat' (first | exact True.intro | rfl | refine And.intro ?_ ?_ | (rw [sv_ne _ _ _ _ (by omega)]) | (rw [up_cell _ _ _ (by omega)]) | (rw [fil_cell _ _ _ _ _ (by omega)]) | (rw [hM _ (by omega)]) | (rw [hm _ (by omega)])))) | (have t_ := Rel.app (hM); exact Or.inr t_)) (by first | (refine Or.inl (And.intro ?_ (And.intro ?_ ?_)) <;> first | (simp only [List.mem_cons, List.not_mem_nil, or_false, forall_eq_or_imp, forall_eq, false_implies, implies_true, and_true] <;> omega) | (repeat' (first | exact True.intro | rfl | refine And.intro ?_ ?_ | (rw [sv_ne _ _ _ _ (by omega)]) | (rw [up_cell _ _ _ (by omega)]) | (rw [fil_cell _ _ _ _ _ (by omega)]) | (rw [hM _ (by omega)]) | (rw [hm _ (by omega)])))) | (have t_ := Rel.name (hM); exact Or.inr t_)) (by first | (refine Or.inl (And.intro ?_ (And.intro ?_ ?_)) <;> first | (simp only [List.mem_cons, List.not_mem_nil, or_false, forall_eq_or_imp, forall_eq, false_implies, implies_true, and_true] <;> omega) | (repeat' (first | exact True.intro | rfl | refine And.intro ?_ ?_ | (rw [sv_ne _ _ _ _ (by omega)]) | (rw [up_cell _ _ _ (by omega)]) | (rw [fil_cell _ _ _ _ _ (by omega)]) | (rw [hM _ (by omega)]) | (rw [hm _ (by omega)])))) | (have t_ := Rel.number (hM); exact Or.inr t_)) (by first | (refine Or.inl (And.intro ?_ (And.intro ?_ ?_)) <;> first | (simp only [List.mem_cons, List.not_mem_nil, or_false, forall_eq_or_imp, forall_eq, false_implies, implies_true, and_true] <;> omega) | (repeat' (first | exact True.intro | rfl | refine And.intro ?_ ?_ | (rw [sv_ne _ _ _ _ (by omega)]) | (rw [up_cell _ _ _ (by omega)]) | (rw [fil_cell _ _ _ _ _ (by omega)]) | (rw [hM _ (by omega)]) | (rw [hm _ (by omega)])))) | (have t_ := Rel.bits (hM); exact Or.inr t_)) (by first | (refine Or.inl (And.intro ?_ (And.intro ?_ ?_)) <;> first | (simp only [List.mem_cons, List.not_mem_nil, or_false, forall_eq_or_imp, forall_eq, false_implies, implies_true, and_true] <;> omega) | (repeat' (first | exact True.intro | rfl | refine And.intro ?_ ?_ | (rw [sv_ne _ _ _ _ (by omega)]) | (rw [up_cell _ _ _ (by omega)]) | (rw [fil_cell _ _ _ _ _ (by omega)]) | (rw [hM _ (by omega)]) | (rw [hm _ (by omega)])))) | (have t_ := Rel.regs (hM); exact Or.inr t_)) (by first | (refine Or.inl (And.intro ?_ (And.intro ?_ ?_)) <;> first | (simp only [List.mem_cons, List.not_mem_nil, or_false, forall_eq_or_imp, forall_eq, false_implies, implies_true, and_true] <;> omega) | (repeat' (first | exact True.intro | rfl | refine And.intro ?_ ?_ | (rw [sv_ne _ _ _ _ (by omega)]) | (rw [up_cell _ _ _ (by omega)]) | (rw [fil_cell _ _ _ _ _ (by omega)]) | (rw [hM _ (by omega)]) | (rw [hm _ (by omega)])))) | (have t_ := Rel.rsv (hM); exact Or.inr t_)) (by first | (refine Or.inl (And.intro ?_ (And.intro ?_ ?_)) <;> first | (simp only [List.mem_cons, List.not_mem_nil, or_false, forall_eq_or_imp, forall_eq, false_implies, implies_true, and_true] <;> omega) | (repeat' (first | exact True.intro | rfl | refine And.intro ?_ ?_ | (rw [sv_ne _ _ _ _ (by omega)]) | (rw [up_cell _ _ _ (by omega)]) | (rw [fil_cell _ _ _ _ _ (by omega)]) | (rw [hM _ (by omega)]) | (rw [hm _ (by omega)])))) | (have t_ := Rel.queue (hM); exact Or.inr t_)) (by first | (refine Or.inl (And.intro ?_ (And.intro ?_ ?_)) <;> first | (simp only [List.mem_cons, List.not_mem_nil, or_false, forall_eq_or_imp, forall_eq, false_implies, implies_true, and_true] <;> omega) | (repeat' (first | exact True.intro | rfl | refine And.intro ?_ ?_ | (rw [sv_ne _ _ _ _ (by omega)]) | (rw [up_cell _ _ _ (by omega)]) | (rw [fil_cell _ _ _ _ _ (by omega)]) | (rw [hM _ (by omega)]) | (rw [hm _ (by omega)])))) | (have t_ := Rel.ctlw (hM); exact Or.inr t_)) (by first | (refine Or.inl (And.intro ?_ (And.intro ?_ ?_)) <;> first | (simp only [List.mem_cons, List.not_mem_nil, or_false, forall_eq_or_imp, forall_eq, false_implies, implies_true, and_true] <;> omega) | (repeat' (first | exact True.intro | rfl | refine And.intro ?_ ?_ | (rw [sv_ne _ _ _ _ (by omega)]) | (rw [up_cell _ _ _ (by omega)]) | (rw [fil_cell _ _ _ _ _ (by omega)]) | (rw [hM _ (by omega)]) | (rw [hm _ (by omega)])))) | (have t_ := Rel.wt (hM); exact Or.inr t_)))
      have fin := h M R FrM.rfl
      unfold w_243 w_239
      rw [hM.bank, hb0]
      refine ⟨fun _ => ?_, fun q => absurd (by decide) q⟩
      unfold w_239_22 w_239_42 w_239_47
      exact ⟨fun _ => ⟨fun _ => fin, fun q => absurd rfl q⟩, fun q => absurd rfl q⟩
  · obtain ⟨b, F⟩ := bkF hI hb0
    have hBk := bkR F.bb
    obtain ⟨ss, w1, w2⟩ := Wk_ex m b 2048 (b + 4) (by omega) (by omega)
    obtain ⟨m1, s1, s2⟩ := c_159 (kc := kc) F.h2 (by omega) w1 (by omega) x y
    have I1 := s2.I hI
    have e9 : ∀ c, c ≠ 7 → c ≠ 8 → m1 c = m c := s2.2.2.2.1
    have fr1 : FrC m m1 := fun k hk => e9 k (by omega) (by omega)
    have l1 : m1 7 4 = 0 := by rw [s2.2.2.2.2 4 (by omega) (by omega)]; exact hl
    cases ho : fdO m x y (pls (b + 4) ss) with
    | none =>
      refine ⟨-1, m1, fun Φ h => ?_, I1, fr1, l1, fun M hM Φ h => ?_⟩
      · unfold w_209 w_158
        refine s1 _ ?_
        rw [ho]
        exact ⟨fun _ => h, fun q => absurd rfl q⟩
      · unfold w_243
        refine r_239 hI hM F w1 ?_
        rw [ho]
        exact ⟨fun _ => h M (s2.R hI hM) FrM.rfl, fun q => absurd rfl q⟩
    | some A =>
      obtain ⟨L, hL, eL, hA1, hA2, hA3⟩ := fdR F.bb w1 ho
      have gw1 : ∀ a, gw m1 a = gw m a := gw_c2 (e9 2 (by omega) (by omega))
      have nA0 : ¬ nI A = 0 := fun q => by
        rw [show (0 : Int32) = nI 0 from rfl, nEq (by omega) (by omega)] at q
        omega
      have key : ∃ z : Int32, (∀ Φ : Int32 → it_Me → Prop, Φ z m1 → (n = -1 → Φ (nI L) m1) ∧ (¬ n = -1 → (n < 0 → Φ (-1) m1) ∧ (¬ n < 0 → (n < nI L → w_16 kc (nI (A + 12) + n) m1 (fun r5 m6 => Φ r5 m6)) ∧ (¬ n < nI L → Φ (-1) m1)))) ∧ ∀ M, Rel m1 M → ∀ Φ : Int32 → it_Me → Prop, Φ z M → (n = -1 → Φ (nI L) M) ∧ (¬ n = -1 → (n < 0 → Φ (-1) M) ∧ (¬ n < 0 → (n < nI L → w_218 kc (nI (A + 12) + n) M (fun r5 m6 => Φ r5 m6)) ∧ (¬ n < nI L → Φ (-1) M))) := by
        by_cases q1 : n = -1
        · exact ⟨nI L, fun Φ h => ⟨fun _ => h, fun q => absurd q1 q⟩, fun M hM Φ h => ⟨fun _ => h, fun q => absurd q1 q⟩⟩
        by_cases q2 : n < 0
        · exact ⟨-1, fun Φ h => ⟨fun q => absurd q q1, fun _ => ⟨fun _ => h, fun q => absurd q2 q⟩⟩, fun M hM Φ h => ⟨fun q => absurd q q1, fun _ => ⟨fun _ => h, fun q => absurd q2 q⟩⟩⟩
        by_cases q3 : n < nI L
        · refine ⟨gb m1 (nI (A + 12) + n), fun Φ h => ⟨fun q => absurd q q1, fun _ => ⟨fun q => absurd q q2, fun _ => ⟨fun _ => c_16 h, fun q => absurd q3 q⟩⟩⟩, fun M hM Φ h => ⟨fun q => absurd q q1, fun _ => ⟨fun q => absurd q q2, fun _ => ⟨fun _ => ?_, fun q => absurd q3 q⟩⟩⟩⟩
          rw [Int32.lt_iff_toInt_lt] at q2 q3
          have z0 : (0 : Int32).toInt = 0 := rfl
          have zl := nI_toInt (n := L) (by omega)
          obtain ⟨k, k1, k2⟩ := numN (x := n) (k := 33) (by omega) (by omega)
          have kL : k < L := by
            rw [k2, nI_toInt (by omega)] at q3
            omega
          rw [k2, nI_add] at h ⊢
          exact r_218 hM (inF (by omega)) (nxF I1 (by omega)) h
        · exact ⟨-1, fun Φ h => ⟨fun q => absurd q q1, fun _ => ⟨fun q => absurd q q2, fun _ => ⟨fun q => absurd q q3, fun _ => h⟩⟩⟩, fun M hM Φ h => ⟨fun q => absurd q q1, fun _ => ⟨fun q => absurd q q2, fun _ => ⟨fun q => absurd q q3, fun _ => h⟩⟩⟩⟩
      obtain ⟨z, k1, k2⟩ := key
      refine ⟨z, m1, fun Φ h => ?_, I1, fr1, l1, fun M hM Φ h => ?_⟩
      · unfold w_209 w_158
        refine s1 _ ?_
        rw [ho, show enc0 (some A) = nI A from rfl]
        refine ⟨fun q => absurd q nA0, fun _ => ?_⟩
        rw [n_8, n_12]
        refine c_12 ?_
        rw [gw1, eL]
        unfold w_158_47 w_158_65
        exact k1 Φ h
      · unfold w_243
        refine r_239 hI hM F w1 ?_
        rw [ho, show encO (some A) = nI A from rfl]
        refine ⟨fun q => absurd q (nM1 (by omega)), fun _ => ?_⟩
        rw [n_8, n_12]
        refine rS hI hM (by omega) (by omega) ?_
        rw [eL]
        unfold w_243_47 w_243_62
        exact k2 M (s2.R hI hM) Φ (h M (s2.R hI hM) FrM.rfl)
