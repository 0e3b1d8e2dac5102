/-! The store: a bank compacted. -/
theorem xw_g {m m' : it_Me} {A : Nat} : ∀ (r k : Nat) (c : Int32), (∀ j, k ≤ j → j < k + r → gw m' (nI (A + 4 * j)) = gw m (nI (A + 4 * j))) → xw m' A r k c = xw m A r k c := by
  intro r
  induction r with
  | zero => intro k c _; rfl
  | succ r ih =>
    intro k c h
    simp only [xw]
    rw [h k (by omega) (by omega)]
    exact ih (k + 1) _ (fun j h1 h2 => h j (by omega) (by omega))
theorem rc_g {m m' : it_Me} {b A s : Nat} (hg : ∀ X, b ≤ X → X < b + 2048 → gw m' (nI X) = gw m (nI X)) (hA : b ≤ A) (h : rcP m b A s) : rcP m' b A s := by
  have z := szR_le h.2.2.1
  rw [← h.2.2.2.1] at z
  have e := h.2.2.2.2.1
  have h1 := h.1
  unfold rcP
  rw [hg A (by omega) (by omega), hg (A + 8) (by omega) (by omega), hg (A + s - 4) (by omega) (by omega), xw_g _ _ _ (fun j a1 a2 => hg (A + 4 * j) (by omega) (by omega))]
  exact h
theorem Wk_g {m m' : it_Me} {b : Nat} (hg : ∀ X, b ≤ X → X < b + 2048 → gw m' (nI X) = gw m (nI X)) : ∀ (ss : List Nat) (A : Nat), b ≤ A → Wk m b A ss → Wk m' b A ss := by
  intro ss
  induction ss with
  | nil => intro A hA g s p; exact g s (rc_g (fun X a1 a2 => (hg X a1 a2).symm) hA p)
  | cons s ss ih => intro A hA g; exact ⟨rc_g hg hA g.1, ih _ (by omega) g.2⟩
theorem kst_g {m m' : it_Me} {lo hi X : Nat} (h : Kst m m' lo hi) (h0 : 65536 ≤ X ∧ X < 131072) (h4 : X % 4 = 0 ∨ lo % 4 = 0 ∧ hi % 4 = 0) (hx : X < lo ∨ hi ≤ X) : gw m' (nI X) = gw m (nI X) := gw_w (fun _ => by
  rw [wiF h0]
  refine Classical.byContradiction fun q => ?_
  have := h.2.2.1 _ q
  omega)
theorem dropC (l : List Nat) {j : Nat} (h : j < l.length) : l.drop j = l.getD j 0 :: l.drop (j + 1) := by
  rw [List.getD_eq_getElem?_getD, List.getElem?_eq_getElem h]
  exact List.drop_eq_getElem_cons h
theorem ltL {kc : it_Kc} {m : it_Me} {x y : Int32} {l : List Nat} (hl : l.length < 128) (h6 : m 7 6 = nI l.length) (h8 : ∀ j, j < l.length → m 8 j = nI (l.getD j 0)) {Φ : Int32 → it_Me → Prop} {K82 K90 : it_Me → Prop} : ∀ (r j : Nat), j + r = l.length → ((∀ a, a ∈ l.drop j → ¬ mtR m x y a) → K90 m) → ((∃ a, a ∈ l.drop j ∧ mtR m x y a) → K82 m) → w_167_35 kc Φ K82 K90 (r + 1) x y (nI j) m := by
  intro r
  induction r with
  | zero =>
    intro j hj h1 h0
    unfold w_167_35
    rw [h6, nLe (by omega) (by omega)]
    refine ⟨fun _ => h1 (fun a ha => ?_), fun q => absurd (by omega) q⟩
    rw [List.drop_eq_nil_of_le (by omega)] at ha
    cases ha
  | succ r ih =>
    intro j hj h1 h0
    have hd := dropC l (j := j) (by omega)
    have v := vp_in_nI (n := j) (N := 128) (by omega) (by omega)
    unfold w_167_35 w_167_84
    rw [h6, nLe (by omega) (by omega), nI_clamp (by omega), h8 j (by omega), nI_1]
    have nx1 : (¬ mtR m x y (l.getD j 0)) → w_167_35 kc Φ K82 K90 (r + 1) x y (nI (j + 1)) m := fun q => ih (j + 1) (by omega) (fun g => h1 (fun a ha => by
      rw [hd] at ha
      rcases List.mem_cons.mp ha with e | e
      · rw [e]; exact q
      · exact g a e)) (fun ⟨a, ha, g⟩ => h0 ⟨a, by rw [hd]; exact List.mem_cons_of_mem _ ha, g⟩)
    refine ⟨fun q => absurd q (by omega), fun _ => ⟨v, c_12 ⟨fun q1 => ⟨v, ?_⟩, fun q1 => nx1 (fun g => q1 g.1)⟩⟩⟩
    rw [h8 j (by omega), n_4]
    exact c_12 ⟨fun q2 => h0 ⟨_, by rw [hd]; exact List.mem_cons_self, q1, q2⟩, fun q2 => nx1 (fun g => q2 g.2)⟩
theorem c_167 {kc : it_Kc} {m : it_Me} {l : List Nat} (hl : l.length < 128) (h6 : m 7 6 = nI l.length) (h8 : ∀ j, j < l.length → m 8 j = nI (l.getD j 0)) {i A : Nat} (hi : i < l.length) (hA : l.getD i 0 = A) {Φ : Int32 → it_Me → Prop} (h1 : (∀ a, a ∈ l.drop (i + 1) → ¬ mtR m (gw m (nI A)) (gw m (nI (A + 4))) a) → Φ 1 m) (h0 : (∃ a, a ∈ l.drop (i + 1) ∧ mtR m (gw m (nI A)) (gw m (nI (A + 4))) a) → Φ 0 m) : w_167 kc (nI i) m Φ := by
  have v := vp_in_nI (n := i) (N := 128) (by omega) (by omega)
  unfold w_167
  rw [nI_clamp (by omega), h8 i hi, hA, nI_1]
  refine ⟨v, c_12 ⟨v, ?_⟩⟩
  rw [h8 i hi, hA, n_4]
  exact c_12 ⟨_, ltL hl h6 h8 (l.length - (i + 1)) (i + 1) (by omega) h1 h0⟩
theorem lastM_ap (m : it_Me) (x y : Int32) : ∀ (as bs : List Nat) (o : Option Nat), lastM m x y (as ++ bs) o = lastM m x y bs (lastM m x y as o) := by
  intro as
  induction as with
  | nil => intro bs o; rfl
  | cons a as ih => intro bs o; simp only [List.cons_append, lastM, ih]
theorem lastM_no (m : it_Me) (x y : Int32) : ∀ (as : List Nat) (o : Option Nat), (∀ a, a ∈ as → ¬ mtR m x y a) → lastM m x y as o = o := by
  intro as
  induction as with
  | nil => intro o _; rfl
  | cons a as ih =>
    intro o h
    simp only [lastM]
    rw [if_neg (h a List.mem_cons_self)]
    exact ih o (fun b hb => h b (List.mem_cons_of_mem _ hb))
theorem lastM_ex (m : it_Me) (x y : Int32) : ∀ (as : List Nat) (o : Option Nat), (∃ a, a ∈ as ∧ mtR m x y a) → ∃ a, a ∈ as ∧ lastM m x y as o = some a := by
  intro as
  induction as with
  | nil => intro o ⟨a, h, _⟩; cases h
  | cons a as ih =>
    intro o h
    simp only [lastM]
    by_cases q : ∃ b, b ∈ as ∧ mtR m x y b
    · obtain ⟨b, h1, h2⟩ := ih (@ite _ (mtR m x y a) (Classical.propDecidable _) (some a) o) q
      exact ⟨b, List.mem_cons_of_mem _ h1, h2⟩
    · obtain ⟨b, h1, h2⟩ := h
      rcases List.mem_cons.mp h1 with e | e
      · subst e
        rw [if_pos h2, lastM_no m x y as _ (fun c hc hm => q ⟨c, hc, hm⟩)]
        exact ⟨b, List.mem_cons_self, rfl⟩
      · exact absurd ⟨b, e, h2⟩ q
theorem bkR {b : Nat} (h : b = 126976 ∨ b = 129024) : 126976 ≤ b ∧ b + 2048 ≤ 131072 ∧ b % 4 = 0 := by omega
/-- a record copied, word by word -/
theorem cpy {kc : it_Kc} {B : Nat} {b T A i s : Nat} (hb : b = 126976 ∨ b = 129024) (hT : b ≤ T ∧ T + s ≤ b + 2048 ∧ T % 4 = 0) (hA : 126976 ≤ A ∧ A + s ≤ 131072 ∧ A % 4 = 0) (hs : s % 4 = 0) (bk v2 v3 : Int32) : ∀ (r k : Nat) (m : it_Me), 4 * k + 4 * r = s → Inv B m → ∃ m', (∀ (Φ : it_Me → Prop) (K : Int32 → Int32 → Int32 → Int32 → it_Me → Prop), K (nI b) (nI T) (nI i) (nI s) m' → w_166_84 kc Φ K (r + 1) (nI b) (nI T) (nI i) (nI A) (nI s) (nI (4 * k)) m) ∧ Inv B m' ∧ Kst m m' b (b + 2048) ∧ ∀ M, Rel m M → ∀ (Φ : it_Me → Prop) (K : Int32 → Int32 → Int32 → Int32 → Int32 → it_Me → Prop), (∀ M', Rel m' M' → FrM M M' → K bk v2 v3 (nI (T + s)) (nI (A + s)) M') → w_240_120 kc Φ K (r + 1) bk v2 v3 (nI (T + 4 * k)) (nI (A + s)) 1 (nI (A + 4 * k)) M := by
  have n10 : ¬ (1 : Int32) = 0 := by decide
  intro r
  induction r with
  | zero =>
    intro k m hk hI
    have ek : 4 * k = s := by omega
    refine ⟨m, fun Φ K h => ?_, hI, kst_0 _ _ _, fun M hM Φ K h => ?_⟩
    · unfold w_166_84
      rw [ek, nLe (by omega) (by omega)]
      exact ⟨fun _ => h, fun q => absurd (Nat.le_refl _) q⟩
    · unfold w_240_120
      rw [ek, nLe (by omega) (by omega)]
      exact ⟨fun q => absurd q n10, fun _ => ⟨fun _ => h M hM FrM.rfl, fun q => absurd (Nat.le_refl _) q⟩⟩
  | succ r ih =>
    intro k m hk hI
    obtain ⟨m1, a1, a2, a3, a4⟩ := pt (kc := kc) hI (A := T + 4 * k) (by omega) (by omega) (gw m (nI (A + 4 * k)))
    obtain ⟨m', b1, b2, b3, b4⟩ := ih (k + 1) m1 (by omega) a2
    refine ⟨m', fun Φ K h => ?_, b2, kst_t (kst_m a3 (by omega) (by omega)) b3, fun M hM Φ K h => ?_⟩
    · unfold w_166_84
      rw [nLe (by omega) (by omega), nI_add, nI_add, n_4]
      exact ⟨fun q => absurd q (by omega), fun _ => c_12 (a1 _ (b1 Φ K h))⟩
    · unfold w_240_120
      rw [nLe (by omega) (by omega), n_4, n_4]
      exact ⟨fun q => absurd q n10, fun _ => ⟨fun q => absurd q (by omega), fun _ => rS hI hM (by omega) (by omega) (a4 M hM _ (fun M1 r1 f1 => b4 M1 r1 Φ K (fun M' r f => h M' r (f1.trans f))))⟩⟩
/-- the walk of both, record by record -/
theorem cpW {kc : it_Kc} {B : Nat} {b c : Nat} (hb : b = 126976 ∨ b = 129024) (hc : c = 256000 - b) {bk : Int32} (eb : 126976 + 2048 * bk = nI b) (v2 v3 : Int32) {l : List Nat} (hl : l.length < 128) {ss : List Nat} (el : l = pls (b + 4) ss) : ∀ (ss2 : List Nat) (A T : Nat) (pre : List Nat) (m : it_Me), l = pre ++ pls A ss2 → b + 4 ≤ A → A % 4 = 0 → c + 4 ≤ T → T % 4 = 0 → T + b ≤ A + c → A ≤ b + 2048 → Inv B m → Wk m b (b + 4) ss → Wk m b A ss2 → m 7 6 = nI l.length → (∀ j, j < l.length → m 8 j = nI (l.getD j 0)) → ∃ m', (∀ (Φ : it_Me → Prop) (K : Int32 → it_Me → Prop), K (nI c) m' → w_166_28 kc Φ K (ss2.length + 1) (nI c) (nI T) (nI pre.length) m) ∧ Inv B m' ∧ Kst m m' c (c + 2048) ∧ ∀ M, Rel m M → ∀ (Φ : it_Me → Prop) (K : Int32 → Int32 → it_Me → Prop), (∀ M', Rel m' M' → FrM M M' → K v2 v3 M') → w_240_57 kc Φ K (ss2.length + 1) bk v2 v3 (nI T) (nI A) (nx A ss2) M := by
  have hB := bkR hb
  intro ss2
  induction ss2 with
  | nil =>
    intro A T pre m e hA hA4 hT hT4 hTA hAb hI hW hW2 h6 h8
    have ll : l.length = pre.length := by rw [e]; simp [pls]
    refine ⟨m, fun Φ K h => ?_, hI, kst_0 _ _ _, fun M hM Φ K h => ?_⟩
    · simp only [List.length_nil]
      unfold w_166_28
      rw [h6, nLe (by omega) (by omega)]
      exact ⟨fun _ => h, fun q => absurd (by omega) q⟩
    · simp only [List.length_nil]
      unfold w_240_57
      exact ⟨fun _ => h M hM FrM.rfl, fun q => absurd rfl q⟩
  | cons s ss2 ih =>
    intro A T pre m e hA hA4 hT hT4 hTA hAb hI hW hW2 h6 h8
    have z := rc_sz hW2.1
    have ee := hW2.1.2.2.2.2.1
    have hok := hW2.1.2.2.1
    have hsz := hW2.1.2.2.2.1
    simp only [pls] at e
    have ll : l.length = pre.length + 1 + (pls (A + s) ss2).length := by rw [e]; simp; omega
    have lt : pre.length < l.length := by omega
    have gA : l.getD pre.length 0 = A := by
      rw [e, List.getD_eq_getElem?_getD, List.getElem?_append_right (Nat.le_refl _), Nat.sub_self]
      rfl
    have dA : l.drop (pre.length + 1) = pls (A + s) ss2 := by
      rw [e, List.drop_append]
      simp
    have e' : l = (pre ++ [A]) ++ pls (A + s) ss2 := by rw [e]; simp
    have pl' : (pre ++ [A]).length = pre.length + 1 := by simp
    have vv := vp_in_nI (n := pre.length) (N := 128) (by omega) (by omega)
    have lastE : ∀ o, lastM m (gw m (nI A)) (gw m (nI (A + 4))) (A :: pls (A + s) ss2) o = lastM m (gw m (nI A)) (gw m (nI (A + 4))) (pls (A + s) ss2) (some A) := fun o => by
      simp only [lastM]
      rw [if_pos ⟨rfl, rfl⟩]
    have lastL : lastM m (gw m (nI A)) (gw m (nI (A + 4))) (pls (b + 4) ss) none = lastM m (gw m (nI A)) (gw m (nI (A + 4))) (pls (A + s) ss2) (some A) := by
      rw [← el, e, lastM_ap, lastE]
    have rA : 126976 ≤ A ∧ A + s ≤ 131072 := by omega
    have nM : ¬ nI (A + s) = -1 := nM1 (by omega)
    have exN : nx A (s :: ss2) = nI (A + s) := rfl
    by_cases cnts : gw m (nI (A + 8)) ≠ 255 ∧ ∀ a, a ∈ pls (A + s) ss2 → ¬ mtR m (gw m (nI A)) (gw m (nI (A + 4))) a
    · obtain ⟨m1, a1, a2, a3, a4⟩ := cpy (kc := kc) (B := B) (b := c) (T := T) (A := A) (i := pre.length) (s := s) (by omega) (by omega) (by omega) (by omega) bk v2 v3 (s / 4) 0 m (by omega) hI
      have gk : ∀ X, b ≤ X → X < b + 2048 → gw m1 (nI X) = gw m (nI X) := fun X x1 x2 => kst_g a3 (by omega) (by omega) (by omega)
      obtain ⟨m', b1, b2, b3, b4⟩ := ih (A + s) (T + s) (pre ++ [A]) m1 e' (by omega) (by omega) (by omega) (by omega) (by omega) (by omega) a2 (Wk_g gk ss _ (by omega) hW) (Wk_g gk ss2 _ (by omega) hW2.2) (by rw [a3.2.1 6 (by omega) (by omega)]; exact h6) (by rw [a3.1 8 (by omega) (by omega) (by omega)]; exact h8)
      rw [pl'] at b1
      refine ⟨m', fun Φ K h => ?_, b2, kst_t a3 b3, fun M hM Φ K h => ?_⟩
      · simp only [List.length_cons]
        unfold w_166_28
        rw [h6, nLe (by omega) (by omega), nI_clamp (by omega), h8 _ lt, gA, n_8]
        refine ⟨fun q => absurd q (by omega), fun _ => ⟨vv, c_12 ⟨fun q => absurd q cnts.1, fun _ => c_167 hl h6 h8 lt gA (fun _ => ⟨fun q => absurd q (by decide), fun _ => c_162 hok ?_⟩) (fun ⟨a, x1, x2⟩ => absurd x2 (cnts.2 a (by rw [← dA]; exact x1)))⟩⟩⟩
        rw [← hsz]
        refine ⟨_, a1 _ _ ?_⟩
        unfold w_166_117 w_166_122
        rw [nI_add, nI_1]
        exact b1 Φ K h
      · simp only [List.length_cons]
        rw [exN]
        unfold w_240_57
        rw [hM.lost, n_8, n_4]
        refine ⟨fun q => absurd q nM, fun _ => ⟨fun q => rS hI hM (by omega) (by omega) ⟨fun q1 => absurd q1 cnts.1, fun _ => rS hI hM (by omega) (by omega) (rS hI hM (by omega) (by omega) (r_238 hI hM eb hB hW ?_))⟩, fun q => ?_⟩⟩
        · rw [lastL, lastM_no _ _ _ _ _ cnts.2]
          refine ⟨fun _ => ?_, fun q => absurd rfl q⟩
          unfold w_240_114
          refine ⟨_, a4 M hM _ _ (fun M1 r1 f1 => ?_)⟩
          unfold w_240_153
          exact r_Wk a2 r1 eb hB (by omega) (Wk_g gk ss2 _ (by omega) hW2.2) (b4 M1 r1 Φ K (fun M' r f => h M' r (f1.trans f)))
        · have e1 : m1 = m := a3.2.2.2 q
          have e2 : m' = m := by rw [b3.2.2.2 (by rw [e1]; exact q), e1]
          exact h M (by rw [e2]; exact hM) FrM.rfl
    · obtain ⟨m', b1, b2, b3, b4⟩ := ih (A + s) T (pre ++ [A]) m e' (by omega) (by omega) (by omega) (by omega) (by omega) (by omega) hI hW hW2.2 h6 h8
      rw [pl'] at b1
      have skip : gw m (nI (A + 8)) ≠ 255 → ∃ a, a ∈ pls (A + s) ss2 ∧ mtR m (gw m (nI A)) (gw m (nI (A + 4))) a := fun q => Classical.byContradiction fun y => cnts ⟨q, fun a x1 x2 => y ⟨a, x1, x2⟩⟩
      refine ⟨m', fun Φ K h => ?_, b2, b3, fun M hM Φ K h => ?_⟩
      · simp only [List.length_cons]
        have fin := b1 Φ K h
        unfold w_166_28
        rw [h6, nLe (by omega) (by omega), nI_clamp (by omega), h8 _ lt, gA, n_8]
        refine ⟨fun q => absurd q (by omega), fun _ => ⟨vv, c_12 ⟨fun q => ?_, fun q => c_167 hl h6 h8 lt gA (fun g => ?_) (fun _ => ⟨fun _ => ?_, fun q => absurd rfl q⟩)⟩⟩⟩
        · unfold w_166_122
          rw [nI_1]
          exact fin
        · obtain ⟨a, x1, x2⟩ := skip q
          exact absurd x2 (g a (by rw [dA]; exact x1))
        · unfold w_166_122
          rw [nI_1]
          exact fin
      · simp only [List.length_cons]
        rw [exN]
        have fin : ∀ (Φ : it_Me → Prop) (K : Int32 → Int32 → it_Me → Prop), (∀ M', Rel m' M' → FrM M M' → K v2 v3 M') → w_240_113 kc Φ (w_240_57 kc Φ K (ss2.length + 1)) K bk v2 v3 (nI T) (nI A) (nI (A + s)) M := fun Φ K h => by
          unfold w_240_113 w_240_114
          refine ⟨1, ?_⟩
          unfold w_240_120
          refine ⟨fun _ => ?_, fun q => absurd rfl q⟩
          unfold w_240_153
          exact r_Wk hI hM eb hB (by omega) hW2.2 (b4 M hM Φ K h)
        unfold w_240_57
        rw [hM.lost, n_8, n_4]
        refine ⟨fun q => absurd q nM, fun _ => ⟨fun q => rS hI hM (by omega) (by omega) ⟨fun q1 => fin Φ K h, fun q1 => rS hI hM (by omega) (by omega) (rS hI hM (by omega) (by omega) (r_238 hI hM eb hB hW ?_))⟩, fun q => ?_⟩⟩
        · obtain ⟨a, x1, x2⟩ := lastM_ex m (gw m (nI A)) (gw m (nI (A + 4))) (pls (A + s) ss2) (some A) (skip q1)
          rw [lastL, x2]
          have pa := pls_in ss2 (A + s) hW2.2 (by omega) a x1
          obtain ⟨s', ps'⟩ := pa.2.2
          have := ps'.1
          refine ⟨fun y => ?_, fun _ => fin Φ K h⟩
          have y' : nI a = nI A := y
          rw [nEq (by omega) (by omega)] at y'
          omega
        · exact h M (by rw [b3.2.2.2 q]; exact hM) FrM.rfl
theorem ser1 (x : Int32) : ((x &&& 65535) + 1) &&& 65535 = (x + 1) &&& 65535 := by
  apply Int32.toInt_inj.mp
  have o1 : (1 : Int32).toInt = 1 := rfl
  rw [and65535, and65535, Int32.toInt_add, Int32.toInt_add, and65535, o1, bm32, bm32]
  omega
theorem obk {m : it_Me} {b : Nat} (F : BkF m b) : (126976 : Int32) + 2048 * (1 - bkI (m 7 2)) = nI (256000 - b) ∧ bkI (nI (256000 - b)) = 1 - bkI (m 7 2) ∧ (256000 - b = 126976 ∨ 256000 - b = 129024) ∧ (m 7 2 = 126976 → nI (256000 - b) = 129024) ∧ (¬ m 7 2 = 126976 → nI (256000 - b) = 126976) := by
  rcases F.bb with e | e
  · subst e
    rw [F.h2]
    decide
  · subst e
    rw [F.h2]
    decide
theorem bkI_I {B : Nat} {m : it_Me} (hI : Inv B m) {x : Int32} (hx : x = 126976 ∨ x = 129024) : Inv B (it_sv m 7 2 x) := (Inv.upd (hI) (Nat.le_refl B) ([7]) (by intro k hk; simp only [List.mem_cons, List.not_mem_nil, or_false, not_or, not_false_eq_true] at hk; first | rfl | (repeat (first | rw [sv_cell _ _ _ _ (by omega)] | rw [up_cell _ _ _ (by omega)] | rw [fil_cell _ _ _ _ _ (by omega)]))) (by first | (refine Or.inl (And.intro ?_ ?_) <;> first | (simp only [List.mem_cons, List.not_mem_nil, or_false, forall_eq_or_imp, forall_eq, false_implies, implies_true, and_true] <;> omega) | (repeat' (first | exact True.intro | rfl | refine And.intro ?_ ?_ | (rw [sv_ne _ _ _ _ (by omega)]) | (rw [up_cell _ _ _ (by omega)]) | (rw [fil_cell _ _ _ _ _ (by omega)]) | (rw [hM _ (by omega)]) | (rw [hm _ (by omega)])))) | (have t_ := Inv.tl (hI); exact Or.inr t_)) (by first | (refine Or.inl (And.intro ?_ ?_) <;> first | (simp only [List.mem_cons, List.not_mem_nil, or_false, forall_eq_or_imp, forall_eq, false_implies, implies_true, and_true] <;> omega) | (repeat' (first | exact True.intro | rfl | refine And.intro ?_ ?_ | (rw [sv_ne _ _ _ _ (by omega)]) | (rw [up_cell _ _ _ (by omega)]) | (rw [fil_cell _ _ _ _ _ (by omega)]) | (rw [hM _ (by omega)]) | (rw [hm _ (by omega)])))) | (have t_ := Inv.tp (hI); exact Or.inr t_)) (by first | (refine Or.inl (And.intro ?_ ?_) <;> first | (simp only [List.mem_cons, List.not_mem_nil, or_false, forall_eq_or_imp, forall_eq, false_implies, implies_true, and_true] <;> omega) | (repeat' (first | exact True.intro | rfl | refine And.intro ?_ ?_ | (rw [sv_ne _ _ _ _ (by omega)]) | (rw [up_cell _ _ _ (by omega)]) | (rw [fil_cell _ _ _ _ _ (by omega)]) | (rw [hM _ (by omega)]) | (rw [hm _ (by omega)])))) | (have t_ := Inv.on (hI); exact Or.inr t_)) (by first | (refine Or.inl (And.intro ?_ ?_) <;> first | (simp only [List.mem_cons, List.not_mem_nil, or_false, forall_eq_or_imp, forall_eq, false_implies, implies_true, and_true] <;> omega) | (repeat' (first | exact True.intro | rfl | refine And.intro ?_ ?_ | (rw [sv_ne _ _ _ _ (by omega)]) | (rw [up_cell _ _ _ (by omega)]) | (rw [fil_cell _ _ _ _ _ (by omega)]) | (rw [hM _ (by omega)]) | (rw [hm _ (by omega)])))) | (have t_ := Inv.off (hI); exact Or.inr t_)) (by first | (refine Or.inl (And.intro ?_ ?_) <;> first | (simp only [List.mem_cons, List.not_mem_nil, or_false, forall_eq_or_imp, forall_eq, false_implies, implies_true, and_true] <;> omega) | (repeat' (first | exact True.intro | rfl | refine And.intro ?_ ?_ | (rw [sv_ne _ _ _ _ (by omega)]) | (rw [up_cell _ _ _ (by omega)]) | (rw [fil_cell _ _ _ _ _ (by omega)]) | (rw [hM _ (by omega)]) | (rw [hm _ (by omega)])))) | (have t_ := Inv.cn (hI); exact Or.inr t_)) (by first | (refine Or.inl (And.intro ?_ ?_) <;> first | (simp only [List.mem_cons, List.not_mem_nil, or_false, forall_eq_or_imp, forall_eq, false_implies, implies_true, and_true] <;> omega) | (repeat' (first | exact True.intro | rfl | refine And.intro ?_ ?_ | (rw [sv_ne _ _ _ _ (by omega)]) | (rw [up_cell _ _ _ (by omega)]) | (rw [fil_cell _ _ _ _ _ (by omega)]) | (rw [hM _ (by omega)]) | (rw [hm _ (by omega)])))) | (have t_ := Inv.ev (hI); exact Or.inr t_)) (by first | (refine Or.inl (And.intro ?_ ?_) <;> first | (simp only [List.mem_cons, List.not_mem_nil, or_false, forall_eq_or_imp, forall_eq, false_implies, implies_true, and_true] <;> omega) | (repeat' (first | exact True.intro | rfl | refine And.intro ?_ ?_ | (rw [sv_ne _ _ _ _ (by omega)]) | (rw [up_cell _ _ _ (by omega)]) | (rw [fil_cell _ _ _ _ _ (by omega)]) | (rw [hM _ (by omega)]) | (rw [hm _ (by omega)])))) | (have t_ := Inv.out (hI); exact Or.inr t_)) (by first | (refine Or.inl (And.intro ?_ ?_) <;> first | (simp only [List.mem_cons, List.not_mem_nil, or_false, forall_eq_or_imp, forall_eq, false_implies, implies_true, and_true] <;> omega) | (repeat' (first | exact True.intro | rfl | refine And.intro ?_ ?_ | (rw [sv_ne _ _ _ _ (by omega)]) | (rw [up_cell _ _ _ (by omega)]) | (rw [fil_cell _ _ _ _ _ (by omega)]) | (rw [hM _ (by omega)]) | (rw [hm _ (by omega)])))) | (have t_ := Inv.num (hI); exact Or.inr t_)) (by first | (refine Or.inl (And.intro ?_ ?_) <;> first | (simp only [List.mem_cons, List.not_mem_nil, or_false, forall_eq_or_imp, forall_eq, false_implies, implies_true, and_true] <;> omega) | (repeat' (first | exact True.intro | rfl | refine And.intro ?_ ?_ | (rw [sv_ne _ _ _ _ (by omega)]) | (rw [up_cell _ _ _ (by omega)]) | (rw [fil_cell _ _ _ _ _ (by omega)]) | (rw [hM _ (by omega)]) | (rw [hm _ (by omega)])))) | (have t_ := Inv.crc (hI); exact Or.inr t_)) (Or.inr (by rw [sv_same]; rcases hx with e | e <;> rw [e] <;> decide)) (Or.inr (by intro _; rw [sv_same]; rcases hx with e | e <;> rw [e] <;> decide)) (by first | (refine Or.inl (And.intro ?_ ?_) <;> first | (simp only [List.mem_cons, List.not_mem_nil, or_false, forall_eq_or_imp, forall_eq, false_implies, implies_true, and_true] <;> omega) | (repeat' (first | exact True.intro | rfl | refine And.intro ?_ ?_ | (rw [sv_ne _ _ _ _ (by omega)]) | (rw [up_cell _ _ _ (by omega)]) | (rw [fil_cell _ _ _ _ _ (by omega)]) | (rw [hM _ (by omega)]) | (rw [hm _ (by omega)])))) | (have t_ := Inv.pw (hI); exact Or.inr t_)) (by first | (refine Or.inl (And.intro ?_ ?_) <;> first | (simp only [List.mem_cons, List.not_mem_nil, or_false, forall_eq_or_imp, forall_eq, false_implies, implies_true, and_true] <;> omega) | (repeat' (first | exact True.intro | rfl | refine And.intro ?_ ?_ | (rw [sv_ne _ _ _ _ (by omega)]) | (rw [up_cell _ _ _ (by omega)]) | (rw [fil_cell _ _ _ _ _ (by omega)]) | (rw [hM _ (by omega)]) | (rw [hm _ (by omega)])))) | (have t_ := Inv.kd (hI); exact Or.inr t_)) (by first | (refine Or.inl (And.intro ?_ ?_) <;> first | (simp only [List.mem_cons, List.not_mem_nil, or_false, forall_eq_or_imp, forall_eq, false_implies, implies_true, and_true] <;> omega) | (repeat' (first | exact True.intro | rfl | refine And.intro ?_ ?_ | (rw [sv_ne _ _ _ _ (by omega)]) | (rw [up_cell _ _ _ (by omega)]) | (rw [fil_cell _ _ _ _ _ (by omega)]) | (rw [hM _ (by omega)]) | (rw [hm _ (by omega)])))) | (have t_ := Inv.tn (hI); exact Or.inr t_)) (by first | (refine Or.inl (And.intro ?_ ?_) <;> first | (simp only [List.mem_cons, List.not_mem_nil, or_false, forall_eq_or_imp, forall_eq, false_implies, implies_true, and_true] <;> omega) | (repeat' (first | exact True.intro | rfl | refine And.intro ?_ ?_ | (rw [sv_ne _ _ _ _ (by omega)]) | (rw [up_cell _ _ _ (by omega)]) | (rw [fil_cell _ _ _ _ _ (by omega)]) | (rw [hM _ (by omega)]) | (rw [hm _ (by omega)])))) | (have t_ := Inv.ask (hI); exact Or.inr t_)) (by first | (refine Or.inl (And.intro ?_ ?_) <;> first | (simp only [List.mem_cons, List.not_mem_nil, or_false, forall_eq_or_imp, forall_eq, false_implies, implies_true, and_true] <;> omega) | (repeat' (first | exact True.intro | rfl | refine And.intro ?_ ?_ | (rw [sv_ne _ _ _ _ (by omega)]) | (rw [up_cell _ _ _ (by omega)]) | (rw [fil_cell _ _ _ _ _ (by omega)]) | (rw [hM _ (by omega)]) | (rw [hm _ (by omega)])))) | (have t_ := Inv.askW (hI); exact Or.inr t_)) (by first | (refine Or.inl (And.intro ?_ ?_) <;> first | (simp only [List.mem_cons, List.not_mem_nil, or_false, forall_eq_or_imp, forall_eq, false_implies, implies_true, and_true] <;> omega) | (repeat' (first | exact True.intro | rfl | refine And.intro ?_ ?_ | (rw [sv_ne _ _ _ _ (by omega)]) | (rw [up_cell _ _ _ (by omega)]) | (rw [fil_cell _ _ _ _ _ (by omega)]) | (rw [hM _ (by omega)]) | (rw [hm _ (by omega)])))) | (have t_ := Inv.askR (hI); exact Or.inr t_)) (by first | (refine Or.inl (And.intro ?_ ?_) <;> first | (simp only [List.mem_cons, List.not_mem_nil, or_false, forall_eq_or_imp, forall_eq, false_implies, implies_true, and_true] <;> omega) | (repeat' (first | exact True.intro | rfl | refine And.intro ?_ ?_ | (rw [sv_ne _ _ _ _ (by omega)]) | (rw [up_cell _ _ _ (by omega)]) | (rw [fil_cell _ _ _ _ _ (by omega)]) | (rw [hM _ (by omega)]) | (rw [hm _ (by omega)])))) | (have t_ := Inv.lv0 (hI); exact Or.inr t_)) (by first | (refine Or.inl (And.intro ?_ ?_) <;> first | (simp only [List.mem_cons, List.not_mem_nil, or_false, forall_eq_or_imp, forall_eq, false_implies, implies_true, and_true] <;> omega) | (repeat' (first | exact True.intro | rfl | refine And.intro ?_ ?_ | (rw [sv_ne _ _ _ _ (by omega)]) | (rw [up_cell _ _ _ (by omega)]) | (rw [fil_cell _ _ _ _ _ (by omega)]) | (rw [hM _ (by omega)]) | (rw [hm _ (by omega)])))) | (have t_ := Inv.lv2 (hI); exact Or.inr t_)) (by first | (refine Or.inl (And.intro ?_ ?_) <;> first | (simp only [List.mem_cons, List.not_mem_nil, or_false, forall_eq_or_imp, forall_eq, false_implies, implies_true, and_true] <;> omega) | (repeat' (first | exact True.intro | rfl | refine And.intro ?_ ?_ | (rw [sv_ne _ _ _ _ (by omega)]) | (rw [up_cell _ _ _ (by omega)]) | (rw [fil_cell _ _ _ _ _ (by omega)]) | (rw [hM _ (by omega)]) | (rw [hm _ (by omega)])))) | (have t_ := Inv.pl (hI); exact Or.inr t_)) (by first | (refine Or.inl (And.intro ?_ ?_) <;> first | (simp only [List.mem_cons, List.not_mem_nil, or_false, forall_eq_or_imp, forall_eq, false_implies, implies_true, and_true] <;> omega) | (repeat' (first | exact True.intro | rfl | refine And.intro ?_ ?_ | (rw [sv_ne _ _ _ _ (by omega)]) | (rw [up_cell _ _ _ (by omega)]) | (rw [fil_cell _ _ _ _ _ (by omega)]) | (rw [hM _ (by omega)]) | (rw [hm _ (by omega)])))) | (have t_ := Inv.pi (hI); exact Or.inr t_)) (by first | (refine Or.inl (And.intro ?_ ?_) <;> first | (simp only [List.mem_cons, List.not_mem_nil, or_false, forall_eq_or_imp, forall_eq, false_implies, implies_true, and_true] <;> omega) | (repeat' (first | exact True.intro | rfl | refine And.intro ?_ ?_ | (rw [sv_ne _ _ _ _ (by omega)]) | (rw [up_cell _ _ _ (by omega)]) | (rw [fil_cell _ _ _ _ _ (by omega)]) | (rw [hM _ (by omega)]) | (rw [hm _ (by omega)])))) | (have t_ := Inv.dis (hI); exact Or.inr t_)))
theorem bkI_R {m M : it_Me} (hM : Rel m M) (h8 : cnt m ≤ 8) (x : Int32) : Rel (it_sv m 7 2 x) (it_sv M 66 17 (bkI x)) := (Rel.upd (hM) (h8) ([7]) ([66]) (by intro k hk; simp only [List.mem_cons, List.not_mem_nil, or_false, not_or, not_false_eq_true] at hk; first | rfl | (repeat (first | rw [sv_cell _ _ _ _ (by omega)] | rw [up_cell _ _ _ (by omega)] | rw [fil_cell _ _ _ _ _ (by omega)]))) (by intro k hk; simp only [List.mem_cons, List.not_mem_nil, or_false, not_or, not_false_eq_true] at hk; first | rfl | (repeat (first | rw [sv_cell _ _ _ _ (by omega)] | rw [up_cell _ _ _ (by omega)] | rw [fil_cell _ _ _ _ _ (by omega)]))) (by first | (refine Or.inl (And.intro ?_ (And.intro ?_ ?_)) <;> first | (simp only [List.mem_cons, List.not_mem_nil, or_false, forall_eq_or_imp, forall_eq, false_implies, implies_true, and_true] <;> omega) | (repeat' (first | exact True.intro | rfl | refine And.intro ?_ ?_ | (rw [sv_ne _ _ _ _ (by omega)]) | (rw [up_cell _ _ _ (by omega)]) | (rw [fil_cell _ _ _ _ _ (by omega)]) | (rw [hM _ (by omega)]) | (rw [hm _ (by omega)])))) | (have t_ := Rel.tapeLen (hM); exact Or.inr t_)) (by first | (refine Or.inl (And.intro ?_ (And.intro ?_ ?_)) <;> first | (simp only [List.mem_cons, List.not_mem_nil, or_false, forall_eq_or_imp, forall_eq, false_implies, implies_true, and_true] <;> omega) | (repeat' (first | exact True.intro | rfl | refine And.intro ?_ ?_ | (rw [sv_ne _ _ _ _ (by omega)]) | (rw [up_cell _ _ _ (by omega)]) | (rw [fil_cell _ _ _ _ _ (by omega)]) | (rw [hM _ (by omega)]) | (rw [hm _ (by omega)])))) | (have t_ := Rel.on (hM); exact Or.inr t_)) (by first | (refine Or.inl (And.intro ?_ (And.intro ?_ ?_)) <;> first | (simp only [List.mem_cons, List.not_mem_nil, or_false, forall_eq_or_imp, forall_eq, false_implies, implies_true, and_true] <;> omega) | (repeat' (first | exact True.intro | rfl | refine And.intro ?_ ?_ | (rw [sv_ne _ _ _ _ (by omega)]) | (rw [up_cell _ _ _ (by omega)]) | (rw [fil_cell _ _ _ _ _ (by omega)]) | (rw [hM _ (by omega)]) | (rw [hm _ (by omega)])))) | (have t_ := Rel.lost (hM); exact Or.inr t_)) (by first | (refine Or.inl (And.intro ?_ (And.intro ?_ ?_)) <;> first | (simp only [List.mem_cons, List.not_mem_nil, or_false, forall_eq_or_imp, forall_eq, false_implies, implies_true, and_true] <;> omega) | (repeat' (first | exact True.intro | rfl | refine And.intro ?_ ?_ | (rw [sv_ne _ _ _ _ (by omega)]) | (rw [up_cell _ _ _ (by omega)]) | (rw [fil_cell _ _ _ _ _ (by omega)]) | (rw [hM _ (by omega)]) | (rw [hm _ (by omega)])))) | (have t_ := Rel.power (hM); exact Or.inr t_)) (by first | (refine Or.inl (And.intro ?_ (And.intro ?_ ?_)) <;> first | (simp only [List.mem_cons, List.not_mem_nil, or_false, forall_eq_or_imp, forall_eq, false_implies, implies_true, and_true] <;> omega) | (repeat' (first | exact True.intro | rfl | refine And.intro ?_ ?_ | (rw [sv_ne _ _ _ _ (by omega)]) | (rw [up_cell _ _ _ (by omega)]) | (rw [fil_cell _ _ _ _ _ (by omega)]) | (rw [hM _ (by omega)]) | (rw [hm _ (by omega)])))) | (have t_ := Rel.time (hM); exact Or.inr t_)) (by first | (refine Or.inl (And.intro ?_ (And.intro ?_ ?_)) <;> first | (simp only [List.mem_cons, List.not_mem_nil, or_false, forall_eq_or_imp, forall_eq, false_implies, implies_true, and_true] <;> omega) | (repeat' (first | exact True.intro | rfl | refine And.intro ?_ ?_ | (rw [sv_ne _ _ _ _ (by omega)]) | (rw [up_cell _ _ _ (by omega)]) | (rw [fil_cell _ _ _ _ _ (by omega)]) | (rw [hM _ (by omega)]) | (rw [hm _ (by omega)])))) | (have t_ := Rel.z (hM); exact Or.inr t_)) (by first | (refine Or.inl (And.intro ?_ (And.intro ?_ ?_)) <;> first | (simp only [List.mem_cons, List.not_mem_nil, or_false, forall_eq_or_imp, forall_eq, false_implies, implies_true, and_true] <;> omega) | (repeat' (first | exact True.intro | rfl | refine And.intro ?_ ?_ | (rw [sv_ne _ _ _ _ (by omega)]) | (rw [up_cell _ _ _ (by omega)]) | (rw [fil_cell _ _ _ _ _ (by omega)]) | (rw [hM _ (by omega)]) | (rw [hm _ (by omega)])))) | (have t_ := Rel.count (hM); exact Or.inr t_)) (by first | (refine Or.inl (And.intro ?_ (And.intro ?_ ?_)) <;> first | (simp only [List.mem_cons, List.not_mem_nil, or_false, forall_eq_or_imp, forall_eq, false_implies, implies_true, and_true] <;> omega) | (repeat' (first | exact True.intro | rfl | refine And.intro ?_ ?_ | (rw [sv_ne _ _ _ _ (by omega)]) | (rw [up_cell _ _ _ (by omega)]) | (rw [fil_cell _ _ _ _ _ (by omega)]) | (rw [hM _ (by omega)]) | (rw [hm _ (by omega)])))) | (have t_ := Rel.turn (hM); exact Or.inr t_)) (Or.inr (by rw [sv_same, sv_same])) (by first | (refine Or.inl (And.intro ?_ (And.intro ?_ ?_)) <;> first | (simp only [List.mem_cons, List.not_mem_nil, or_false, forall_eq_or_imp, forall_eq, false_implies, implies_true, and_true] <;> omega) | (repeat' (first | exact True.intro | rfl | refine And.intro ?_ ?_ | (rw [sv_ne _ _ _ _ (by omega)]) | (rw [up_cell _ _ _ (by omega)]) | (rw [fil_cell _ _ _ _ _ (by omega)]) | (rw [hM _ (by omega)]) | (rw [hm _ (by omega)])))) | (have t_ := Rel.tape (hM); exact Or.inr t_)) (by first | (refine Or.inl (And.intro ?_ (And.intro ?_ ?_)) <;> first | (simp only [List.mem_cons, List.not_mem_nil, or_false, forall_eq_or_imp, forall_eq, false_implies, implies_true, and_true] <;> omega) | (repeat' (first | exact True.intro | rfl | refine And.intro ?_ ?_ | (rw [sv_ne _ _ _ _ (by omega)]) | (rw [up_cell _ _ _ (by omega)]) | (rw [fil_cell _ _ _ _ _ (by omega)]) | (rw [hM _ (by omega)]) | (rw [hm _ (by omega)])))) | (have t_ := Rel.counts (hM); exact Or.inr t_)) (by first | (refine Or.inl (And.intro ?_ (And.intro ?_ ?_)) <;> first | (simp only [List.mem_cons, List.not_mem_nil, or_false, forall_eq_or_imp, forall_eq, false_implies, implies_true, and_true] <;> omega) | (repeat' (first | exact True.intro | rfl | refine And.intro ?_ ?_ | (rw [sv_ne _ _ _ _ (by omega)]) | (rw [up_cell _ _ _ (by omega)]) | (rw [fil_cell _ _ _ _ _ (by omega)]) | (rw [hM _ (by omega)]) | (rw [hm _ (by omega)])))) | (have t_ := Rel.events (hM); exact Or.inr t_)) (by first | (refine Or.inl (And.intro ?_ (And.intro ?_ ?_)) <;> first | (simp only [List.mem_cons, List.not_mem_nil, or_false, forall_eq_or_imp, forall_eq, false_implies, implies_true, and_true] <;> omega) | (repeat' (first | exact True.intro | rfl | refine And.intro ?_ ?_ | (rw [sv_ne _ _ _ _ (by omega)]) | (rw [up_cell _ _ _ (by omega)]) | (rw [fil_cell _ _ _ _ _ (by omega)]) | (rw [hM _ (by omega)]) | (rw [hm _ (by omega)])))) | (have t_ := Rel.out (hM); exact Or.inr t_)) (by first | (refine Or.inl (And.intro ?_ (And.intro ?_ ?_)) <;> first | (simp only [List.mem_cons, List.not_mem_nil, or_false, forall_eq_or_imp, forall_eq, false_implies, implies_true, and_true] <;> omega) | (repeat' (first | exact True.intro | rfl | refine And.intro ?_ ?_ | (rw [sv_ne _ _ _ _ (by omega)]) | (rw [up_cell _ _ _ (by omega)]) | (rw [fil_cell _ _ _ _ _ (by omega)]) | (rw [hM _ (by omega)]) | (rw [hm _ (by omega)])))) | (have t_ := Rel.lamps (hM); exact Or.inr t_)) (by first | (refine Or.inl (And.intro ?_ (And.intro ?_ ?_)) <;> first | (simp only [List.mem_cons, List.not_mem_nil, or_false, forall_eq_or_imp, forall_eq, false_implies, implies_true, and_true] <;> omega) | (repeat' (first | exact True.intro | rfl | refine And.intro ?_ ?_ | (rw [sv_ne _ _ _ _ (by omega)]) | (rw [up_cell _ _ _ (by omega)]) | (rw [fil_cell _ _ _ _ _ (by omega)]) | (rw [hM _ (by omega)]) | (rw [hm _ (by omega)])))) | (have t_ := Rel.buttons (hM); exact Or.inr t_)) (by first | (refine Or.inl (And.intro ?_ (And.intro ?_ ?_)) <;> first | (simp only [List.mem_cons, List.not_mem_nil, or_false, forall_eq_or_imp, forall_eq, false_implies, implies_true, and_true] <;> omega) | (repeat' (first | exact True.intro | rfl | refine And.intro ?_ ?_ | (rw [sv_ne _ _ _ _ (by omega)]) | (rw [up_cell _ _ _ (by omega)]) | (rw [fil_cell _ _ _ _ _ (by omega)]) | (rw [hM _ (by omega)]) | (rw [hm _ (by omega)])))) | (have t_ := Rel.lev (hM); exact Or.inr t_)) (by first | (refine Or.inl (And.intro ?_ (And.intro ?_ ?_)) <;> first | (simp only [List.mem_cons, List.not_mem_nil, or_false, forall_eq_or_imp, forall_eq, false_implies, implies_true, and_true] <;> omega) | (repeat' (first | exact True.intro | rfl | refine And.intro ?_ ?_ | (rw [sv_ne _ _ _ _ (by omega)]) | (rw [up_cell _ _ _ (by omega)]) | (rw [fil_cell _ _ _ _ _ (by omega)]) | (rw [hM _ (by omega)]) | (rw [hm _ (by omega)])))) | (have t_ := Rel.mem (hM); exact Or.inr t_)) (by first | (refine Or.inl (And.intro ?_ (And.intro ?_ ?_)) <;> first | (simp only [List.mem_cons, List.not_mem_nil, or_false, forall_eq_or_imp, forall_eq, false_implies, implies_true, and_true] <;> omega) | (repeat' (first | exact True.intro | rfl | refine And.intro ?_ ?_ | (rw [sv_ne _ _ _ _ (by omega)]) | (rw [up_cell _ _ _ (by omega)]) | (rw [fil_cell _ _ _ _ _ (by omega)]) | (rw [hM _ (by omega)]) | (rw [hm _ (by omega)])))) | (have t_ := Rel.sched (hM); exact Or.inr t_)) (by first | (refine Or.inl (And.intro ?_ (And.intro ?_ ?_)) <;> first | (simp only [List.mem_cons, List.not_mem_nil, or_false, forall_eq_or_imp, forall_eq, false_implies, implies_true, and_true] <;> omega) | (repeat' (first | exact True.intro | rfl | refine And.intro ?_ ?_ | (rw [sv_ne _ _ _ _ (by omega)]) | (rw [up_cell _ _ _ (by omega)]) | (rw [fil_cell _ _ _ _ _ (by omega)]) | (rw [hM _ (by omega)]) | (rw [hm _ (by omega)])))) | (have t_ := Rel.done (hM); exact Or.inr t_)) (by first | (refine Or.inl (And.intro ?_ (And.intro ?_ ?_)) <;> first | (simp only [List.mem_cons, List.not_mem_nil, or_false, forall_eq_or_imp, forall_eq, false_implies, implies_true, and_true] <;> omega) | (repeat' (first | exact True.intro | rfl | refine And.intro ?_ ?_ | (rw [sv_ne _ _ _ _ (by omega)]) | (rw [up_cell _ _ _ (by omega)]) | (rw [fil_cell _ _ _ _ _ (by omega)]) | (rw [hM _ (by omega)]) | (rw [hm _ (by omega)])))) | (have t_ := Rel.levels (hM); exact Or.inr t_)) (by first | (refine Or.inl (And.intro ?_ (And.intro ?_ ?_)) <;> first | (simp only [List.mem_cons, List.not_mem_nil, or_false, forall_eq_or_imp, forall_eq, false_implies, implies_true, and_true] <;> omega) | (repeat' (first | exact True.intro | rfl | refine And.intro ?_ ?_ | (rw [sv_ne _ _ _ _ (by omega)]) | (rw [up_cell _ _ _ (by omega)]) | (rw [fil_cell _ _ _ _ _ (by omega)]) | (rw [hM _ (by omega)]) | (rw [hm _ (by omega)])))) | (have t_ := Rel.places (hM); exact Or.inr t_)) (by first | (refine Or.inl (And.intro ?_ (And.intro ?_ ?_)) <;> first | (simp only [List.mem_cons, List.not_mem_nil, or_false, forall_eq_or_imp, forall_eq, false_implies, implies_true, and_true] <;> omega) | (repeat' (first | exact True.intro | rfl | refine And.intro ?_ ?_ | (rw [sv_ne _ _ _ _ (by omega)]) | (rw [up_cell _ _ _ (by omega)]) | (rw [fil_cell _ _ _ _ _ (by omega)]) | (rw [hM _ (by omega)]) | (rw [hm _ (by omega)])))) | (have t_ := Rel.asked (hM); exact Or.inr t_)) (by first | (refine Or.inl (And.intro ?_ (And.intro ?_ ?_)) <;> first | (simp only [List.mem_cons, List.not_mem_nil, or_false, forall_eq_or_imp, forall_eq, false_implies, implies_true, and_true] <;> omega) | (repeat' (first | exact True.intro | rfl | refine And.intro ?_ ?_ | (rw [sv_ne _ _ _ _ (by omega)]) | (rw [up_cell _ _ _ (by omega)]) | (rw [fil_cell _ _ _ _ _ (by omega)]) | (rw [hM _ (by omega)]) | (rw [hm _ (by omega)])))) | (have t_ := Rel.worder (hM); exact Or.inr t_)) (by first | (refine Or.inl (And.intro ?_ (And.intro ?_ ?_)) <;> first | (simp only [List.mem_cons, List.not_mem_nil, or_false, forall_eq_or_imp, forall_eq, false_implies, implies_true, and_true] <;> omega) | (repeat' (first | exact True.intro | rfl | refine And.intro ?_ ?_ | (rw [sv_ne _ _ _ _ (by omega)]) | (rw [up_cell _ _ _ (by omega)]) | (rw [fil_cell _ _ _ _ _ (by omega)]) | (rw [hM _ (by omega)]) | (rw [hm _ (by omega)])))) | (have t_ := Rel.rorder (hM); exact Or.inr t_)) (by first | (refine Or.inl (And.intro ?_ (And.intro ?_ ?_)) <;> first | (simp only [List.mem_cons, List.not_mem_nil, or_false, forall_eq_or_imp, forall_eq, false_implies, implies_true, and_true] <;> omega) | (repeat' (first | exact True.intro | rfl | refine And.intro ?_ ?_ | (rw [sv_ne _ _ _ _ (by omega)]) | (rw [up_cell _ _ _ (by omega)]) | (rw [fil_cell _ _ _ _ _ (by omega)]) | (rw [hM _ (by omega)]) | (rw [hm _ (by omega)])))) | (have t_ := Rel.ps (hM); exact Or.inr t_)) (by first | (refine Or.inl (And.intro ?_ (And.intro ?_ ?_)) <;> first | (simp only [List.mem_cons, List.not_mem_nil, or_false, forall_eq_or_imp, forall_eq, false_implies, implies_true, and_true] <;> omega) | (repeat' (first | exact True.intro | rfl | refine And.intro ?_ ?_ | (rw [sv_ne _ _ _ _ (by omega)]) | (rw [up_cell _ _ _ (by omega)]) | (rw [fil_cell _ _ _ _ _ (by omega)]) | (rw [hM _ (by omega)]) | (rw [hm _ (by omega)])))) | (have t_ := Rel.app (hM); exact Or.inr t_)) (by first | (refine Or.inl (And.intro ?_ (And.intro ?_ ?_)) <;> first | (simp only [List.mem_cons, List.not_mem_nil, or_false, forall_eq_or_imp, forall_eq, false_implies, implies_true, and_true] <;> omega) | (repeat' (first | exact True.intro | rfl | refine And.intro ?_ ?_ | (rw [sv_ne _ _ _ _ (by omega)]) | (rw [up_cell _ _ _ (by omega)]) | (rw [fil_cell _ _ _ _ _ (by omega)]) | (rw [hM _ (by omega)]) | (rw [hm _ (by omega)])))) | (have t_ := Rel.name (hM); exact Or.inr t_)) (by first | (refine Or.inl (And.intro ?_ (And.intro ?_ ?_)) <;> first | (simp only [List.mem_cons, List.not_mem_nil, or_false, forall_eq_or_imp, forall_eq, false_implies, implies_true, and_true] <;> omega) | (repeat' (first | exact True.intro | rfl | refine And.intro ?_ ?_ | (rw [sv_ne _ _ _ _ (by omega)]) | (rw [up_cell _ _ _ (by omega)]) | (rw [fil_cell _ _ _ _ _ (by omega)]) | (rw [hM _ (by omega)]) | (rw [hm _ (by omega)])))) | (have t_ := Rel.number (hM); exact Or.inr t_)) (by first | (refine Or.inl (And.intro ?_ (And.intro ?_ ?_)) <;> first | (simp only [List.mem_cons, List.not_mem_nil, or_false, forall_eq_or_imp, forall_eq, false_implies, implies_true, and_true] <;> omega) | (repeat' (first | exact True.intro | rfl | refine And.intro ?_ ?_ | (rw [sv_ne _ _ _ _ (by omega)]) | (rw [up_cell _ _ _ (by omega)]) | (rw [fil_cell _ _ _ _ _ (by omega)]) | (rw [hM _ (by omega)]) | (rw [hm _ (by omega)])))) | (have t_ := Rel.bits (hM); exact Or.inr t_)) (by first | (refine Or.inl (And.intro ?_ (And.intro ?_ ?_)) <;> first | (simp only [List.mem_cons, List.not_mem_nil, or_false, forall_eq_or_imp, forall_eq, false_implies, implies_true, and_true] <;> omega) | (repeat' (first | exact True.intro | rfl | refine And.intro ?_ ?_ | (rw [sv_ne _ _ _ _ (by omega)]) | (rw [up_cell _ _ _ (by omega)]) | (rw [fil_cell _ _ _ _ _ (by omega)]) | (rw [hM _ (by omega)]) | (rw [hm _ (by omega)])))) | (have t_ := Rel.regs (hM); exact Or.inr t_)) (by first | (refine Or.inl (And.intro ?_ (And.intro ?_ ?_)) <;> first | (simp only [List.mem_cons, List.not_mem_nil, or_false, forall_eq_or_imp, forall_eq, false_implies, implies_true, and_true] <;> omega) | (repeat' (first | exact True.intro | rfl | refine And.intro ?_ ?_ | (rw [sv_ne _ _ _ _ (by omega)]) | (rw [up_cell _ _ _ (by omega)]) | (rw [fil_cell _ _ _ _ _ (by omega)]) | (rw [hM _ (by omega)]) | (rw [hm _ (by omega)])))) | (have t_ := Rel.rsv (hM); exact Or.inr t_)) (by first | (refine Or.inl (And.intro ?_ (And.intro ?_ ?_)) <;> first | (simp only [List.mem_cons, List.not_mem_nil, or_false, forall_eq_or_imp, forall_eq, false_implies, implies_true, and_true] <;> omega) | (repeat' (first | exact True.intro | rfl | refine And.intro ?_ ?_ | (rw [sv_ne _ _ _ _ (by omega)]) | (rw [up_cell _ _ _ (by omega)]) | (rw [fil_cell _ _ _ _ _ (by omega)]) | (rw [hM _ (by omega)]) | (rw [hm _ (by omega)])))) | (have t_ := Rel.queue (hM); exact Or.inr t_)) (by first | (refine Or.inl (And.intro ?_ (And.intro ?_ ?_)) <;> first | (simp only [List.mem_cons, List.not_mem_nil, or_false, forall_eq_or_imp, forall_eq, false_implies, implies_true, and_true] <;> omega) | (repeat' (first | exact True.intro | rfl | refine And.intro ?_ ?_ | (rw [sv_ne _ _ _ _ (by omega)]) | (rw [up_cell _ _ _ (by omega)]) | (rw [fil_cell _ _ _ _ _ (by omega)]) | (rw [hM _ (by omega)]) | (rw [hm _ (by omega)])))) | (have t_ := Rel.ctlw (hM); exact Or.inr t_)) (by first | (refine Or.inl (And.intro ?_ (And.intro ?_ ?_)) <;> first | (simp only [List.mem_cons, List.not_mem_nil, or_false, forall_eq_or_imp, forall_eq, false_implies, implies_true, and_true] <;> omega) | (repeat' (first | exact True.intro | rfl | refine And.intro ?_ ?_ | (rw [sv_ne _ _ _ _ (by omega)]) | (rw [up_cell _ _ _ (by omega)]) | (rw [fil_cell _ _ _ _ _ (by omega)]) | (rw [hM _ (by omega)]) | (rw [hm _ (by omega)])))) | (have t_ := Rel.wt (hM); exact Or.inr t_)))
/-- compact -/
theorem cm {kc : it_Kc} {B : Nat} {m : it_Me} (hI : Inv B m) {b : Nat} (F : BkF m b) {ss : List Nat} (hW : Wk m b (b + 4) ss) (h6 : m 7 6 = nI ss.length) (h8 : ∀ j, j < ss.length → m 8 j = nI ((pls (b + 4) ss).getD j 0)) (hl : ss.length < 128) : ∃ m', (∀ Φ, Φ m' → w_166 kc m Φ) ∧ Inv B m' ∧ (∀ k, k ≠ 2 → k ≠ 5 → k ≠ 7 → m' k = m k) ∧ (m' 7 2 = nI b ∨ m' 7 2 = nI (256000 - b)) ∧ ∀ M, Rel m M → ∀ Φ, (∀ M', Rel m' M' → FrM M M' → Φ M') → w_240 kc M Φ := by
  obtain ⟨o1, o2, o3, o4, o5⟩ := obk F
  obtain ⟨c, ec⟩ : ∃ c, c = 256000 - b := ⟨_, rfl⟩
  rw [← ec] at o1 o2 o3 o4 o5
  rw [← ec]
  have hB := bkR F.bb
  have hA4 : b ≤ b + 4 ∧ b + 4 ≤ b + 2048 ∧ (b + 4) % 4 = 0 := ⟨by omega, by omega, by omega⟩
  have n4' : nI (c) + 4 = nI (c + 4) := n_4 _
  obtain ⟨m1, a1, a2, a3, a4⟩ := er (kc := kc) hI o1 o3
  have gk : ∀ X, b ≤ X → X < b + 2048 → gw m1 (nI X) = gw m (nI X) := fun X x1 x2 => kst_g a3 (by omega) (by omega) (by rcases F.bb with e | e <;> omega)
  have W1 := Wk_g gk ss (b + 4) (by omega) hW
  have pll := pls_len ss (b + 4)
  obtain ⟨m2, b1, b2, b3, b4⟩ := cpW (kc := kc) (B := B) F.bb (c := c) ec F.eb (1 - bkI (m 7 2)) (gw m (nI b) &&& 65535) (l := pls (b + 4) ss) (by rw [pll]; exact hl) (ss := ss) rfl ss (b + 4) (c + 4) [] m1 rfl (by omega) (by omega) (by omega) (by omega) (by omega) (by omega) a2 W1 W1 (by rw [a3.2.1 6 (by omega) (by omega), pll]; exact h6) (by rw [a3.1 8 (by omega) (by omega) (by omega), pll]; exact h8)
  have g2 : gw m2 (nI b) = gw m (nI b) := by
    rw [kst_g b3 (by omega) (by omega) (by rcases F.bb with e | e <;> omega)]
    exact gk b (by omega) (by omega)
  have e72 : m2 7 2 = nI b := by rw [b3.2.1 2 (by omega) (by omega), a3.2.1 2 (by omega) (by omega)]; exact F.h2
  obtain ⟨m3, c1, c2, c3, c4⟩ := pt (kc := kc) b2 (A := c) (by omega) (by omega) ((1263927296 : Int32) ||| ((gw m (nI b) + 1) &&& 65535))
  have e73 : m3 7 2 = nI b := by rw [c3.2.1 2 (by omega) (by omega)]; exact e72
  have kk : ∀ k, k ≠ 2 → k ≠ 5 → k ≠ 7 → m3 k = m k := fun k k1 k2 k3 => by rw [c3.1 k k1 k2 k3, b3.1 k k1 k2 k3, a3.1 k k1 k2 k3]
  have cls : ∀ (m' : it_Me) (Φ : it_Me → Prop), (m3 7 4 = 0 → m' = it_sv m3 7 2 (nI (c))) → (¬ m3 7 4 = 0 → m' = m3) → Φ m' → w_166 kc m Φ := fun m' Φ h1 h2 h => by
    have go : w_166_16 kc Φ (nI (c)) m := by
      unfold w_166_16
      rw [n4']
      refine a1 _ ⟨_, b1 _ _ ?_⟩
      unfold w_166_128
      rw [e72]
      refine c_12 ?_
      rw [g2]
      refine c1 _ ⟨fun q => ?_, fun q => ?_⟩
      · unfold w_166_164
        rw [← h1 q]
        exact h
      · unfold w_166_164
        rw [← h2 q]
        exact h
    unfold w_166
    refine ⟨fun q => ?_, fun q => ?_⟩
    · rw [← o4 q]; exact go
    · rw [← o5 q]; exact go
  have ref : ∀ M, Rel m M → ∀ Φ, (∀ M3, Rel m3 M3 → FrM M M3 → (m3 7 4 = 0 → Φ (it_sv M3 66 17 (1 - bkI (m 7 2)))) ∧ (¬ m3 7 4 = 0 → Φ M3)) → w_240 kc M Φ := fun M hM Φ h => by
    unfold w_240
    rw [hM.bank]
    refine r_233 ?_
    rw [F.eb]
    refine rS hI hM (by omega) (by omega) (a4 M hM _ (fun M1 r1 f1 => r_233 (r_233 ?_)))
    rw [o1, F.eb, n_4, n4']
    refine r_Wk a2 r1 F.eb hB hA4 W1 ⟨ss.length + 1, b4 M1 r1 Φ _ (fun M2 r2 f2 => ?_)⟩
    unfold w_240_169
    refine r_233 ?_
    rw [o1, ser1]
    refine c4 M2 r2 _ (fun M3 r3 f3 => ?_)
    have hh := h M3 r3 ((f1.trans f2).trans f3)
    rw [r3.lost]
    unfold w_240_203
    refine ⟨hh.1, fun q => ?_⟩
    rw [sv_self]
    exact hh.2 q
  by_cases q : m3 7 4 = 0
  · refine ⟨it_sv m3 7 2 (nI (c)), fun Φ h => cls _ Φ (fun _ => rfl) (fun y => absurd q y) h, bkI_I c2 (by rcases o3 with e | e <;> rw [e] <;> decide), fun k k1 k2 k3 => by rw [sv_cell _ _ _ _ k3]; exact kk k k1 k2 k3, Or.inr (sv_same _ _ _ _), fun M hM Φ h => ref M hM Φ (fun M3 r3 f3 => ⟨fun _ => ?_, fun y => absurd q y⟩)⟩
    have R := bkI_R r3 (cnt_le c2) (nI (c))
    rw [o2] at R
    exact h _ R (f3.sv (by omega))
  · exact ⟨m3, fun Φ h => cls _ Φ (fun y => absurd y q) (fun _ => rfl) h, c2, kk, Or.inl e73, fun M hM Φ h => ref M hM Φ (fun M3 r3 f3 => ⟨fun y => absurd y q, fun _ => h M3 r3 f3⟩)⟩
