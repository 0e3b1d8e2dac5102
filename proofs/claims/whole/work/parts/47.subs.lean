/-! Upcalls of one kind taken out of the queue; pairs of words exchanged. -/
def ent (f : Nat → Int32) (k : Nat) : Int32 × Int32 × Int32 × Int32 × Int32 := (f (5 * k), f (5 * k + 1), f (5 * k + 2), f (5 * k + 3), f (5 * k + 4))
def qL (f : Nat → Int32) (q : Nat) : List (Int32 × Int32 × Int32 × Int32 × Int32) := (List.range q).map (ent f)
theorem qL_len (f : Nat → Int32) (q : Nat) : (qL f q).length = q := by unfold qL; rw [List.length_map, List.length_range]
theorem qL_get (f : Nat → Int32) {q k : Nat} (h : k < (qL f q).length) : (qL f q)[k] = ent f k := by simp only [qL, List.getElem_map, List.getElem_range]
theorem qL_eq {f g : Nat → Int32} {q r : Nat} (h : qL f q = qL g r) : q = r ∧ ∀ x, x < 5 * q → f x = g x := by
  have e : q = r := by have := congrArg List.length h; rw [qL_len, qL_len] at this; exact this
  subst e
  refine ⟨rfl, fun x hx => ?_⟩
  have hk : x / 5 < q := by omega
  have h1 : (qL f q)[x / 5]? = (qL g q)[x / 5]? := by rw [h]
  rw [List.getElem?_eq_getElem (by rw [qL_len]; exact hk), List.getElem?_eq_getElem (by rw [qL_len]; exact hk), qL_get, qL_get] at h1
  have h2 : ent f (x / 5) = ent g (x / 5) := Option.some.inj h1
  unfold ent at h2
  simp only [Prod.mk.injEq] at h2
  have hj : x = 5 * (x / 5) ∨ x = 5 * (x / 5) + 1 ∨ x = 5 * (x / 5) + 2 ∨ x = 5 * (x / 5) + 3 ∨ x = 5 * (x / 5) + 4 := by omega
  rcases hj with e | e | e | e | e
  · rw [e]; exact h2.1
  · rw [e]; exact h2.2.1
  · rw [e]; exact h2.2.2.1
  · rw [e]; exact h2.2.2.2.1
  · rw [e]; exact h2.2.2.2.2
theorem qL_cg {f g : Nat → Int32} {q : Nat} (h : ∀ x, x < 5 * q → f x = g x) : qL f q = qL g q := by
  unfold qL
  refine List.map_congr_left (fun k hk => ?_)
  have := List.mem_range.mp hk
  unfold ent
  rw [h _ (by omega), h _ (by omega), h _ (by omega), h _ (by omega), h _ (by omega)]
theorem qL_rm (f : Nat → Int32) {k q : Nat} (hk : k < q) : qL (rmf f k q) (q - 1) = (qL f q).eraseIdx k := by
  apply List.ext_getElem
  · rw [qL_len, List.length_eraseIdx, qL_len, if_pos hk]
  · intro j h1 h2
    rw [qL_len] at h1
    rw [qL_get, List.getElem_eraseIdx]
    split
    · rename_i hj
      rw [qL_get]
      unfold ent rmf
      rw [if_neg (by omega), if_neg (by omega), if_neg (by omega), if_neg (by omega), if_neg (by omega)]
    · rename_i hj
      rw [qL_get]
      unfold ent rmf
      rw [if_pos (by omega), if_pos (by omega), if_pos (by omega), if_pos (by omega), if_pos (by omega)]
      rfl
def qmt (d n : Int32) (e : Int32 × Int32 × Int32 × Int32 × Int32) : Bool := decide (¬ (e.1 = d ∧ e.2.1 = n))
theorem take_er {α : Type} (l : List α) (k : Nat) : (l.eraseIdx k).take k = l.take k := by
  rw [List.eraseIdx_eq_take_drop_succ]
  by_cases h : k ≤ l.length
  · rw [List.take_append_of_le_length (by rw [List.length_take]; omega), List.take_take, Nat.min_self]
  · rw [List.drop_eq_nil_of_le (by omega), List.append_nil, List.take_take, Nat.min_self]
theorem drop_er {α : Type} (l : List α) (k : Nat) (h : k < l.length) : (l.eraseIdx k).drop k = l.drop (k + 1) := by
  rw [List.eraseIdx_eq_take_drop_succ, List.drop_append_of_le_length (by rw [List.length_take]; omega), List.drop_take_self, List.nil_append]
def qC (N : it_Me) (i : Nat) : List (Int32 × Int32 × Int32 × Int32 × Int32) := qL (N (14 + 5 * i + 3)) (Int32.toNatClampNeg (N (14 + 5 * i) 14))
def qM (N : it_Me) (i : Nat) : List (Int32 × Int32 × Int32 × Int32 × Int32) := qL (fun x => N 109 (50 * i + x)) (Int32.toNatClampNeg (N 110 i))
theorem qC_rm {N : it_Me} {i k : Nat} (hk : (k : Int) < (N (14 + 5 * i) 14).toInt) (hq : (N (14 + 5 * i) 14).toInt ≤ 10) : qC (rmC N i k) i = (qC N i).eraseIdx k := by
  have e1 : (N (14 + 5 * i) 14 - 1).toInt = (N (14 + 5 * i) 14).toInt - 1 := sub_I (by show _ ≤ _ - (1 : Int); omega) (by show _ - (1 : Int) < _; omega)
  unfold qC
  rw [← qL_rm _ (by rw [clampI]; omega)]
  unfold rmC
  rw [sv_same, sv_cell _ _ _ _ (by omega), up_same]
  congr 1
  rw [clampI, clampI, e1]
  omega
theorem qM_rm {N : it_Me} {i k : Nat} (hk : (k : Int) < (N 110 i).toInt) (hq : (N 110 i).toInt ≤ 10) : qM (rmM N i k) i = (qM N i).eraseIdx k := by
  have e1 : (N 110 i - 1).toInt = (N 110 i).toInt - 1 := sub_I (by show _ ≤ _ - (1 : Int); omega) (by show _ - (1 : Int) < _; omega)
  unfold qM
  rw [← qL_rm _ (by rw [clampI]; omega)]
  unfold rmM
  rw [up_cell (k' := 110) _ _ _ (by omega), sv_same, up_same]
  have e2 : Int32.toNatClampNeg (N 110 i - 1) = Int32.toNatClampNeg (N 110 i) - 1 := by rw [clampI, clampI, e1]; omega
  rw [e2]
  refine qL_cg (fun x hx => ?_)
  unfold rmg rmf
  by_cases q : 5 * k ≤ x ∧ x + 5 < 5 * Int32.toNatClampNeg (N 110 i)
  · rw [if_pos q, if_pos (by omega)]; rfl
  · rw [if_neg q, if_neg (by omega)]
theorem c_144l {kc : it_Kc} {B : Nat} {i : Nat} {d n : Int32} : ∀ (k : Nat) (N : it_Me), Inv B N → i < cnt N → (k : Int) ≤ (N (14 + 5 * i) 14).toInt → ∃ N', Inv B N' ∧ (∀ x, x ≠ 14 + 5 * i → x ≠ 14 + 5 * i + 3 → N' x = N x) ∧ (∀ j, j ≠ 14 → N' (14 + 5 * i) j = N (14 + 5 * i) j) ∧ qC N' i = ((qC N i).take k).filter (qmt d n) ++ (qC N i).drop k ∧ ∀ (Φ K : it_Me → Prop), K N' → w_144_7 kc Φ K (k + 1) (14 + 5 * i) d n (nI k - 1) N := by
  intro k
  induction k with
  | zero =>
    intro N hI hi hk
    refine ⟨N, hI, fun _ _ _ => rfl, fun _ _ => rfl, by rw [List.take_zero, List.filter_nil, List.nil_append, List.drop_zero], fun Φ K h => ?_⟩
    unfold w_144_7
    exact ⟨fun _ => h, fun q => absurd (show nI 0 - 1 < 0 by decide) q⟩
  | succ k ih =>
    intro N hI hi hk
    have qn := (hI.p hi).qn
    have hlen : k < (qC N i).length := by unfold qC; rw [qL_len, clampI]; omega
    have eg : (qC N i)[k] = ent (N (14 + 5 * i + 3)) k := qL_get _ hlen
    have e5 : nI k * 5 = nI (5 * k) := by rw [show nI k * 5 = nI (k * 5) from nI_mul k 5, Nat.mul_comm]
    have hst : ∀ (Φ K : it_Me → Prop) (r : Nat), ((N (14 + 5 * i + 3) (5 * k) = d ∧ N (14 + 5 * i + 3) (5 * k + 1) = n) → w_144_7 kc Φ K r (14 + 5 * i) d n (nI k - 1) (rmC N i k)) → (¬ (N (14 + 5 * i + 3) (5 * k) = d ∧ N (14 + 5 * i + 3) (5 * k + 1) = n) → w_144_7 kc Φ K r (14 + 5 * i) d n (nI k - 1) N) → w_144_7 kc Φ K (r + 1) (14 + 5 * i) d n (nI (k + 1) - 1) N := fun Φ K r h1 h2 => by
      rw [nI_pred]
      unfold w_144_7 w_144_45
      rw [e5, show nI (5 * k) + 1 = nI (5 * k + 1) from nI_add _ 1, nI_clamp (n := 5 * k) (by omega), nI_clamp (n := 5 * k + 1) (by omega), show nI k + -1 = nI k - 1 from (Int32.sub_eq_add_neg _ _).symm]
      refine ⟨fun q => ?_, fun _ => ⟨by rw [vp_in_iff, nI_toInt (by omega)]; omega, fun q1 => ⟨by rw [vp_in_iff, nI_toInt (by omega)]; omega, fun q2 => c_143 (by omega) qn.2 (h1 ⟨q1, q2⟩), fun q2 => h2 (fun q => q2 q.2)⟩, fun q1 => h2 (fun q => q1 q.1)⟩⟩
      exfalso; rw [Int32.lt_iff_toInt_lt, nI_toInt (by omega)] at q; simp only [Int32.reduceToInt] at q; omega
    have tk : (qC N i).take (k + 1) = (qC N i).take k ++ [ent (N (14 + 5 * i + 3)) k] := by rw [List.take_succ_eq_append_getElem hlen, eg]
    have dk : (qC N i).drop k = ent (N (14 + 5 * i + 3)) k :: (qC N i).drop (k + 1) := by rw [List.drop_eq_getElem_cons hlen, eg]
    by_cases hm : N (14 + 5 * i + 3) (5 * k) = d ∧ N (14 + 5 * i + 3) (5 * k + 1) = n
    · have I1 := rm_I hI hi (k := k) (by omega)
      have e1 : (N (14 + 5 * i) 14 - 1).toInt = (N (14 + 5 * i) 14).toInt - 1 := sub_I (by show _ ≤ _ - (1 : Int); omega) (by show _ - (1 : Int) < _; omega)
      obtain ⟨N', a1, a2, a3, a4, a5⟩ := ih (rmC N i k) I1 (by rw [cnt_rm]; exact hi) (by unfold rmC; rw [sv_same, e1]; omega)
      refine ⟨N', a1, fun x h1 h2 => by rw [a2 x h1 h2, rm_c _ _ _ ⟨h1, h2⟩], fun j hj => by rw [a3 j hj, rm_P _ _ _ hj], ?_, fun Φ K h => hst Φ K _ (fun _ => a5 Φ K h) (fun q => absurd hm q)⟩
      rw [a4, qC_rm (by omega) qn.2, take_er, drop_er _ _ hlen, tk, List.filter_append]
      have : [ent (N (14 + 5 * i + 3)) k].filter (qmt d n) = [] := by
        rw [List.filter_cons_of_neg, List.filter_nil]
        unfold qmt ent
        simp only [decide_eq_true_eq]
        exact fun q => q hm
      rw [this, List.append_nil]
    · obtain ⟨N', a1, a2, a3, a4, a5⟩ := ih N hI hi (by omega)
      refine ⟨N', a1, a2, a3, ?_, fun Φ K h => hst Φ K _ (fun q => absurd q hm) (fun _ => a5 Φ K h)⟩
      have : [ent (N (14 + 5 * i + 3)) k].filter (qmt d n) = [ent (N (14 + 5 * i + 3)) k] := by
        rw [List.filter_cons_of_pos, List.filter_nil]
        unfold qmt ent
        simp only [decide_eq_true_eq]
        exact hm
      rw [a4, tk, List.filter_append, this, dk, List.append_assoc]
      rfl
theorem r_288l {kc : it_Kc} {i : Nat} (i8 : i < 8) {d n v4 v5 v8 : Int32} {Ψ : it_Me → Prop} : ∀ (r k : Nat) (N : it_Me), ((k + r : Nat) : Int) = (N 110 i).toInt → (N 110 i).toInt ≤ 10 → ∃ N', (∀ x, x ≠ 109 → x ≠ 110 → N' x = N x) ∧ (∀ j, j ≠ i → N' 110 j = N 110 j) ∧ (∀ y, y < 50 * i ∨ 50 * i + 50 ≤ y → N' 109 y = N 109 y) ∧ 0 ≤ (N' 110 i).toInt ∧ (N' 110 i).toInt ≤ 10 ∧ qM N' i = (qM N i).take k ++ ((qM N i).drop k).filter (qmt d n) ∧ ∀ (K : Int32 → Int32 → Int32 → Int32 → Int32 → it_Me → Prop), K (nI i) n v4 v5 v8 N' → w_288_121 kc Ψ K (r + 1) (nI i) d n v4 v5 v8 (nI k) N := by
  intro r
  induction r with
  | zero =>
    intro k N hk hq
    refine ⟨N, fun _ _ _ => rfl, fun _ _ => rfl, fun _ _ => rfl, by omega, hq, ?_, fun K h => ?_⟩
    · have hl : (qM N i).length ≤ k := by unfold qM; rw [qL_len, clampI]; omega
      rw [List.drop_eq_nil_of_le hl, List.take_of_length_le hl, List.filter_nil, List.append_nil]
    · unfold w_288_121
      rw [cI i8]
      exact ⟨vI i8, fun _ => h, fun q => absurd (by rw [Int32.le_iff_toInt_le, nI_toInt (by omega)]; omega) q⟩
  | succ r ih =>
    intro k N hk hq
    have hlen : k < (qM N i).length := by unfold qM; rw [qL_len, clampI]; omega
    have eg : (qM N i)[k] = ent (fun x => N 109 (50 * i + x)) k := qL_get _ hlen
    have ec : 50 * nI i + 5 * nI k = nI (50 * i + 5 * k) := by rw [show (50 : Int32) * nI i = nI (50 * i) from nI_mul 50 i, show (5 : Int32) * nI k = nI (5 * k) from nI_mul 5 k, nI_add]
    have dk : (qM N i).drop k = ent (fun x => N 109 (50 * i + x)) k :: (qM N i).drop (k + 1) := by rw [List.drop_eq_getElem_cons hlen, eg]
    have tk : (qM N i).take (k + 1) = (qM N i).take k ++ [ent (fun x => N 109 (50 * i + x)) k] := by rw [List.take_succ_eq_append_getElem hlen, eg]
    have hst : ∀ (K : Int32 → Int32 → Int32 → Int32 → Int32 → it_Me → Prop) (r : Nat), ((N 109 (50 * i + 5 * k) = d ∧ N 109 (50 * i + (5 * k + 1)) = n) → w_288_121 kc Ψ K r (nI i) d n v4 v5 v8 (nI k) (rmM N i k)) → (¬ (N 109 (50 * i + 5 * k) = d ∧ N 109 (50 * i + (5 * k + 1)) = n) → w_288_121 kc Ψ K r (nI i) d n v4 v5 v8 (nI (k + 1)) N) → w_288_121 kc Ψ K (r + 1) (nI i) d n v4 v5 v8 (nI k) N := fun K r h1 h2 => by
      unfold w_288_121 w_288_177 w_288_180
      rw [cI i8, ec, show nI (50 * i + 5 * k) + 1 = nI (50 * i + (5 * k + 1)) from nI_add _ 1, nI_clamp (n := 50 * i + 5 * k) (by omega), nI_clamp (n := 50 * i + (5 * k + 1)) (by omega), nI_1]
      refine ⟨vI i8, fun q => ?_, fun _ => ⟨by rw [vp_in_iff, nI_toInt (by omega)]; omega, fun q1 => ⟨by rw [vp_in_iff, nI_toInt (by omega)]; omega, fun q2 => r_277 i8 (by omega) hq (h1 ⟨q1, q2⟩), fun q2 => h2 (fun q => q2 q.2)⟩, fun q1 => h2 (fun q => q1 q.1)⟩⟩
      exfalso; rw [Int32.le_iff_toInt_le, nI_toInt (by omega)] at q; omega
    by_cases hm : N 109 (50 * i + 5 * k) = d ∧ N 109 (50 * i + (5 * k + 1)) = n
    · have e1 : (N 110 i - 1).toInt = (N 110 i).toInt - 1 := sub_I (by show _ ≤ _ - (1 : Int); omega) (by show _ - (1 : Int) < _; omega)
      have e110 : rmM N i k 110 i = N 110 i - 1 := by unfold rmM; rw [up_cell _ _ _ (by omega), sv_same]
      obtain ⟨N', a1, a2, a3, a4, a5, a6, a7⟩ := ih k (rmM N i k) (by rw [e110, e1]; omega) (by rw [e110, e1]; omega)
      refine ⟨N', fun x h1 h2 => by rw [a1 x h1 h2, rmM_c _ _ _ ⟨h1, h2⟩], fun j hj => ?_, fun y hy => ?_, a4, a5, ?_, fun K h => hst K _ (fun _ => a7 K h) (fun q => absurd hm q)⟩
      · rw [a2 j hj]; unfold rmM; rw [up_cell _ _ _ (by omega), sv_n2 _ _ _ _ hj]
      · rw [a3 y hy]; unfold rmM; rw [up_same]; unfold rmg; rw [if_neg (by rw [clampI]; omega)]
      · rw [a6, qM_rm (by omega) hq, take_er, drop_er _ _ hlen, dk, List.filter_cons_of_neg]
        unfold qmt ent
        simp only [decide_eq_true_eq]
        exact fun q => q hm
    · obtain ⟨N', a1, a2, a3, a4, a5, a6, a7⟩ := ih (k + 1) N (by omega) hq
      refine ⟨N', a1, a2, a3, a4, a5, ?_, fun K h => hst K _ (fun q => absurd q hm) (fun _ => a7 K h)⟩
      rw [a6, dk, tk, List.filter_cons_of_pos, List.append_assoc]
      · rfl
      · unfold qmt ent
        simp only [decide_eq_true_eq]
        exact hm
theorem mem_ext {m m' : it_Me} {i : Nat} (h1 : ∀ x, x ≠ 14 + 5 * i → x ≠ 14 + 5 * i + 3 → m' x = m x) (h2 : ∀ j, j ≠ 14 → m' (14 + 5 * i) j = m (14 + 5 * i) j) : it_up (it_sv m (14 + 5 * i) 14 (m' (14 + 5 * i) 14)) (14 + 5 * i + 3) (m' (14 + 5 * i + 3)) = m' := by
  funext x y
  by_cases e : x = 14 + 5 * i + 3
  · subst e; rw [up_same]
  · rw [up_cell _ _ _ e, sv_rd]
    by_cases e2 : x = 14 + 5 * i
    · subst e2
      by_cases e3 : y = 14
      · subst e3; rw [if_pos ⟨rfl, rfl⟩]
      · rw [if_neg (fun q => e3 q.2), h2 y e3]
    · rw [if_neg (fun q => e2 q.1), h1 x e2 e]
theorem mem_extM {M M' : it_Me} {i : Nat} (h1 : ∀ x, x ≠ 109 → x ≠ 110 → M' x = M x) (h2 : ∀ j, j ≠ i → M' 110 j = M 110 j) : it_up (it_sv M 110 i (M' 110 i)) 109 (M' 109) = M' := by
  funext x y
  by_cases e : x = 109
  · subst e; rw [up_same]
  · rw [up_cell _ _ _ e, sv_rd]
    by_cases e2 : x = 110
    · subst e2
      by_cases e3 : y = i
      · subst e3; rw [if_pos ⟨rfl, rfl⟩]
      · rw [if_neg (fun q => e3 q.2), h2 y e3]
    · rw [if_neg (fun q => e2 q.1), h1 x e e2]
/-- removeUpcalls, and the reference's loop in subscribe -/
theorem rmv {kc : it_Kc} {B : Nat} {m : it_Me} (hI : Inv B m) {i : Nat} (hi : i < cnt m) (d n v4 v5 v8 : Int32) : ∃ m', (∀ Φ, Φ m' → w_144 kc (14 + 5 * i) d n m Φ) ∧ Inv B m' ∧ (∀ x, x ≠ 14 + 5 * i → x ≠ 14 + 5 * i + 3 → m' x = m x) ∧ (∀ j, j ≠ 14 → m' (14 + 5 * i) j = m (14 + 5 * i) j) ∧ ∀ M, Rel m M → ∀ (Ψ : it_Me → Prop) (K : Int32 → Int32 → Int32 → Int32 → Int32 → it_Me → Prop), (∀ M', Rel m' M' → FrM M M' → K (nI i) n v4 v5 v8 M') → ∃ e, w_288_121 kc Ψ K e (nI i) d n v4 v5 v8 0 M := by
  have h8 := cnt_le hI
  have i8 : i < 8 := by omega
  have hP := hI.p hi
  have qn := hP.qn
  have hlC : (qC m i).length = (m (14 + 5 * i) 14).toInt.toNat := by unfold qC; rw [qL_len, clampI]
  obtain ⟨m', a1, a2, a3, a4, a5⟩ := c_144l (kc := kc) (d := d) (n := n) (m (14 + 5 * i) 14).toInt.toNat m hI hi (by omega)
  rw [List.take_of_length_le (by omega), List.drop_eq_nil_of_le (by omega), List.append_nil] at a4
  have en : nI (m (14 + 5 * i) 14).toInt.toNat = m (14 + 5 * i) 14 := Int32.toInt_inj.mp (by rw [nI_toInt (by omega)]; omega)
  rw [en] at a5
  refine ⟨m', fun Φ h => ⟨_, a5 Φ _ h⟩, a1, a2, a3, fun M hM Ψ K h => ?_⟩
  obtain ⟨M', b1, b2, b3, b4, b5, b6, b7⟩ := r_288l (kc := kc) (d := d) (n := n) (v4 := v4) (v5 := v5) (v8 := v8) (Ψ := Ψ) i8 (m (14 + 5 * i) 14).toInt.toNat 0 M (by rw [hM.queued hi]; omega) (by rw [hM.queued hi]; exact qn.2)
  rw [List.take_zero, List.drop_zero, List.nil_append] at b6
  have eq0 : qM M i = qC m i := by
    unfold qM qC
    rw [hM.queued hi]
    refine qL_cg (fun x hx => hM.queue i hi x (by rw [clampI] at hx; omega))
  rw [eq0, ← a4] at b6
  unfold qM qC at b6
  obtain ⟨c1, c2⟩ := qL_eq b6
  have qn' := (a1.p (i := i) (by rw [cnt_cg (by rw [a2 9 (by omega) (by omega)])]; exact hi)).qn
  have e110 : M' 110 i = m' (14 + 5 * i) 14 := Int32.toInt_inj.mp (by rw [clampI, clampI] at c1; omega)
  have hle : (m' (14 + 5 * i) 14).toInt ≤ (m (14 + 5 * i) 14).toInt := by
    have := congrArg List.length a4
    rw [qC, qL_len] at this
    have l2 := List.length_filter_le (qmt d n) (qC m i)
    rw [clampI] at this
    omega
  have R1 := hM.ps1 h8 hi (a := 110) (c := 14) (by decide) (by omega) (by omega) (m' (14 + 5 * i) 14) (fun q => absurd q (by omega)) (fun _ k hk => hM.queue i hi k (by omega))
  have k1 : cnt (it_sv m (14 + 5 * i) 14 (m' (14 + 5 * i) 14)) = cnt m := cnt_sv _ _ _ (by omega)
  have R2 := R1.qup (i := i) (by rw [k1]; exact h8) (by rw [k1]; exact hi) (fun j hj => by
    rw [k1] at hj
    by_cases e : j = i
    · subst e; rw [sv_same]; exact qn'.2
    · rw [sv_n1 _ _ _ _ _ (by omega)]; exact (hI.p hj).qn.2) (m' (14 + 5 * i + 3)) (M' 109) (fun k hk => by
    rw [sv_same] at hk
    exact c2 k (by rw [e110, clampI]; omega)) (fun y hy => by rw [sv_n1 _ _ _ _ _ (by omega)]; exact b3 y hy)
  rw [mem_ext a2 a3, ← e110, mem_extM b1 b2] at R2
  exact ⟨_, b7 K (h M' R2 (fun x hx => b1 x (by omega) (by omega)))⟩
/-- words of a grant written that are no driver's own -/
theorem Rel.grx {B : Nat} {m m' M M' : it_Me} (hI : Inv B m) (h : Rel m M) {i d : Nat} (hi : i < cnt m) (hd : d < 9) (hg : m (14 + 5 * i + 4) d ≠ 0) (hc : ∀ k, k ≠ 2 → m' k = m k) (hw : ∀ w, m' 2 w ≠ m 2 w → (m (14 + 5 * i + 4) d).toInt + 8 ≤ 65536 + 4 * (w : Int) ∧ 65536 + 4 * (w : Int) < (m (14 + 5 * i + 4) d).toInt + owA d) (hM : ∀ k, k ≠ 67 → M' k = M k)
  (hb : ∀ w, w < 32768 → ¬ excl m w → ∀ j, j < 4 → M' 67 (65536 + 4 * w + j) = sb8 (m' 2 w) j) : Rel m' M' := by
  have h8 := cnt_le hI
  have ho := on_of hI hi
  have hP := hI.p hi
  have g := hP.gI hd hg
  have o := hP.ord
  have s := hP.szI
  have cl := hP.ctlI
  have n := kN hd
  have hm := hc
  have ecn : cnt m' = cnt m := cnt_cg (by rw [hc _ (by omega)])
  have hct : ∀ j, ctl m' j = ctl m j := fun j => ctl_cg (hc _ (by omega))
  have hex := fun w => excl_ctl (m' := m') (m := m) (by rw [hc _ (by omega)]) (fun j _ => hct j) w
  have gz : ∀ a : Int32, (a.toInt < (m (14 + 5 * i + 4) d).toInt + 8 ∨ (m (14 + 5 * i + 4) d).toInt + owA d ≤ a.toInt) → gw m' a = gw m a := fun a ha => gw_w (fun hA => by
    have := wi_eq hA
    by_cases q : m' 2 (wi a) = m 2 (wi a)
    · exact q
    · exfalso
      have := hw _ q
      omega)
  have und : ∀ j, j < cnt m → ∀ k, 64 ≤ k → k < 80 → m (14 + 5 * j + 4) 1 ≠ 0 → gw m' (m (14 + 5 * j + 4) 1 + nI k) = gw m (m (14 + 5 * j + 4) 1 + nI k) := fun j hj k hk0 hk hg1 => by
    have g' := (hI.p hj).gI (d := 1) (by omega) hg1
    have z : gsz 1 = 80 := by decide
    have z' : owA 1 = 64 := by decide
    have a' := gadr hI hj (d := 1) (k := k) (by omega) hg1 (by omega)
    have o' := (hI.p hj).ord
    have s' := (hI.p hj).szI
    have cl' := (hI.p hj).ctlI
    refine gz _ ?_
    rcases Nat.lt_trichotomy j i with h' | h' | h'
    · have := hI.dis ho j i hi h'
      omega
    · subst h'
      by_cases e1 : d = 1
      · subst e1; omega
      · have := hP.gS (d := 1) (by omega) hg1 hd hg (Ne.symm e1)
        omega
    · have := hI.dis ho i j hj h'
      omega
  have gc : ∀ j, j < cnt m → ∀ k, k < 64 → gw m' (ctl m j + nI k) = gw m (ctl m j + nI k) := fun j hj k hk => by
    have s' := (hI.p hj).szI
    have o' := (hI.p hj).ord
    have cl' := (hI.p hj).ctlI
    have ek := adI (a := ctl m j) (k := k) (by omega) (by omega) (by omega)
    refine gz _ ?_
    rcases Nat.lt_trichotomy j i with h' | h' | h'
    · have := hI.dis ho j i hi h'
      omega
    · subst h'; omega
    · have := hI.dis ho i j hj h'
      omega
  exact (Rel.upd (h) (h8) ([2]) ([67]) (fun k hk => hc k (by simpa using hk)) (fun k hk => hM k (by simpa using hk)) (by first | (refine Or.inl (And.intro ?_ (And.intro ?_ ?_)) <;> first | (simp only [List.mem_cons, List.not_mem_nil, or_false, forall_eq_or_imp, forall_eq, false_implies, implies_true, and_true] <;> omega) | (repeat' (first | exact True.intro | rfl | refine And.intro ?_ ?_ | (rw [sv_ne _ _ _ _ (by omega)]) | (rw [up_cell _ _ _ (by omega)]) | (rw [fil_cell _ _ _ _ _ (by omega)]) | (rw [hM _ (by omega)]) | (rw [hm _ (by omega)])))) | (have t_ := Rel.tapeLen (h); exact Or.inr t_)) (by first | (refine Or.inl (And.intro ?_ (And.intro ?_ ?_)) <;> first | (simp only [List.mem_cons, List.not_mem_nil, or_false, forall_eq_or_imp, forall_eq, false_implies, implies_true, and_true] <;> omega) | (repeat' (first | exact True.intro | rfl | refine And.intro ?_ ?_ | (rw [sv_ne _ _ _ _ (by omega)]) | (rw [up_cell _ _ _ (by omega)]) | (rw [fil_cell _ _ _ _ _ (by omega)]) | (rw [hM _ (by omega)]) | (rw [hm _ (by omega)])))) | (have t_ := Rel.on (h); exact Or.inr t_)) (by first | (refine Or.inl (And.intro ?_ (And.intro ?_ ?_)) <;> first | (simp only [List.mem_cons, List.not_mem_nil, or_false, forall_eq_or_imp, forall_eq, false_implies, implies_true, and_true] <;> omega) | (repeat' (first | exact True.intro | rfl | refine And.intro ?_ ?_ | (rw [sv_ne _ _ _ _ (by omega)]) | (rw [up_cell _ _ _ (by omega)]) | (rw [fil_cell _ _ _ _ _ (by omega)]) | (rw [hM _ (by omega)]) | (rw [hm _ (by omega)])))) | (have t_ := Rel.lost (h); exact Or.inr t_)) (by first | (refine Or.inl (And.intro ?_ (And.intro ?_ ?_)) <;> first | (simp only [List.mem_cons, List.not_mem_nil, or_false, forall_eq_or_imp, forall_eq, false_implies, implies_true, and_true] <;> omega) | (repeat' (first | exact True.intro | rfl | refine And.intro ?_ ?_ | (rw [sv_ne _ _ _ _ (by omega)]) | (rw [up_cell _ _ _ (by omega)]) | (rw [fil_cell _ _ _ _ _ (by omega)]) | (rw [hM _ (by omega)]) | (rw [hm _ (by omega)])))) | (have t_ := Rel.power (h); exact Or.inr t_)) (by first | (refine Or.inl (And.intro ?_ (And.intro ?_ ?_)) <;> first | (simp only [List.mem_cons, List.not_mem_nil, or_false, forall_eq_or_imp, forall_eq, false_implies, implies_true, and_true] <;> omega) | (repeat' (first | exact True.intro | rfl | refine And.intro ?_ ?_ | (rw [sv_ne _ _ _ _ (by omega)]) | (rw [up_cell _ _ _ (by omega)]) | (rw [fil_cell _ _ _ _ _ (by omega)]) | (rw [hM _ (by omega)]) | (rw [hm _ (by omega)])))) | (have t_ := Rel.time (h); exact Or.inr t_)) (by first | (refine Or.inl (And.intro ?_ (And.intro ?_ ?_)) <;> first | (simp only [List.mem_cons, List.not_mem_nil, or_false, forall_eq_or_imp, forall_eq, false_implies, implies_true, and_true] <;> omega) | (repeat' (first | exact True.intro | rfl | refine And.intro ?_ ?_ | (rw [sv_ne _ _ _ _ (by omega)]) | (rw [up_cell _ _ _ (by omega)]) | (rw [fil_cell _ _ _ _ _ (by omega)]) | (rw [hM _ (by omega)]) | (rw [hm _ (by omega)])))) | (have t_ := Rel.z (h); exact Or.inr t_)) (by first | (refine Or.inl (And.intro ?_ (And.intro ?_ ?_)) <;> first | (simp only [List.mem_cons, List.not_mem_nil, or_false, forall_eq_or_imp, forall_eq, false_implies, implies_true, and_true] <;> omega) | (repeat' (first | exact True.intro | rfl | refine And.intro ?_ ?_ | (rw [sv_ne _ _ _ _ (by omega)]) | (rw [up_cell _ _ _ (by omega)]) | (rw [fil_cell _ _ _ _ _ (by omega)]) | (rw [hM _ (by omega)]) | (rw [hm _ (by omega)])))) | (have t_ := Rel.count (h); exact Or.inr t_)) (by first | (refine Or.inl (And.intro ?_ (And.intro ?_ ?_)) <;> first | (simp only [List.mem_cons, List.not_mem_nil, or_false, forall_eq_or_imp, forall_eq, false_implies, implies_true, and_true] <;> omega) | (repeat' (first | exact True.intro | rfl | refine And.intro ?_ ?_ | (rw [sv_ne _ _ _ _ (by omega)]) | (rw [up_cell _ _ _ (by omega)]) | (rw [fil_cell _ _ _ _ _ (by omega)]) | (rw [hM _ (by omega)]) | (rw [hm _ (by omega)])))) | (have t_ := Rel.turn (h); exact Or.inr t_)) (by first | (refine Or.inl (And.intro ?_ (And.intro ?_ ?_)) <;> first | (simp only [List.mem_cons, List.not_mem_nil, or_false, forall_eq_or_imp, forall_eq, false_implies, implies_true, and_true] <;> omega) | (repeat' (first | exact True.intro | rfl | refine And.intro ?_ ?_ | (rw [sv_ne _ _ _ _ (by omega)]) | (rw [up_cell _ _ _ (by omega)]) | (rw [fil_cell _ _ _ _ _ (by omega)]) | (rw [hM _ (by omega)]) | (rw [hm _ (by omega)])))) | (have t_ := Rel.bank (h); exact Or.inr t_)) (by first | (refine Or.inl (And.intro ?_ (And.intro ?_ ?_)) <;> first | (simp only [List.mem_cons, List.not_mem_nil, or_false, forall_eq_or_imp, forall_eq, false_implies, implies_true, and_true] <;> omega) | (repeat' (first | exact True.intro | rfl | refine And.intro ?_ ?_ | (rw [sv_ne _ _ _ _ (by omega)]) | (rw [up_cell _ _ _ (by omega)]) | (rw [fil_cell _ _ _ _ _ (by omega)]) | (rw [hM _ (by omega)]) | (rw [hm _ (by omega)])))) | (have t_ := Rel.tape (h); exact Or.inr t_)) (by first | (refine Or.inl (And.intro ?_ (And.intro ?_ ?_)) <;> first | (simp only [List.mem_cons, List.not_mem_nil, or_false, forall_eq_or_imp, forall_eq, false_implies, implies_true, and_true] <;> omega) | (repeat' (first | exact True.intro | rfl | refine And.intro ?_ ?_ | (rw [sv_ne _ _ _ _ (by omega)]) | (rw [up_cell _ _ _ (by omega)]) | (rw [fil_cell _ _ _ _ _ (by omega)]) | (rw [hM _ (by omega)]) | (rw [hm _ (by omega)])))) | (have t_ := Rel.counts (h); exact Or.inr t_)) (by first | (refine Or.inl (And.intro ?_ (And.intro ?_ ?_)) <;> first | (simp only [List.mem_cons, List.not_mem_nil, or_false, forall_eq_or_imp, forall_eq, false_implies, implies_true, and_true] <;> omega) | (repeat' (first | exact True.intro | rfl | refine And.intro ?_ ?_ | (rw [sv_ne _ _ _ _ (by omega)]) | (rw [up_cell _ _ _ (by omega)]) | (rw [fil_cell _ _ _ _ _ (by omega)]) | (rw [hM _ (by omega)]) | (rw [hm _ (by omega)])))) | (have t_ := Rel.events (h); exact Or.inr t_)) (by first | (refine Or.inl (And.intro ?_ (And.intro ?_ ?_)) <;> first | (simp only [List.mem_cons, List.not_mem_nil, or_false, forall_eq_or_imp, forall_eq, false_implies, implies_true, and_true] <;> omega) | (repeat' (first | exact True.intro | rfl | refine And.intro ?_ ?_ | (rw [sv_ne _ _ _ _ (by omega)]) | (rw [up_cell _ _ _ (by omega)]) | (rw [fil_cell _ _ _ _ _ (by omega)]) | (rw [hM _ (by omega)]) | (rw [hm _ (by omega)])))) | (have t_ := Rel.out (h); exact Or.inr t_)) (by first | (refine Or.inl (And.intro ?_ (And.intro ?_ ?_)) <;> first | (simp only [List.mem_cons, List.not_mem_nil, or_false, forall_eq_or_imp, forall_eq, false_implies, implies_true, and_true] <;> omega) | (repeat' (first | exact True.intro | rfl | refine And.intro ?_ ?_ | (rw [sv_ne _ _ _ _ (by omega)]) | (rw [up_cell _ _ _ (by omega)]) | (rw [fil_cell _ _ _ _ _ (by omega)]) | (rw [hM _ (by omega)]) | (rw [hm _ (by omega)])))) | (have t_ := Rel.lamps (h); exact Or.inr t_)) (by first | (refine Or.inl (And.intro ?_ (And.intro ?_ ?_)) <;> first | (simp only [List.mem_cons, List.not_mem_nil, or_false, forall_eq_or_imp, forall_eq, false_implies, implies_true, and_true] <;> omega) | (repeat' (first | exact True.intro | rfl | refine And.intro ?_ ?_ | (rw [sv_ne _ _ _ _ (by omega)]) | (rw [up_cell _ _ _ (by omega)]) | (rw [fil_cell _ _ _ _ _ (by omega)]) | (rw [hM _ (by omega)]) | (rw [hm _ (by omega)])))) | (have t_ := Rel.buttons (h); exact Or.inr t_)) (by first | (refine Or.inl (And.intro ?_ (And.intro ?_ ?_)) <;> first | (simp only [List.mem_cons, List.not_mem_nil, or_false, forall_eq_or_imp, forall_eq, false_implies, implies_true, and_true] <;> omega) | (repeat' (first | exact True.intro | rfl | refine And.intro ?_ ?_ | (rw [sv_ne _ _ _ _ (by omega)]) | (rw [up_cell _ _ _ (by omega)]) | (rw [fil_cell _ _ _ _ _ (by omega)]) | (rw [hM _ (by omega)]) | (rw [hm _ (by omega)])))) | (have t_ := Rel.lev (h); exact Or.inr t_)) (Or.inr (by
    intro w hw' hx j hj
    exact hb w hw' (fun q => hx ((hex w).mpr q)) j hj)) (by first | (refine Or.inl (And.intro ?_ (And.intro ?_ ?_)) <;> first | (simp only [List.mem_cons, List.not_mem_nil, or_false, forall_eq_or_imp, forall_eq, false_implies, implies_true, and_true] <;> omega) | (repeat' (first | exact True.intro | rfl | refine And.intro ?_ ?_ | (rw [sv_ne _ _ _ _ (by omega)]) | (rw [up_cell _ _ _ (by omega)]) | (rw [fil_cell _ _ _ _ _ (by omega)]) | (rw [hM _ (by omega)]) | (rw [hm _ (by omega)])))) | (have t_ := Rel.sched (h); exact Or.inr t_)) (by first | (refine Or.inl (And.intro ?_ (And.intro ?_ ?_)) <;> first | (simp only [List.mem_cons, List.not_mem_nil, or_false, forall_eq_or_imp, forall_eq, false_implies, implies_true, and_true] <;> omega) | (repeat' (first | exact True.intro | rfl | refine And.intro ?_ ?_ | (rw [sv_ne _ _ _ _ (by omega)]) | (rw [up_cell _ _ _ (by omega)]) | (rw [fil_cell _ _ _ _ _ (by omega)]) | (rw [hM _ (by omega)]) | (rw [hm _ (by omega)])))) | (have t_ := Rel.done (h); exact Or.inr t_)) (by first | (refine Or.inl (And.intro ?_ (And.intro ?_ ?_)) <;> first | (simp only [List.mem_cons, List.not_mem_nil, or_false, forall_eq_or_imp, forall_eq, false_implies, implies_true, and_true] <;> omega) | (repeat' (first | exact True.intro | rfl | refine And.intro ?_ ?_ | (rw [sv_ne _ _ _ _ (by omega)]) | (rw [up_cell _ _ _ (by omega)]) | (rw [fil_cell _ _ _ _ _ (by omega)]) | (rw [hM _ (by omega)]) | (rw [hm _ (by omega)])))) | (have t_ := Rel.levels (h); exact Or.inr t_)) (by first | (refine Or.inl (And.intro ?_ (And.intro ?_ ?_)) <;> first | (simp only [List.mem_cons, List.not_mem_nil, or_false, forall_eq_or_imp, forall_eq, false_implies, implies_true, and_true] <;> omega) | (repeat' (first | exact True.intro | rfl | refine And.intro ?_ ?_ | (rw [sv_ne _ _ _ _ (by omega)]) | (rw [up_cell _ _ _ (by omega)]) | (rw [fil_cell _ _ _ _ _ (by omega)]) | (rw [hM _ (by omega)]) | (rw [hm _ (by omega)])))) | (have t_ := Rel.places (h); exact Or.inr t_)) (by first | (refine Or.inl (And.intro ?_ (And.intro ?_ ?_)) <;> first | (simp only [List.mem_cons, List.not_mem_nil, or_false, forall_eq_or_imp, forall_eq, false_implies, implies_true, and_true] <;> omega) | (repeat' (first | exact True.intro | rfl | refine And.intro ?_ ?_ | (rw [sv_ne _ _ _ _ (by omega)]) | (rw [up_cell _ _ _ (by omega)]) | (rw [fil_cell _ _ _ _ _ (by omega)]) | (rw [hM _ (by omega)]) | (rw [hm _ (by omega)])))) | (have t_ := Rel.asked (h); exact Or.inr t_)) (Or.inr (by
    intro j hj hu
    rw [ecn] at hj
    rw [hM _ (by omega), hc _ (by omega)]
    unfold undW at hu
    rw [hc _ (by omega)] at hu
    have := und j hj 64 (by omega) (by omega) hu.1
    refine h.worder j hj ⟨hu.1, ?_⟩
    rw [show m (14 + 5 * j + 4) 1 + 64 = m (14 + 5 * j + 4) 1 + nI 64 from rfl, ← this]
    exact hu.2)) (Or.inr (by
    intro j hj hu
    rw [ecn] at hj
    rw [hM _ (by omega), hc _ (by omega)]
    unfold undR at hu
    rw [hc _ (by omega)] at hu
    have := und j hj 72 (by omega) (by omega) hu.1
    refine h.rorder j hj ⟨hu.1, ?_⟩
    rw [show m (14 + 5 * j + 4) 1 + 72 = m (14 + 5 * j + 4) 1 + nI 72 from rfl, ← this]
    exact hu.2)) (by first | (refine Or.inl (And.intro ?_ (And.intro ?_ ?_)) <;> first | (simp only [List.mem_cons, List.not_mem_nil, or_false, forall_eq_or_imp, forall_eq, false_implies, implies_true, and_true] <;> omega) | (repeat' (first | exact True.intro | rfl | refine And.intro ?_ ?_ | (rw [sv_ne _ _ _ _ (by omega)]) | (rw [up_cell _ _ _ (by omega)]) | (rw [fil_cell _ _ _ _ _ (by omega)]) | (rw [hM _ (by omega)]) | (rw [hm _ (by omega)])))) | (have t_ := Rel.ps (h); exact Or.inr t_)) (by first | (refine Or.inl (And.intro ?_ (And.intro ?_ ?_)) <;> first | (simp only [List.mem_cons, List.not_mem_nil, or_false, forall_eq_or_imp, forall_eq, false_implies, implies_true, and_true] <;> omega) | (repeat' (first | exact True.intro | rfl | refine And.intro ?_ ?_ | (rw [sv_ne _ _ _ _ (by omega)]) | (rw [up_cell _ _ _ (by omega)]) | (rw [fil_cell _ _ _ _ _ (by omega)]) | (rw [hM _ (by omega)]) | (rw [hm _ (by omega)])))) | (have t_ := Rel.app (h); exact Or.inr t_)) (by first | (refine Or.inl (And.intro ?_ (And.intro ?_ ?_)) <;> first | (simp only [List.mem_cons, List.not_mem_nil, or_false, forall_eq_or_imp, forall_eq, false_implies, implies_true, and_true] <;> omega) | (repeat' (first | exact True.intro | rfl | refine And.intro ?_ ?_ | (rw [sv_ne _ _ _ _ (by omega)]) | (rw [up_cell _ _ _ (by omega)]) | (rw [fil_cell _ _ _ _ _ (by omega)]) | (rw [hM _ (by omega)]) | (rw [hm _ (by omega)])))) | (have t_ := Rel.name (h); exact Or.inr t_)) (by first | (refine Or.inl (And.intro ?_ (And.intro ?_ ?_)) <;> first | (simp only [List.mem_cons, List.not_mem_nil, or_false, forall_eq_or_imp, forall_eq, false_implies, implies_true, and_true] <;> omega) | (repeat' (first | exact True.intro | rfl | refine And.intro ?_ ?_ | (rw [sv_ne _ _ _ _ (by omega)]) | (rw [up_cell _ _ _ (by omega)]) | (rw [fil_cell _ _ _ _ _ (by omega)]) | (rw [hM _ (by omega)]) | (rw [hm _ (by omega)])))) | (have t_ := Rel.number (h); exact Or.inr t_)) (by first | (refine Or.inl (And.intro ?_ (And.intro ?_ ?_)) <;> first | (simp only [List.mem_cons, List.not_mem_nil, or_false, forall_eq_or_imp, forall_eq, false_implies, implies_true, and_true] <;> omega) | (repeat' (first | exact True.intro | rfl | refine And.intro ?_ ?_ | (rw [sv_ne _ _ _ _ (by omega)]) | (rw [up_cell _ _ _ (by omega)]) | (rw [fil_cell _ _ _ _ _ (by omega)]) | (rw [hM _ (by omega)]) | (rw [hm _ (by omega)])))) | (have t_ := Rel.bits (h); exact Or.inr t_)) (by first | (refine Or.inl (And.intro ?_ (And.intro ?_ ?_)) <;> first | (simp only [List.mem_cons, List.not_mem_nil, or_false, forall_eq_or_imp, forall_eq, false_implies, implies_true, and_true] <;> omega) | (repeat' (first | exact True.intro | rfl | refine And.intro ?_ ?_ | (rw [sv_ne _ _ _ _ (by omega)]) | (rw [up_cell _ _ _ (by omega)]) | (rw [fil_cell _ _ _ _ _ (by omega)]) | (rw [hM _ (by omega)]) | (rw [hm _ (by omega)])))) | (have t_ := Rel.regs (h); exact Or.inr t_)) (by first | (refine Or.inl (And.intro ?_ (And.intro ?_ ?_)) <;> first | (simp only [List.mem_cons, List.not_mem_nil, or_false, forall_eq_or_imp, forall_eq, false_implies, implies_true, and_true] <;> omega) | (repeat' (first | exact True.intro | rfl | refine And.intro ?_ ?_ | (rw [sv_ne _ _ _ _ (by omega)]) | (rw [up_cell _ _ _ (by omega)]) | (rw [fil_cell _ _ _ _ _ (by omega)]) | (rw [hM _ (by omega)]) | (rw [hm _ (by omega)])))) | (have t_ := Rel.rsv (h); exact Or.inr t_)) (by first | (refine Or.inl (And.intro ?_ (And.intro ?_ ?_)) <;> first | (simp only [List.mem_cons, List.not_mem_nil, or_false, forall_eq_or_imp, forall_eq, false_implies, implies_true, and_true] <;> omega) | (repeat' (first | exact True.intro | rfl | refine And.intro ?_ ?_ | (rw [sv_ne _ _ _ _ (by omega)]) | (rw [up_cell _ _ _ (by omega)]) | (rw [fil_cell _ _ _ _ _ (by omega)]) | (rw [hM _ (by omega)]) | (rw [hm _ (by omega)])))) | (have t_ := Rel.queue (h); exact Or.inr t_)) (Or.inr (by
    intro j hj
    rw [ecn] at hj
    rw [hct, hM _ (by omega), hM _ (by omega), hM _ (by omega), hM _ (by omega)]
    rw [show ctl m j + 24 = ctl m j + nI 24 from rfl, show ctl m j + 28 = ctl m j + nI 28 from rfl, show ctl m j + 32 = ctl m j + nI 32 from rfl, show ctl m j + 40 = ctl m j + nI 40 from rfl, gc j hj 24 (by omega), gc j hj 28 (by omega), gc j hj 32 (by omega), gc j hj 40 (by omega)]
    exact h.ctlw j hj)) (by first | (refine Or.inl (And.intro ?_ (And.intro ?_ ?_)) <;> first | (simp only [List.mem_cons, List.not_mem_nil, or_false, forall_eq_or_imp, forall_eq, false_implies, implies_true, and_true] <;> omega) | (repeat' (first | exact True.intro | rfl | refine And.intro ?_ ?_ | (rw [sv_ne _ _ _ _ (by omega)]) | (rw [up_cell _ _ _ (by omega)]) | (rw [fil_cell _ _ _ _ _ (by omega)]) | (rw [hM _ (by omega)]) | (rw [hm _ (by omega)])))) | (have t_ := Rel.wt (h); exact Or.inr t_)))
noncomputable def exC (m : it_Me) (i : Nat) (A : Int32) : it_Me := rgC (pw (pw m A (m (14 + 5 * i + 2) 12)) (A + 4) (m (14 + 5 * i + 2) 13)) i [(10, 130), (11, gw m A), (12, gw m (A + 4))]
theorem c_179 {kc : it_Kc} {i : Nat} {A : Int32} {m : it_Me} {Φ : it_Me → Prop} (h : Φ (exC m i A)) : w_179 kc (14 + 5 * i) A m Φ := by
  unfold w_179
  refine c_12 (c_12 ⟨v32_12, c_13 ⟨v32_13, c_13 (c_140 ?_)⟩⟩)
  rw [pw_c _ _ _ (by omega), cl_12, cl_13]
  exact h
/-- the pair of words at a place of a grant -/
theorem ex {kc : it_Kc} {B : Nat} {m : it_Me} (hI : Inv B m) {i d k : Nat} (hi : i < cnt m) (hd : d < 9) (hg : m (14 + 5 * i + 4) d ≠ 0) (hk : 8 ≤ k ∧ k + 8 ≤ owA d ∧ k % 8 = 0) (hbf : ∀ x, x < rbN d + wbN d → 8 * (1 + sbN d + x) = k → Bf m i (m (14 + 5 * i + 2) 12) (m (14 + 5 * i + 2) 13) (rbN d ≤ x)) (hsf : ∀ x, x < sbN d → 8 * (1 + x) = k → (m (14 + 5 * i + 2) 12).toInt % 2 = 0) : Inv B (exC m i (m (14 + 5 * i + 4) d + nI k)) ∧ Kp m (exC m i (m (14 + 5 * i + 4) d + nI k)) ∧ FrC m (exC m i (m (14 + 5 * i + 4) d + nI k)) ∧ ∀ M, Rel m M → ∀ Φ : it_Me → Prop, (∀ M', Rel (exC m i (m (14 + 5 * i + 4) d + nI k)) M' → FrM M M' → Φ M') → w_220 kc (m (14 + 5 * i + 4) d + nI k) M (fun r1 m2 => w_220 kc (m (14 + 5 * i + 4) d + nI k + 4) m2 (fun r3 m4 => w_221 kc (m (14 + 5 * i + 4) d + nI k) (m (14 + 5 * i + 2) 12) m4 (fun m5 => w_221 kc (m (14 + 5 * i + 4) d + nI k + 4) (m (14 + 5 * i + 2) 13) m5 (fun m6 => w_279 kc (nI i) 130 r1 r3 m6 (fun m7 => Φ m7))))) := by
  have h8 := cnt_le hI
  have i8 : i < 8 := by omega
  have hP := hI.p hi
  have n := kN hd
  have g := hP.gI hd hg
  have l := hP.low0
  have aA := gadr hI hi hd hg (k := k) (by omega)
  have aB := gadr hI hi hd hg (k := k + 4) (by omega)
  rw [ga4]
  have wA := wi_eq aA.2.1
  have wB := wi_eq aB.2.1
  have hc : ∀ x, x ≠ 2 → pw (pw m (m (14 + 5 * i + 4) d + nI k) (m (14 + 5 * i + 2) 12)) (m (14 + 5 * i + 4) d + nI (k + 4)) (m (14 + 5 * i + 2) 13) x = m x := fun x hx => by rw [pw_c _ _ _ hx, pw_c _ _ _ hx]
  have rw2 : ∀ w, pw (pw m (m (14 + 5 * i + 4) d + nI k) (m (14 + 5 * i + 2) 12)) (m (14 + 5 * i + 4) d + nI (k + 4)) (m (14 + 5 * i + 2) 13) 2 w = if w = wi (m (14 + 5 * i + 4) d + nI (k + 4)) then m (14 + 5 * i + 2) 13 else if w = wi (m (14 + 5 * i + 4) d + nI k) then m (14 + 5 * i + 2) 12 else m 2 w := fun w => by
    rw [pw_in aB.2.1, pw_in aA.2.1, sv_rd, sv_rd]
    simp only [true_and]
  have hw : ∀ w, pw (pw m (m (14 + 5 * i + 4) d + nI k) (m (14 + 5 * i + 2) 12)) (m (14 + 5 * i + 4) d + nI (k + 4)) (m (14 + 5 * i + 2) 13) 2 w ≠ m 2 w → (m (14 + 5 * i + 4) d).toInt + 8 ≤ 65536 + 4 * (w : Int) ∧ 65536 + 4 * (w : Int) < (m (14 + 5 * i + 4) d).toInt + owA d := fun w h => by
    rw [rw2] at h
    by_cases q1 : w = wi (m (14 + 5 * i + 4) d + nI (k + 4))
    · omega
    · rw [if_neg q1] at h
      by_cases q2 : w = wi (m (14 + 5 * i + 4) d + nI k)
      · omega
      · rw [if_neg q2] at h
        exact absurd rfl h
  have rd : ∀ x, x < gsz d → x % 4 = 0 → gw (pw (pw m (m (14 + 5 * i + 4) d + nI k) (m (14 + 5 * i + 2) 12)) (m (14 + 5 * i + 4) d + nI (k + 4)) (m (14 + 5 * i + 2) 13)) (m (14 + 5 * i + 4) d + nI x) = if x = k + 4 then m (14 + 5 * i + 2) 13 else if x = k then m (14 + 5 * i + 2) 12 else gw m (m (14 + 5 * i + 4) d + nI x) := fun x hx hx4 => by
    have aX := gadr hI hi hd hg (k := x) hx
    have wX := wi_eq aX.2.1
    rw [gw_in aX.2.1, rw2, gw_in aX.2.1]
    by_cases q1 : x = k + 4
    · rw [if_pos q1, if_pos (by rw [q1])]
    · rw [if_neg q1, if_neg (by omega)]
      by_cases q2 : x = k
      · rw [if_pos q2, if_pos (by rw [q2])]
      · rw [if_neg q2, if_neg (by omega)]
  have I1 : Inv B (pw (pw m (m (14 + 5 * i + 4) d + nI k) (m (14 + 5 * i + 2) 12)) (m (14 + 5 * i + 4) d + nI (k + 4)) (m (14 + 5 * i + 2) 13)) := by
    refine hI.grw hi hd hg hc (fun w h => by have := hw w h; omega) (fun x hx => ?_) (fun e x hx => ?_) (fun e => ?_) (fun hs x hx => ?_) (fun e hu => ?_) (fun e hu => ?_) (fun x hx => ?_)
    · rw [rd _ (by omega) (by omega), rd _ (by omega) (by omega)]
      by_cases q : 8 * (1 + sbN d + x) = k
      · rw [if_neg (by omega), if_pos q, if_pos (by omega)]
        exact hbf x hx q
      · rw [if_neg (by omega), if_neg q, if_neg (by omega), if_neg (by omega)]
        exact hP.bf d hd hg x hx
    · subst e
      have z' : owA 1 = 64 := by decide
      rw [rd _ (by show 64 + 4 * x < 80; omega) (by omega), if_neg (by omega), if_neg (by omega)]
      exact hP.ow1 hg x hx
    · subst e
      have z' : owA 6 = 16 := by decide
      have := rd 16 (by decide) (by omega)
      rw [if_neg (by omega), if_neg (by omega)] at this
      rw [show m (14 + 5 * i + 4) 6 + 16 = m (14 + 5 * i + 4) 6 + nI 16 from rfl, this]
      exact hP.ow6 hg
    · rw [rd _ (by omega) (by omega), if_neg (by omega), if_neg (by omega)]
      exact (hP.ovr hs).2 d hd hg x hx
    · subst e
      have z' : owA 1 = 64 := by decide
      unfold undW at hu
      rw [hc _ (by omega)] at hu
      have := rd 64 (by decide) (by omega)
      rw [if_neg (by omega), if_neg (by omega)] at this
      exact hI.askW (on_of hI hi) i hi ⟨hu.1, by rw [show m (14 + 5 * i + 4) 1 + 64 = m (14 + 5 * i + 4) 1 + nI 64 from rfl, ← this]; exact hu.2⟩
    · subst e
      have z' : owA 1 = 64 := by decide
      unfold undR at hu
      rw [hc _ (by omega)] at hu
      have := rd 72 (by decide) (by omega)
      rw [if_neg (by omega), if_neg (by omega)] at this
      exact hI.askR (on_of hI hi) i hi ⟨hu.1, by rw [show m (14 + 5 * i + 4) 1 + 72 = m (14 + 5 * i + 4) 1 + nI 72 from rfl, ← this]; exact hu.2⟩
    · rw [rd _ (by omega) (by omega), if_neg (by omega)]
      by_cases q : 8 * (1 + x) = k
      · rw [if_pos q]; exact hsf x hx q
      · rw [if_neg q]; exact hP.sfe d hd hg x hx
  have k1 : cnt (pw (pw m (m (14 + 5 * i + 4) d + nI k) (m (14 + 5 * i + 2) 12)) (m (14 + 5 * i + 4) d + nI (k + 4)) (m (14 + 5 * i + 2) 13)) = cnt m := cnt_cg (by rw [hc _ (by omega)])
  have ee : exC m i (m (14 + 5 * i + 4) d + nI k) = rgC (pw (pw m (m (14 + 5 * i + 4) d + nI k) (m (14 + 5 * i + 2) 12)) (m (14 + 5 * i + 4) d + nI (k + 4)) (m (14 + 5 * i + 2) 13)) i [(10, 130), (11, gw m (m (14 + 5 * i + 4) d + nI k)), (12, gw m (m (14 + 5 * i + 4) d + nI (k + 4)))] := by unfold exC; rw [ga4]
  rw [ee]
  refine ⟨I1.rg _ (by rw [k1]; exact hi) (by simp), Kp.of (fun x hx => by rw [rgC_c _ _ (by omega), hc _ (by omega)]) (by rw [rgC_c _ _ (by omega), hc _ (by omega)]), fun x hx => by rw [rgC_c _ _ (by omega), hc _ (by omega)], fun M hM Φ h => ?_⟩
  have R1 : Rel (pw (pw m (m (14 + 5 * i + 4) d + nI k) (m (14 + 5 * i + 2) 12)) (m (14 + 5 * i + 4) d + nI (k + 4)) (m (14 + 5 * i + 2) 13)) (pwM (pwM M (m (14 + 5 * i + 4) d + nI k) (m (14 + 5 * i + 2) 12)) (m (14 + 5 * i + 4) d + nI (k + 4)) (m (14 + 5 * i + 2) 13)) := by
    refine hM.grx hI hi hd hg hc hw (fun x hx => by rw [pwM_c _ _ _ hx, pwM_c _ _ _ hx]) (fun w hw' hx j hj => ?_)
    have cA : (Int32.toNatClampNeg (m (14 + 5 * i + 4) d + nI k) : Int) = (m (14 + 5 * i + 4) d).toInt + k := by rw [clampI]; omega
    have cB : (Int32.toNatClampNeg (m (14 + 5 * i + 4) d + nI (k + 4)) : Int) = (m (14 + 5 * i + 4) d).toInt + (k + 4 : Nat) := by rw [clampI]; omega
    rw [rw2, pwM_r, pwM_r]
    by_cases q1 : w = wi (m (14 + 5 * i + 4) d + nI (k + 4))
    · rw [if_pos q1, if_pos (by omega), show 65536 + 4 * w + j - Int32.toNatClampNeg (m (14 + 5 * i + 4) d + nI (k + 4)) = j by omega]
    · rw [if_neg q1, if_neg (by omega)]
      by_cases q2 : w = wi (m (14 + 5 * i + 4) d + nI k)
      · rw [if_pos q2, if_pos (by omega), show 65536 + 4 * w + j - Int32.toNatClampNeg (m (14 + 5 * i + 4) d + nI k) = j by omega]
      · rw [if_neg q2, if_neg (by omega)]
        exact hM.mem w hw' hx j hj
  have R2 := R1.rg (i := i) [(10, 130), (11, gw m (m (14 + 5 * i + 4) d + nI k)), (12, gw m (m (14 + 5 * i + 4) d + nI (k + 4)))] (by rw [k1]; exact h8) (by rw [k1]; exact hi) (by intro y hy; simp only [List.mem_cons, List.not_mem_nil, or_false] at hy; rcases hy with rfl | rfl | rfl <;> simp only <;> omega)
  refine r_220g hI hM hi hd hg (by omega) (by omega) (r_220g hI hM hi hd hg (by omega) (by omega) (r_221 _ aA.2.1 (by omega) (r_221 _ aB.2.1 (by omega) (r_279b i8 (h _ R2 (fun x hx => ?_))))))
  rw [rgM_c _ _ (by omega), pwM_c _ _ _ (by omega), pwM_c _ _ _ (by omega)]
