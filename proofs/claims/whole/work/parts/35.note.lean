/-! note, the answers of a process. -/
def KC (kc : it_Kc) : Prop := ∀ j, j < 7 → kc j = it_kc0 0 (fun _ => 0) j
theorem KC.k0 {kc : it_Kc} (h : KC kc) : kc 0 = (6, fun i => ([5, 6, 7, 8, 0, 9] : List Int32).getD i 0) := h 0 (by omega)
theorem KC.k1 {kc : it_Kc} (h : KC kc) : kc 1 = (9, fun i => ([3, 4, 0, 1, 0, 0, 3, 1, 0] : List Int32).getD i 0) := h 1 (by omega)
theorem KC.k2 {kc : it_Kc} (h : KC kc) : kc 2 = (9, fun i => ([1, 3, 0, 1, 1, 1, 1, 1, 0] : List Int32).getD i 0) := h 2 (by omega)
theorem KC.k3 {kc : it_Kc} (h : KC kc) : kc 3 = (9, fun i => ([0, 2, 0, 0, 0, 1, 0, 1, 1] : List Int32).getD i 0) := h 3 (by omega)
theorem KC.k4 {kc : it_Kc} (h : KC kc) : kc 4 = (9, fun i => ([0, 2, 0, 0, 1, 1, 0, 1, 0] : List Int32).getD i 0) := h 4 (by omega)
theorem KC.k5 {kc : it_Kc} (h : KC kc) : kc 5 = (9, fun i => ([0, 0, 4, 4, 0, 0, 2, 0, 0] : List Int32).getD i 0) := h 5 (by omega)
theorem KC.k6 {kc : it_Kc} (h : KC kc) : kc 6 = (9, fun i => ([110, 14, 14, 14, 2, 14, 14, 14, 2] : List Int32).getD i 0) := h 6 (by omega)
theorem cI {i : Nat} (h : i < 8) : Int32.toNatClampNeg (nI i) = i := nI_clamp (by omega)
theorem vI {i : Nat} (h : i < 8) : vp_in (nI i) 8 := by rw [vp_in_iff, nI_toInt (by omega)]; omega
theorem ixr {i r : Nat} {x : Int32} (hi : i < 8) (hr : x = nI r) (h : r < 32) : (32 * nI i + x).toInt = 32 * i + r := by
  subst hr
  have := nI_toInt (n := i) (by omega)
  have := nI_toInt (n := r) (by omega)
  ((try simp only [Int32.lt_iff_toInt_lt, Int32.le_iff_toInt_le, ← Int32.toInt_inj, Int32.reduceToInt, clampI, vp_in_iff, ne_eq, not_and, not_or, Int32.not_lt, Int32.not_le] at *) <;> (try simp (disch := omega) only [Int32.toInt_add, Int32.toInt_sub, Int32.toInt_mul, Int32.toInt_neg, Int32.reduceToInt, bmI, bmI', and1, and3, and7, and31, and127, and255, and65535, shr2, nI_toInt] at *) <;> (try simp only [bm32, bm32'] at *) <;> omega)
theorem ixc {i r : Nat} {x : Int32} (hi : i < 8) (hr : x = nI r) (h : r < 32) : Int32.toNatClampNeg (32 * nI i + x) = 32 * i + r := by
  rw [clampI, ixr hi hr h]; omega
theorem ixv {i r : Nat} {x : Int32} (hi : i < 8) (hr : x = nI r) (h : r < 32) : vp_in (32 * nI i + x) 256 := by
  rw [vp_in_iff, ixr hi hr h]; omega
theorem ix_1 {i : Nat} (hi : i < 8) : Int32.toNatClampNeg (32 * nI i + 1) = 32 * i + 1 := ixc hi rfl (by omega)
theorem ix_2 {i : Nat} (hi : i < 8) : Int32.toNatClampNeg (32 * nI i + 2) = 32 * i + 2 := ixc hi rfl (by omega)
theorem ix_10 {i : Nat} (hi : i < 8) : Int32.toNatClampNeg (32 * nI i + 10) = 32 * i + 10 := ixc hi rfl (by omega)
theorem ix_11 {i : Nat} (hi : i < 8) : Int32.toNatClampNeg (32 * nI i + 11) = 32 * i + 11 := ixc hi rfl (by omega)
theorem ix_12 {i : Nat} (hi : i < 8) : Int32.toNatClampNeg (32 * nI i + 12) = 32 * i + 12 := ixc hi rfl (by omega)
theorem ix_13 {i : Nat} (hi : i < 8) : Int32.toNatClampNeg (32 * nI i + 13) = 32 * i + 13 := ixc hi rfl (by omega)
theorem ix_14 {i : Nat} (hi : i < 8) : Int32.toNatClampNeg (32 * nI i + 14) = 32 * i + 14 := ixc hi rfl (by omega)
theorem vx_1 {i : Nat} (hi : i < 8) : vp_in (32 * nI i + 1) 256 := ixv hi (r := 1) rfl (by omega)
theorem vx_2 {i : Nat} (hi : i < 8) : vp_in (32 * nI i + 2) 256 := ixv hi (r := 2) rfl (by omega)
theorem vx_10 {i : Nat} (hi : i < 8) : vp_in (32 * nI i + 10) 256 := ixv hi (r := 10) rfl (by omega)
theorem vx_11 {i : Nat} (hi : i < 8) : vp_in (32 * nI i + 11) 256 := ixv hi (r := 11) rfl (by omega)
theorem vx_12 {i : Nat} (hi : i < 8) : vp_in (32 * nI i + 12) 256 := ixv hi (r := 12) rfl (by omega)
theorem vx_13 {i : Nat} (hi : i < 8) : vp_in (32 * nI i + 13) 256 := ixv hi (r := 13) rfl (by omega)
theorem vx_14 {i : Nat} (hi : i < 8) : vp_in (32 * nI i + 14) 256 := ixv hi (r := 14) rfl (by omega)
theorem v32_1 : vp_in 1 32 := by rw [vp_in_iff]; decide
theorem v32_2 : vp_in 2 32 := by rw [vp_in_iff]; decide
theorem v32_10 : vp_in 10 32 := by rw [vp_in_iff]; decide
theorem v32_11 : vp_in 11 32 := by rw [vp_in_iff]; decide
theorem v32_12 : vp_in 12 32 := by rw [vp_in_iff]; decide
theorem v32_13 : vp_in 13 32 := by rw [vp_in_iff]; decide
theorem v32_14 : vp_in 14 32 := by rw [vp_in_iff]; decide
theorem v12_11 : vp_in 11 12 := by rw [vp_in_iff]; decide
theorem v12_5 : vp_in 5 12 := by rw [vp_in_iff]; decide
theorem v12_6 : vp_in 6 12 := by rw [vp_in_iff]; decide
theorem v12_7 : vp_in 7 12 := by rw [vp_in_iff]; decide
theorem v12_8 : vp_in 8 12 := by rw [vp_in_iff]; decide
theorem v12_9 : vp_in 9 12 := by rw [vp_in_iff]; decide
theorem v50_0 : vp_in 0 50 := by rw [vp_in_iff]; decide
theorem v50_1 : vp_in 1 50 := by rw [vp_in_iff]; decide
/-- registers written one after the other -/
def rgC (m : it_Me) (i : Nat) : List (Nat × Int32) → it_Me
  | [] => m
  | x :: l => rgC (it_sv m (14 + 5 * i + 2) x.1 x.2) i l
def rgM (M : it_Me) (i : Nat) : List (Nat × Int32) → it_Me
  | [] => M
  | x :: l => rgM (it_sv M 93 (32 * i + x.1) x.2) i l
theorem Rel.rg {i : Nat} : ∀ (l : List (Nat × Int32)) {m M : it_Me}, Rel m M → cnt m ≤ 8 → i < cnt m → (∀ x ∈ l, x.1 < 32) → Rel (rgC m i l) (rgM M i l)
  | [], _, _, h, _, _, _ => h
  | x :: l, m, M, h, hc, hi, hl => Rel.rg l (h.reg hc hi (hl x List.mem_cons_self) x.2) (by rw [cnt_sv _ _ _ (by omega)]; exact hc) (by rw [cnt_sv _ _ _ (by omega)]; exact hi) (fun y hy => hl y (List.mem_cons_of_mem _ hy))
theorem Inv.rg {B i : Nat} : ∀ (l : List (Nat × Int32)) {m : it_Me}, Inv B m → i < cnt m → (∀ x ∈ l, x.1 ≠ 0) → Inv B (rgC m i l)
  | [], _, h, _, _ => h
  | x :: l, m, h, hi, hl => Inv.rg l (h.reg hi x.1 x.2 (hl x List.mem_cons_self)) (by rw [cnt_sv _ _ _ (by omega)]; exact hi) (fun y hy => hl y (List.mem_cons_of_mem _ hy))
theorem rgC_c {i : Nat} : ∀ (l : List (Nat × Int32)) (m : it_Me) {k : Nat}, k ≠ 14 + 5 * i + 2 → rgC m i l k = m k
  | [], _, _, _ => rfl
  | x :: l, m, k, h => by rw [rgC, rgC_c l _ h, sv_cell _ _ _ _ h]
theorem rgM_c {i : Nat} : ∀ (l : List (Nat × Int32)) (m : it_Me) {k : Nat}, k ≠ 93 → rgM m i l k = m k
  | [], _, _, _ => rfl
  | x :: l, m, k, h => by rw [rgM, rgM_c l _ h, sv_cell _ _ _ _ h]
theorem c_136 {kc : it_Kc} {i : Nat} {e : Int32} {m : it_Me} {Φ : it_Me → Prop} (h : Φ (rgC m i [(10, 0), (11, e)])) : w_136 kc (14 + 5 * i) e m Φ := ⟨v32_10, v32_11, h⟩
theorem c_137 {kc : it_Kc} {i : Nat} {e : Int32} {m : it_Me} {Φ : it_Me → Prop} (h : Φ (rgC m i [(10, 2), (11, e)])) : w_137 kc (14 + 5 * i) e m Φ := ⟨v32_10, v32_11, h⟩
theorem c_138 {kc : it_Kc} {i : Nat} {m : it_Me} {Φ : it_Me → Prop} (h : Φ (rgC m i [(10, 128)])) : w_138 kc (14 + 5 * i) m Φ := ⟨v32_10, h⟩
theorem c_139 {kc : it_Kc} {i : Nat} {e : Int32} {m : it_Me} {Φ : it_Me → Prop} (h : Φ (rgC m i [(10, 129), (11, e)])) : w_139 kc (14 + 5 * i) e m Φ := ⟨v32_10, v32_11, h⟩
theorem c_140 {kc : it_Kc} {i : Nat} {e f : Int32} {m : it_Me} {Φ : it_Me → Prop} (h : Φ (rgC m i [(10, 130), (11, e), (12, f)])) : w_140 kc (14 + 5 * i) e f m Φ := ⟨v32_10, v32_11, v32_12, h⟩
theorem r_280 {kc : it_Kc} {i : Nat} (h8 : i < 8) {M : it_Me} {Φ : it_Me → Prop} (h : Φ (rgM M i [(10, 128)])) : w_280 kc (nI i) M Φ := by
  unfold w_280 w_279 w_279_33 w_279_54
  rw [ix_10 h8]
  exact ⟨vx_10 h8, fun _ => ⟨fun q => absurd q (by decide), fun _ => h⟩, fun q => absurd rfl q⟩
theorem r_281 {kc : it_Kc} {i : Nat} (h8 : i < 8) {e : Int32} {M : it_Me} {Φ : it_Me → Prop} (h : Φ (rgM M i [(10, 129), (11, e)])) : w_281 kc (nI i) e M Φ := by
  unfold w_281 w_279 w_279_33 w_279_54
  rw [ix_10 h8, ix_11 h8]
  exact ⟨vx_10 h8, fun q => absurd q (by decide), fun _ => ⟨vx_11 h8, fun q => absurd q (by decide), fun _ => h⟩⟩
theorem r_282 {kc : it_Kc} {i : Nat} (h8 : i < 8) {e : Int32} {M : it_Me} {Φ : it_Me → Prop} (h : Φ (rgM M i [(10, 0), (11, e)])) : w_282 kc (nI i) e M Φ := by
  unfold w_282 w_279 w_279_33 w_279_54
  rw [ix_10 h8, ix_11 h8]
  exact ⟨vx_10 h8, fun q => absurd q (by decide), fun _ => ⟨vx_11 h8, fun q => absurd q (by decide), fun _ => h⟩⟩
theorem r_279b {kc : it_Kc} {i : Nat} (h8 : i < 8) {e f : Int32} {M : it_Me} {Φ : it_Me → Prop} (h : Φ (rgM M i [(10, 130), (11, e), (12, f)])) : w_279 kc (nI i) 130 e f M Φ := by
  unfold w_279 w_279_33 w_279_54
  rw [ix_10 h8, ix_11 h8, ix_12 h8]
  exact ⟨vx_10 h8, fun q => absurd q (by decide), fun _ => ⟨vx_11 h8, fun _ => ⟨vx_12 h8, h⟩, fun q => absurd rfl q⟩⟩
theorem r_283 {kc : it_Kc} {i : Nat} (h8 : i < 8) {e f g : Int32} {M : it_Me} (hf : M 93 (32 * i + 12) = f) (hg : M 93 (32 * i + 13) = g) {Φ : it_Me → Prop} (h : Φ (rgM M i [(10, 2), (11, e)])) : w_283 kc (nI i) e f g M Φ := by
  unfold w_283
  rw [ix_10 h8, ix_11 h8, ix_12 h8, ix_13 h8]
  refine ⟨vx_10 h8, vx_11 h8, vx_12 h8, vx_13 h8, ?_⟩
  have e1 : it_sv (it_sv (it_sv M 93 (32 * i + 10) 2) 93 (32 * i + 11) e) 93 (32 * i + 12) f = it_sv (it_sv M 93 (32 * i + 10) 2) 93 (32 * i + 11) e := by
    have := sv_self (it_sv (it_sv M 93 (32 * i + 10) 2) 93 (32 * i + 11) e) 93 (32 * i + 12)
    rw [sv_n2 _ _ _ _ (by omega), sv_n2 _ _ _ _ (by omega), hf] at this
    exact this
  have e2 : it_sv (it_sv (it_sv M 93 (32 * i + 10) 2) 93 (32 * i + 11) e) 93 (32 * i + 13) g = it_sv (it_sv M 93 (32 * i + 10) 2) 93 (32 * i + 11) e := by
    have := sv_self (it_sv (it_sv M 93 (32 * i + 10) 2) 93 (32 * i + 11) e) 93 (32 * i + 13)
    rw [sv_n2 _ _ _ _ (by omega), sv_n2 _ _ _ _ (by omega), hg] at this
    exact this
  rw [e1, e2]
  exact h
/-- an event is noted -/
def ntC (m : it_Me) (p k n : Int32) : it_Me := it_sv (it_sv (it_sv (it_sv (it_sv (it_sv (it_sv m 6 (4 * Int32.toNatClampNeg (m 4 3)) (m 4 0)) 6 (4 * Int32.toNatClampNeg (m 4 3) + 1) p) 6 (4 * Int32.toNatClampNeg (m 4 3) + 2) k) 6 (4 * Int32.toNatClampNeg (m 4 3) + 3) n) 4 3 (if 200 ≤ m 4 3 + 1 then 0 else m 4 3 + 1)) 4 4 (if 200 ≤ m 4 4 then 200 else m 4 4 + 1)) 5 11 (m 5 11 + 1)
def ntM (M : it_Me) (p k n : Int32) : it_Me := it_sv (it_sv (it_sv (it_sv (it_sv M 74 (4 * ((M 69 11).toInt % 200).toNat) (M 66 6)) 74 (4 * ((M 69 11).toInt % 200).toNat + 1) p) 74 (4 * ((M 69 11).toInt % 200).toNat + 2) k) 74 (4 * ((M 69 11).toInt % 200).toNat + 3) n) 69 11 (M 69 11 + 1)
theorem ntC_c (m : it_Me) (p k n : Int32) {x : Nat} (h : x ≠ 4 ∧ x ≠ 5 ∧ x ≠ 6) : ntC m p k n x = m x := by
  unfold ntC
  rw [sv_cell _ _ _ _ (by omega), sv_cell _ _ _ _ (by omega), sv_cell _ _ _ _ (by omega), sv_cell _ _ _ _ (by omega), sv_cell _ _ _ _ (by omega), sv_cell _ _ _ _ (by omega), sv_cell _ _ _ _ (by omega)]
theorem ntM_c (m : it_Me) (p k n : Int32) {x : Nat} (h : x ≠ 69 ∧ x ≠ 74) : ntM m p k n x = m x := by
  unfold ntM
  rw [sv_cell _ _ _ _ (by omega), sv_cell _ _ _ _ (by omega), sv_cell _ _ _ _ (by omega), sv_cell _ _ _ _ (by omega), sv_cell _ _ _ _ (by omega)]
theorem ntC_40 (m : it_Me) (p k n : Int32) : ntC m p k n 4 0 = m 4 0 := by unfold ntC; simp (disch := omega) only [sv_n1, sv_n2]
theorem ntC_5 (m : it_Me) (p k n : Int32) {c : Nat} (h : c ≠ 11) : ntC m p k n 5 c = m 5 c := by unfold ntC; simp (disch := omega) only [sv_n1, sv_n2]
theorem ntC_cn (m : it_Me) (p k n : Int32) {c : Nat} (h : c ≠ 11) (v : Int32) : ntC (it_sv m 5 c v) p k n = it_sv (ntC m p k n) 5 c v := by
  unfold ntC
  simp (disch := omega) only [sv_n1, sv_n2]
  rw [sv_comm m 5 c v _ _ _ (by omega)]
  rw [sv_comm _ 5 c v 6 _ p (by omega)]
  rw [sv_comm _ 5 c v 6 _ k (by omega)]
  rw [sv_comm _ 5 c v 6 _ n (by omega)]
  rw [sv_comm _ 5 c v 4 3 _ (by omega)]
  rw [sv_comm _ 5 c v 4 4 _ (by omega)]
  rw [sv_comm _ 5 c v 5 11 _ (by omega)]
theorem ntM_cn (m : it_Me) (p k n : Int32) {c : Nat} (h : c ≠ 11) (v : Int32) : ntM (it_sv m 69 c v) p k n = it_sv (ntM m p k n) 69 c v := by
  unfold ntM
  simp (disch := omega) only [sv_n1, sv_n2]
  rw [sv_comm m 69 c v _ _ _ (by omega)]
  rw [sv_comm _ 69 c v 74 _ p (by omega)]
  rw [sv_comm _ 69 c v 74 _ k (by omega)]
  rw [sv_comm _ 69 c v 74 _ n (by omega)]
  rw [sv_comm _ 69 c v 69 11 _ (by omega)]
theorem nt_I {B B' : Nat} {m : it_Me} (hI : Inv B m) (hB : B < 2147483000) (hB' : B + 1 ≤ B') (p k n : Int32) : Inv B' (ntC m p k n) := by
  have h0 := hI.ev
  have e5 : ntC m p k n 5 11 = m 5 11 + 1 := by unfold ntC; rw [sv_same]
  have e3 : ntC m p k n 4 3 = if 200 ≤ m 4 3 + 1 then 0 else m 4 3 + 1 := by unfold ntC; simp (disch := omega) only [sv_n1, sv_n2, sv_same]
  have e4 : ntC m p k n 4 4 = if 200 ≤ m 4 4 then 200 else m 4 4 + 1 := by unfold ntC; simp (disch := omega) only [sv_n1, sv_n2, sv_same]
  have e0 := ntC_40 m p k n
  have e53 := ntC_5 m p k n (c := 3) (by omega)
  exact (Inv.upd (hI) ((by omega)) ([4, 5, 6]) (fun x hx => by simp only [List.mem_cons, List.not_mem_nil, or_false, not_or] at hx; exact ntC_c m p k n hx) (by first | (refine Or.inl (And.intro ?_ ?_) <;> first | (simp only [List.mem_cons, List.not_mem_nil, or_false, forall_eq_or_imp, forall_eq, false_implies, implies_true, and_true] <;> omega) | (repeat' (first | exact True.intro | rfl | refine And.intro ?_ ?_ | (rw [sv_ne _ _ _ _ (by omega)]) | (rw [up_cell _ _ _ (by omega)]) | (rw [fil_cell _ _ _ _ _ (by omega)]) | (rw [hM _ (by omega)]) | (rw [hm _ (by omega)])))) | (have t_ := Inv.tl (hI); exact Or.inr t_)) (by first | (refine Or.inl (And.intro ?_ ?_) <;> first | (simp only [List.mem_cons, List.not_mem_nil, or_false, forall_eq_or_imp, forall_eq, false_implies, implies_true, and_true] <;> omega) | (repeat' (first | exact True.intro | rfl | refine And.intro ?_ ?_ | (rw [sv_ne _ _ _ _ (by omega)]) | (rw [up_cell _ _ _ (by omega)]) | (rw [fil_cell _ _ _ _ _ (by omega)]) | (rw [hM _ (by omega)]) | (rw [hm _ (by omega)])))) | (have t_ := Inv.tp (hI); exact Or.inr t_)) (by first | (refine Or.inl (And.intro ?_ ?_) <;> first | (simp only [List.mem_cons, List.not_mem_nil, or_false, forall_eq_or_imp, forall_eq, false_implies, implies_true, and_true] <;> omega) | (repeat' (first | exact True.intro | rfl | refine And.intro ?_ ?_ | (rw [sv_ne _ _ _ _ (by omega)]) | (rw [up_cell _ _ _ (by omega)]) | (rw [fil_cell _ _ _ _ _ (by omega)]) | (rw [hM _ (by omega)]) | (rw [hm _ (by omega)])))) | (have t_ := Inv.on (hI); exact Or.inr t_)) (Or.inr (by
    rw [ntC_c (x := 0) _ _ _ _ (by omega), ntC_c (x := 9) _ _ _ _ (by omega), ntC_c (x := 2) _ _ _ _ (by omega), e0]; exact hI.off)) (by first | (refine Or.inl (And.intro ?_ ?_) <;> first | (simp only [List.mem_cons, List.not_mem_nil, or_false, forall_eq_or_imp, forall_eq, false_implies, implies_true, and_true] <;> omega) | (repeat' (first | exact True.intro | rfl | refine And.intro ?_ ?_ | (rw [sv_ne _ _ _ _ (by omega)]) | (rw [up_cell _ _ _ (by omega)]) | (rw [fil_cell _ _ _ _ _ (by omega)]) | (rw [hM _ (by omega)]) | (rw [hm _ (by omega)])))) | (have t_ := Inv.cn (hI); exact Or.inr t_)) (Or.inr (by
    rw [e5, e3, e4]
    have a1 : (m 5 11 + 1).toInt = (m 5 11).toInt + 1 := by rw [Int32.toInt_add, show (1 : Int32).toInt = 1 from rfl, bmI' (by omega) (by omega)]
    have a2 : (m 4 3 + 1).toInt = (m 4 3).toInt + 1 := by rw [Int32.toInt_add, show (1 : Int32).toInt = 1 from rfl, bmI' (by omega) (by omega)]
    have a3 : (m 4 4 + 1).toInt = (m 4 4).toInt + 1 := by rw [Int32.toInt_add, show (1 : Int32).toInt = 1 from rfl, bmI' (by omega) (by omega)]
    refine ⟨by omega, by omega, ?_, ?_⟩
    · split
      · rename_i q
        rw [Int32.le_iff_toInt_le, a2] at q
        simp only [Int32.reduceToInt] at q ⊢
        omega
      · rename_i q
        rw [Int32.le_iff_toInt_le, a2] at q
        simp only [Int32.reduceToInt] at q
        omega
    · split
      · rename_i q
        rw [Int32.le_iff_toInt_le] at q
        simp only [Int32.reduceToInt] at q ⊢
        omega
      · rename_i q
        rw [Int32.le_iff_toInt_le] at q
        simp only [Int32.reduceToInt] at q
        omega)) (Or.inr (by
    rw [e53, ntC_c _ _ _ _ (by omega)]
    have := hI.out
    exact ⟨this.1, by omega, this.2.2⟩)) (by first | (refine Or.inl (And.intro ?_ ?_) <;> first | (simp only [List.mem_cons, List.not_mem_nil, or_false, forall_eq_or_imp, forall_eq, false_implies, implies_true, and_true] <;> omega) | (repeat' (first | exact True.intro | rfl | refine And.intro ?_ ?_ | (rw [sv_ne _ _ _ _ (by omega)]) | (rw [up_cell _ _ _ (by omega)]) | (rw [fil_cell _ _ _ _ _ (by omega)]) | (rw [hM _ (by omega)]) | (rw [hm _ (by omega)])))) | (have t_ := Inv.num (hI); exact Or.inr t_)) (by first | (refine Or.inl (And.intro ?_ ?_) <;> first | (simp only [List.mem_cons, List.not_mem_nil, or_false, forall_eq_or_imp, forall_eq, false_implies, implies_true, and_true] <;> omega) | (repeat' (first | exact True.intro | rfl | refine And.intro ?_ ?_ | (rw [sv_ne _ _ _ _ (by omega)]) | (rw [up_cell _ _ _ (by omega)]) | (rw [fil_cell _ _ _ _ _ (by omega)]) | (rw [hM _ (by omega)]) | (rw [hm _ (by omega)])))) | (have t_ := Inv.crc (hI); exact Or.inr t_)) (by first | (refine Or.inl (And.intro ?_ ?_) <;> first | (simp only [List.mem_cons, List.not_mem_nil, or_false, forall_eq_or_imp, forall_eq, false_implies, implies_true, and_true] <;> omega) | (repeat' (first | exact True.intro | rfl | refine And.intro ?_ ?_ | (rw [sv_ne _ _ _ _ (by omega)]) | (rw [up_cell _ _ _ (by omega)]) | (rw [fil_cell _ _ _ _ _ (by omega)]) | (rw [hM _ (by omega)]) | (rw [hm _ (by omega)])))) | (have t_ := Inv.bk (hI); exact Or.inr t_)) (by first | (refine Or.inl (And.intro ?_ ?_) <;> first | (simp only [List.mem_cons, List.not_mem_nil, or_false, forall_eq_or_imp, forall_eq, false_implies, implies_true, and_true] <;> omega) | (repeat' (first | exact True.intro | rfl | refine And.intro ?_ ?_ | (rw [sv_ne _ _ _ _ (by omega)]) | (rw [up_cell _ _ _ (by omega)]) | (rw [fil_cell _ _ _ _ _ (by omega)]) | (rw [hM _ (by omega)]) | (rw [hm _ (by omega)])))) | (have t_ := Inv.bk1 (hI); exact Or.inr t_)) (by first | (refine Or.inl (And.intro ?_ ?_) <;> first | (simp only [List.mem_cons, List.not_mem_nil, or_false, forall_eq_or_imp, forall_eq, false_implies, implies_true, and_true] <;> omega) | (repeat' (first | exact True.intro | rfl | refine And.intro ?_ ?_ | (rw [sv_ne _ _ _ _ (by omega)]) | (rw [up_cell _ _ _ (by omega)]) | (rw [fil_cell _ _ _ _ _ (by omega)]) | (rw [hM _ (by omega)]) | (rw [hm _ (by omega)])))) | (have t_ := Inv.pw (hI); exact Or.inr t_)) (by first | (refine Or.inl (And.intro ?_ ?_) <;> first | (simp only [List.mem_cons, List.not_mem_nil, or_false, forall_eq_or_imp, forall_eq, false_implies, implies_true, and_true] <;> omega) | (repeat' (first | exact True.intro | rfl | refine And.intro ?_ ?_ | (rw [sv_ne _ _ _ _ (by omega)]) | (rw [up_cell _ _ _ (by omega)]) | (rw [fil_cell _ _ _ _ _ (by omega)]) | (rw [hM _ (by omega)]) | (rw [hm _ (by omega)])))) | (have t_ := Inv.kd (hI); exact Or.inr t_)) (by first | (refine Or.inl (And.intro ?_ ?_) <;> first | (simp only [List.mem_cons, List.not_mem_nil, or_false, forall_eq_or_imp, forall_eq, false_implies, implies_true, and_true] <;> omega) | (repeat' (first | exact True.intro | rfl | refine And.intro ?_ ?_ | (rw [sv_ne _ _ _ _ (by omega)]) | (rw [up_cell _ _ _ (by omega)]) | (rw [fil_cell _ _ _ _ _ (by omega)]) | (rw [hM _ (by omega)]) | (rw [hm _ (by omega)])))) | (have t_ := Inv.tn (hI); exact Or.inr t_)) (by first | (refine Or.inl (And.intro ?_ ?_) <;> first | (simp only [List.mem_cons, List.not_mem_nil, or_false, forall_eq_or_imp, forall_eq, false_implies, implies_true, and_true] <;> omega) | (repeat' (first | exact True.intro | rfl | refine And.intro ?_ ?_ | (rw [sv_ne _ _ _ _ (by omega)]) | (rw [up_cell _ _ _ (by omega)]) | (rw [fil_cell _ _ _ _ _ (by omega)]) | (rw [hM _ (by omega)]) | (rw [hm _ (by omega)])))) | (have t_ := Inv.ask (hI); exact Or.inr t_)) (by first | (refine Or.inl (And.intro ?_ ?_) <;> first | (simp only [List.mem_cons, List.not_mem_nil, or_false, forall_eq_or_imp, forall_eq, false_implies, implies_true, and_true] <;> omega) | (repeat' (first | exact True.intro | rfl | refine And.intro ?_ ?_ | (rw [sv_ne _ _ _ _ (by omega)]) | (rw [up_cell _ _ _ (by omega)]) | (rw [fil_cell _ _ _ _ _ (by omega)]) | (rw [hM _ (by omega)]) | (rw [hm _ (by omega)])))) | (have t_ := Inv.askW (hI); exact Or.inr t_)) (by first | (refine Or.inl (And.intro ?_ ?_) <;> first | (simp only [List.mem_cons, List.not_mem_nil, or_false, forall_eq_or_imp, forall_eq, false_implies, implies_true, and_true] <;> omega) | (repeat' (first | exact True.intro | rfl | refine And.intro ?_ ?_ | (rw [sv_ne _ _ _ _ (by omega)]) | (rw [up_cell _ _ _ (by omega)]) | (rw [fil_cell _ _ _ _ _ (by omega)]) | (rw [hM _ (by omega)]) | (rw [hm _ (by omega)])))) | (have t_ := Inv.askR (hI); exact Or.inr t_)) (by first | (refine Or.inl (And.intro ?_ ?_) <;> first | (simp only [List.mem_cons, List.not_mem_nil, or_false, forall_eq_or_imp, forall_eq, false_implies, implies_true, and_true] <;> omega) | (repeat' (first | exact True.intro | rfl | refine And.intro ?_ ?_ | (rw [sv_ne _ _ _ _ (by omega)]) | (rw [up_cell _ _ _ (by omega)]) | (rw [fil_cell _ _ _ _ _ (by omega)]) | (rw [hM _ (by omega)]) | (rw [hm _ (by omega)])))) | (have t_ := Inv.lv0 (hI); exact Or.inr t_)) (by first | (refine Or.inl (And.intro ?_ ?_) <;> first | (simp only [List.mem_cons, List.not_mem_nil, or_false, forall_eq_or_imp, forall_eq, false_implies, implies_true, and_true] <;> omega) | (repeat' (first | exact True.intro | rfl | refine And.intro ?_ ?_ | (rw [sv_ne _ _ _ _ (by omega)]) | (rw [up_cell _ _ _ (by omega)]) | (rw [fil_cell _ _ _ _ _ (by omega)]) | (rw [hM _ (by omega)]) | (rw [hm _ (by omega)])))) | (have t_ := Inv.lv2 (hI); exact Or.inr t_)) (by first | (refine Or.inl (And.intro ?_ ?_) <;> first | (simp only [List.mem_cons, List.not_mem_nil, or_false, forall_eq_or_imp, forall_eq, false_implies, implies_true, and_true] <;> omega) | (repeat' (first | exact True.intro | rfl | refine And.intro ?_ ?_ | (rw [sv_ne _ _ _ _ (by omega)]) | (rw [up_cell _ _ _ (by omega)]) | (rw [fil_cell _ _ _ _ _ (by omega)]) | (rw [hM _ (by omega)]) | (rw [hm _ (by omega)])))) | (have t_ := Inv.pl (hI); exact Or.inr t_)) (by first | (refine Or.inl (And.intro ?_ ?_) <;> first | (simp only [List.mem_cons, List.not_mem_nil, or_false, forall_eq_or_imp, forall_eq, false_implies, implies_true, and_true] <;> omega) | (repeat' (first | exact True.intro | rfl | refine And.intro ?_ ?_ | (rw [sv_ne _ _ _ _ (by omega)]) | (rw [up_cell _ _ _ (by omega)]) | (rw [fil_cell _ _ _ _ _ (by omega)]) | (rw [hM _ (by omega)]) | (rw [hm _ (by omega)])))) | (have t_ := Inv.pi (hI); exact Or.inr t_)) (by first | (refine Or.inl (And.intro ?_ ?_) <;> first | (simp only [List.mem_cons, List.not_mem_nil, or_false, forall_eq_or_imp, forall_eq, false_implies, implies_true, and_true] <;> omega) | (repeat' (first | exact True.intro | rfl | refine And.intro ?_ ?_ | (rw [sv_ne _ _ _ _ (by omega)]) | (rw [up_cell _ _ _ (by omega)]) | (rw [fil_cell _ _ _ _ _ (by omega)]) | (rw [hM _ (by omega)]) | (rw [hm _ (by omega)])))) | (have t_ := Inv.dis (hI); exact Or.inr t_)))
theorem nt_R {B : Nat} {m M : it_Me} (hI : Inv B m) (h : Rel m M) (p k n : Int32) : Rel (ntC m p k n) (ntM M p k n) := by
  have h0 := hI.ev
  have e11 := h.counts 11 (by omega)
  have ei : Int32.toNatClampNeg (m 4 3) = ((m 5 11).toInt % 200).toNat := by rw [clampI]; omega
  have e0 := ntC_40 m p k n
  exact (Rel.upd (h) (cnt_le hI) ([4, 5, 6]) ([69, 74]) (fun x hx => by simp only [List.mem_cons, List.not_mem_nil, or_false, not_or] at hx; exact ntC_c m p k n hx) (fun x hx => by simp only [List.mem_cons, List.not_mem_nil, or_false, not_or] at hx; exact ntM_c M p k n hx) (by first | (refine Or.inl (And.intro ?_ (And.intro ?_ ?_)) <;> first | (simp only [List.mem_cons, List.not_mem_nil, or_false, forall_eq_or_imp, forall_eq, false_implies, implies_true, and_true] <;> omega) | (repeat' (first | exact True.intro | rfl | refine And.intro ?_ ?_ | (rw [sv_ne _ _ _ _ (by omega)]) | (rw [up_cell _ _ _ (by omega)]) | (rw [fil_cell _ _ _ _ _ (by omega)]) | (rw [hM _ (by omega)]) | (rw [hm _ (by omega)])))) | (have t_ := Rel.tapeLen (h); exact Or.inr t_)) (by first | (refine Or.inl (And.intro ?_ (And.intro ?_ ?_)) <;> first | (simp only [List.mem_cons, List.not_mem_nil, or_false, forall_eq_or_imp, forall_eq, false_implies, implies_true, and_true] <;> omega) | (repeat' (first | exact True.intro | rfl | refine And.intro ?_ ?_ | (rw [sv_ne _ _ _ _ (by omega)]) | (rw [up_cell _ _ _ (by omega)]) | (rw [fil_cell _ _ _ _ _ (by omega)]) | (rw [hM _ (by omega)]) | (rw [hm _ (by omega)])))) | (have t_ := Rel.on (h); exact Or.inr t_)) (by first | (refine Or.inl (And.intro ?_ (And.intro ?_ ?_)) <;> first | (simp only [List.mem_cons, List.not_mem_nil, or_false, forall_eq_or_imp, forall_eq, false_implies, implies_true, and_true] <;> omega) | (repeat' (first | exact True.intro | rfl | refine And.intro ?_ ?_ | (rw [sv_ne _ _ _ _ (by omega)]) | (rw [up_cell _ _ _ (by omega)]) | (rw [fil_cell _ _ _ _ _ (by omega)]) | (rw [hM _ (by omega)]) | (rw [hm _ (by omega)])))) | (have t_ := Rel.lost (h); exact Or.inr t_)) (by first | (refine Or.inl (And.intro ?_ (And.intro ?_ ?_)) <;> first | (simp only [List.mem_cons, List.not_mem_nil, or_false, forall_eq_or_imp, forall_eq, false_implies, implies_true, and_true] <;> omega) | (repeat' (first | exact True.intro | rfl | refine And.intro ?_ ?_ | (rw [sv_ne _ _ _ _ (by omega)]) | (rw [up_cell _ _ _ (by omega)]) | (rw [fil_cell _ _ _ _ _ (by omega)]) | (rw [hM _ (by omega)]) | (rw [hm _ (by omega)])))) | (have t_ := Rel.power (h); exact Or.inr t_)) (Or.inr (by rw [e0, ntM_c _ _ _ _ (by omega)]; exact h.time)) (by first | (refine Or.inl (And.intro ?_ (And.intro ?_ ?_)) <;> first | (simp only [List.mem_cons, List.not_mem_nil, or_false, forall_eq_or_imp, forall_eq, false_implies, implies_true, and_true] <;> omega) | (repeat' (first | exact True.intro | rfl | refine And.intro ?_ ?_ | (rw [sv_ne _ _ _ _ (by omega)]) | (rw [up_cell _ _ _ (by omega)]) | (rw [fil_cell _ _ _ _ _ (by omega)]) | (rw [hM _ (by omega)]) | (rw [hm _ (by omega)])))) | (have t_ := Rel.z (h); exact Or.inr t_)) (by first | (refine Or.inl (And.intro ?_ (And.intro ?_ ?_)) <;> first | (simp only [List.mem_cons, List.not_mem_nil, or_false, forall_eq_or_imp, forall_eq, false_implies, implies_true, and_true] <;> omega) | (repeat' (first | exact True.intro | rfl | refine And.intro ?_ ?_ | (rw [sv_ne _ _ _ _ (by omega)]) | (rw [up_cell _ _ _ (by omega)]) | (rw [fil_cell _ _ _ _ _ (by omega)]) | (rw [hM _ (by omega)]) | (rw [hm _ (by omega)])))) | (have t_ := Rel.count (h); exact Or.inr t_)) (by first | (refine Or.inl (And.intro ?_ (And.intro ?_ ?_)) <;> first | (simp only [List.mem_cons, List.not_mem_nil, or_false, forall_eq_or_imp, forall_eq, false_implies, implies_true, and_true] <;> omega) | (repeat' (first | exact True.intro | rfl | refine And.intro ?_ ?_ | (rw [sv_ne _ _ _ _ (by omega)]) | (rw [up_cell _ _ _ (by omega)]) | (rw [fil_cell _ _ _ _ _ (by omega)]) | (rw [hM _ (by omega)]) | (rw [hm _ (by omega)])))) | (have t_ := Rel.turn (h); exact Or.inr t_)) (by first | (refine Or.inl (And.intro ?_ (And.intro ?_ ?_)) <;> first | (simp only [List.mem_cons, List.not_mem_nil, or_false, forall_eq_or_imp, forall_eq, false_implies, implies_true, and_true] <;> omega) | (repeat' (first | exact True.intro | rfl | refine And.intro ?_ ?_ | (rw [sv_ne _ _ _ _ (by omega)]) | (rw [up_cell _ _ _ (by omega)]) | (rw [fil_cell _ _ _ _ _ (by omega)]) | (rw [hM _ (by omega)]) | (rw [hm _ (by omega)])))) | (have t_ := Rel.bank (h); exact Or.inr t_)) (by first | (refine Or.inl (And.intro ?_ (And.intro ?_ ?_)) <;> first | (simp only [List.mem_cons, List.not_mem_nil, or_false, forall_eq_or_imp, forall_eq, false_implies, implies_true, and_true] <;> omega) | (repeat' (first | exact True.intro | rfl | refine And.intro ?_ ?_ | (rw [sv_ne _ _ _ _ (by omega)]) | (rw [up_cell _ _ _ (by omega)]) | (rw [fil_cell _ _ _ _ _ (by omega)]) | (rw [hM _ (by omega)]) | (rw [hm _ (by omega)])))) | (have t_ := Rel.tape (h); exact Or.inr t_)) (Or.inr (by
    intro i hi
    by_cases e : i = 11
    · subst e
      rw [show ntM M p k n 69 11 = M 69 11 + 1 from sv_same _ _ _ _, show ntC m p k n 5 11 = m 5 11 + 1 from sv_same _ _ _ _, e11]
    · rw [ntC_5 _ _ _ _ e, show ntM M p k n 69 i = M 69 i by unfold ntM; simp (disch := omega) only [sv_n1, sv_n2]]
      exact h.counts i hi)) (Or.inr (by
    intro i hi
    unfold ntC ntM
    rw [e11, ei, h.time]
    simp (disch := omega) only [sv_n1]
    simp only [sv_rd, true_and]
    rw [h.events i hi])) (by first | (refine Or.inl (And.intro ?_ (And.intro ?_ ?_)) <;> first | (simp only [List.mem_cons, List.not_mem_nil, or_false, forall_eq_or_imp, forall_eq, false_implies, implies_true, and_true] <;> omega) | (repeat' (first | exact True.intro | rfl | refine And.intro ?_ ?_ | (rw [sv_ne _ _ _ _ (by omega)]) | (rw [up_cell _ _ _ (by omega)]) | (rw [fil_cell _ _ _ _ _ (by omega)]) | (rw [hM _ (by omega)]) | (rw [hm _ (by omega)])))) | (have t_ := Rel.out (h); exact Or.inr t_)) (by first | (refine Or.inl (And.intro ?_ (And.intro ?_ ?_)) <;> first | (simp only [List.mem_cons, List.not_mem_nil, or_false, forall_eq_or_imp, forall_eq, false_implies, implies_true, and_true] <;> omega) | (repeat' (first | exact True.intro | rfl | refine And.intro ?_ ?_ | (rw [sv_ne _ _ _ _ (by omega)]) | (rw [up_cell _ _ _ (by omega)]) | (rw [fil_cell _ _ _ _ _ (by omega)]) | (rw [hM _ (by omega)]) | (rw [hm _ (by omega)])))) | (have t_ := Rel.lamps (h); exact Or.inr t_)) (by first | (refine Or.inl (And.intro ?_ (And.intro ?_ ?_)) <;> first | (simp only [List.mem_cons, List.not_mem_nil, or_false, forall_eq_or_imp, forall_eq, false_implies, implies_true, and_true] <;> omega) | (repeat' (first | exact True.intro | rfl | refine And.intro ?_ ?_ | (rw [sv_ne _ _ _ _ (by omega)]) | (rw [up_cell _ _ _ (by omega)]) | (rw [fil_cell _ _ _ _ _ (by omega)]) | (rw [hM _ (by omega)]) | (rw [hm _ (by omega)])))) | (have t_ := Rel.buttons (h); exact Or.inr t_)) (by first | (refine Or.inl (And.intro ?_ (And.intro ?_ ?_)) <;> first | (simp only [List.mem_cons, List.not_mem_nil, or_false, forall_eq_or_imp, forall_eq, false_implies, implies_true, and_true] <;> omega) | (repeat' (first | exact True.intro | rfl | refine And.intro ?_ ?_ | (rw [sv_ne _ _ _ _ (by omega)]) | (rw [up_cell _ _ _ (by omega)]) | (rw [fil_cell _ _ _ _ _ (by omega)]) | (rw [hM _ (by omega)]) | (rw [hm _ (by omega)])))) | (have t_ := Rel.lev (h); exact Or.inr t_)) (by first | (refine Or.inl (And.intro ?_ (And.intro ?_ ?_)) <;> first | (simp only [List.mem_cons, List.not_mem_nil, or_false, forall_eq_or_imp, forall_eq, false_implies, implies_true, and_true] <;> omega) | (repeat' (first | exact True.intro | rfl | refine And.intro ?_ ?_ | (rw [sv_ne _ _ _ _ (by omega)]) | (rw [up_cell _ _ _ (by omega)]) | (rw [fil_cell _ _ _ _ _ (by omega)]) | (rw [hM _ (by omega)]) | (rw [hm _ (by omega)])))) | (have t_ := Rel.mem (h); exact Or.inr t_)) (by first | (refine Or.inl (And.intro ?_ (And.intro ?_ ?_)) <;> first | (simp only [List.mem_cons, List.not_mem_nil, or_false, forall_eq_or_imp, forall_eq, false_implies, implies_true, and_true] <;> omega) | (repeat' (first | exact True.intro | rfl | refine And.intro ?_ ?_ | (rw [sv_ne _ _ _ _ (by omega)]) | (rw [up_cell _ _ _ (by omega)]) | (rw [fil_cell _ _ _ _ _ (by omega)]) | (rw [hM _ (by omega)]) | (rw [hm _ (by omega)])))) | (have t_ := Rel.sched (h); exact Or.inr t_)) (by first | (refine Or.inl (And.intro ?_ (And.intro ?_ ?_)) <;> first | (simp only [List.mem_cons, List.not_mem_nil, or_false, forall_eq_or_imp, forall_eq, false_implies, implies_true, and_true] <;> omega) | (repeat' (first | exact True.intro | rfl | refine And.intro ?_ ?_ | (rw [sv_ne _ _ _ _ (by omega)]) | (rw [up_cell _ _ _ (by omega)]) | (rw [fil_cell _ _ _ _ _ (by omega)]) | (rw [hM _ (by omega)]) | (rw [hm _ (by omega)])))) | (have t_ := Rel.done (h); exact Or.inr t_)) (by first | (refine Or.inl (And.intro ?_ (And.intro ?_ ?_)) <;> first | (simp only [List.mem_cons, List.not_mem_nil, or_false, forall_eq_or_imp, forall_eq, false_implies, implies_true, and_true] <;> omega) | (repeat' (first | exact True.intro | rfl | refine And.intro ?_ ?_ | (rw [sv_ne _ _ _ _ (by omega)]) | (rw [up_cell _ _ _ (by omega)]) | (rw [fil_cell _ _ _ _ _ (by omega)]) | (rw [hM _ (by omega)]) | (rw [hm _ (by omega)])))) | (have t_ := Rel.levels (h); exact Or.inr t_)) (by first | (refine Or.inl (And.intro ?_ (And.intro ?_ ?_)) <;> first | (simp only [List.mem_cons, List.not_mem_nil, or_false, forall_eq_or_imp, forall_eq, false_implies, implies_true, and_true] <;> omega) | (repeat' (first | exact True.intro | rfl | refine And.intro ?_ ?_ | (rw [sv_ne _ _ _ _ (by omega)]) | (rw [up_cell _ _ _ (by omega)]) | (rw [fil_cell _ _ _ _ _ (by omega)]) | (rw [hM _ (by omega)]) | (rw [hm _ (by omega)])))) | (have t_ := Rel.places (h); exact Or.inr t_)) (by first | (refine Or.inl (And.intro ?_ (And.intro ?_ ?_)) <;> first | (simp only [List.mem_cons, List.not_mem_nil, or_false, forall_eq_or_imp, forall_eq, false_implies, implies_true, and_true] <;> omega) | (repeat' (first | exact True.intro | rfl | refine And.intro ?_ ?_ | (rw [sv_ne _ _ _ _ (by omega)]) | (rw [up_cell _ _ _ (by omega)]) | (rw [fil_cell _ _ _ _ _ (by omega)]) | (rw [hM _ (by omega)]) | (rw [hm _ (by omega)])))) | (have t_ := Rel.asked (h); exact Or.inr t_)) (by first | (refine Or.inl (And.intro ?_ (And.intro ?_ ?_)) <;> first | (simp only [List.mem_cons, List.not_mem_nil, or_false, forall_eq_or_imp, forall_eq, false_implies, implies_true, and_true] <;> omega) | (repeat' (first | exact True.intro | rfl | refine And.intro ?_ ?_ | (rw [sv_ne _ _ _ _ (by omega)]) | (rw [up_cell _ _ _ (by omega)]) | (rw [fil_cell _ _ _ _ _ (by omega)]) | (rw [hM _ (by omega)]) | (rw [hm _ (by omega)])))) | (have t_ := Rel.worder (h); exact Or.inr t_)) (by first | (refine Or.inl (And.intro ?_ (And.intro ?_ ?_)) <;> first | (simp only [List.mem_cons, List.not_mem_nil, or_false, forall_eq_or_imp, forall_eq, false_implies, implies_true, and_true] <;> omega) | (repeat' (first | exact True.intro | rfl | refine And.intro ?_ ?_ | (rw [sv_ne _ _ _ _ (by omega)]) | (rw [up_cell _ _ _ (by omega)]) | (rw [fil_cell _ _ _ _ _ (by omega)]) | (rw [hM _ (by omega)]) | (rw [hm _ (by omega)])))) | (have t_ := Rel.rorder (h); exact Or.inr t_)) (by first | (refine Or.inl (And.intro ?_ (And.intro ?_ ?_)) <;> first | (simp only [List.mem_cons, List.not_mem_nil, or_false, forall_eq_or_imp, forall_eq, false_implies, implies_true, and_true] <;> omega) | (repeat' (first | exact True.intro | rfl | refine And.intro ?_ ?_ | (rw [sv_ne _ _ _ _ (by omega)]) | (rw [up_cell _ _ _ (by omega)]) | (rw [fil_cell _ _ _ _ _ (by omega)]) | (rw [hM _ (by omega)]) | (rw [hm _ (by omega)])))) | (have t_ := Rel.ps (h); exact Or.inr t_)) (by first | (refine Or.inl (And.intro ?_ (And.intro ?_ ?_)) <;> first | (simp only [List.mem_cons, List.not_mem_nil, or_false, forall_eq_or_imp, forall_eq, false_implies, implies_true, and_true] <;> omega) | (repeat' (first | exact True.intro | rfl | refine And.intro ?_ ?_ | (rw [sv_ne _ _ _ _ (by omega)]) | (rw [up_cell _ _ _ (by omega)]) | (rw [fil_cell _ _ _ _ _ (by omega)]) | (rw [hM _ (by omega)]) | (rw [hm _ (by omega)])))) | (have t_ := Rel.app (h); exact Or.inr t_)) (by first | (refine Or.inl (And.intro ?_ (And.intro ?_ ?_)) <;> first | (simp only [List.mem_cons, List.not_mem_nil, or_false, forall_eq_or_imp, forall_eq, false_implies, implies_true, and_true] <;> omega) | (repeat' (first | exact True.intro | rfl | refine And.intro ?_ ?_ | (rw [sv_ne _ _ _ _ (by omega)]) | (rw [up_cell _ _ _ (by omega)]) | (rw [fil_cell _ _ _ _ _ (by omega)]) | (rw [hM _ (by omega)]) | (rw [hm _ (by omega)])))) | (have t_ := Rel.name (h); exact Or.inr t_)) (by first | (refine Or.inl (And.intro ?_ (And.intro ?_ ?_)) <;> first | (simp only [List.mem_cons, List.not_mem_nil, or_false, forall_eq_or_imp, forall_eq, false_implies, implies_true, and_true] <;> omega) | (repeat' (first | exact True.intro | rfl | refine And.intro ?_ ?_ | (rw [sv_ne _ _ _ _ (by omega)]) | (rw [up_cell _ _ _ (by omega)]) | (rw [fil_cell _ _ _ _ _ (by omega)]) | (rw [hM _ (by omega)]) | (rw [hm _ (by omega)])))) | (have t_ := Rel.number (h); exact Or.inr t_)) (by first | (refine Or.inl (And.intro ?_ (And.intro ?_ ?_)) <;> first | (simp only [List.mem_cons, List.not_mem_nil, or_false, forall_eq_or_imp, forall_eq, false_implies, implies_true, and_true] <;> omega) | (repeat' (first | exact True.intro | rfl | refine And.intro ?_ ?_ | (rw [sv_ne _ _ _ _ (by omega)]) | (rw [up_cell _ _ _ (by omega)]) | (rw [fil_cell _ _ _ _ _ (by omega)]) | (rw [hM _ (by omega)]) | (rw [hm _ (by omega)])))) | (have t_ := Rel.bits (h); exact Or.inr t_)) (by first | (refine Or.inl (And.intro ?_ (And.intro ?_ ?_)) <;> first | (simp only [List.mem_cons, List.not_mem_nil, or_false, forall_eq_or_imp, forall_eq, false_implies, implies_true, and_true] <;> omega) | (repeat' (first | exact True.intro | rfl | refine And.intro ?_ ?_ | (rw [sv_ne _ _ _ _ (by omega)]) | (rw [up_cell _ _ _ (by omega)]) | (rw [fil_cell _ _ _ _ _ (by omega)]) | (rw [hM _ (by omega)]) | (rw [hm _ (by omega)])))) | (have t_ := Rel.regs (h); exact Or.inr t_)) (by first | (refine Or.inl (And.intro ?_ (And.intro ?_ ?_)) <;> first | (simp only [List.mem_cons, List.not_mem_nil, or_false, forall_eq_or_imp, forall_eq, false_implies, implies_true, and_true] <;> omega) | (repeat' (first | exact True.intro | rfl | refine And.intro ?_ ?_ | (rw [sv_ne _ _ _ _ (by omega)]) | (rw [up_cell _ _ _ (by omega)]) | (rw [fil_cell _ _ _ _ _ (by omega)]) | (rw [hM _ (by omega)]) | (rw [hm _ (by omega)])))) | (have t_ := Rel.rsv (h); exact Or.inr t_)) (by first | (refine Or.inl (And.intro ?_ (And.intro ?_ ?_)) <;> first | (simp only [List.mem_cons, List.not_mem_nil, or_false, forall_eq_or_imp, forall_eq, false_implies, implies_true, and_true] <;> omega) | (repeat' (first | exact True.intro | rfl | refine And.intro ?_ ?_ | (rw [sv_ne _ _ _ _ (by omega)]) | (rw [up_cell _ _ _ (by omega)]) | (rw [fil_cell _ _ _ _ _ (by omega)]) | (rw [hM _ (by omega)]) | (rw [hm _ (by omega)])))) | (have t_ := Rel.queue (h); exact Or.inr t_)) (by first | (refine Or.inl (And.intro ?_ (And.intro ?_ ?_)) <;> first | (simp only [List.mem_cons, List.not_mem_nil, or_false, forall_eq_or_imp, forall_eq, false_implies, implies_true, and_true] <;> omega) | (repeat' (first | exact True.intro | rfl | refine And.intro ?_ ?_ | (rw [sv_ne _ _ _ _ (by omega)]) | (rw [up_cell _ _ _ (by omega)]) | (rw [fil_cell _ _ _ _ _ (by omega)]) | (rw [hM _ (by omega)]) | (rw [hm _ (by omega)])))) | (have t_ := Rel.ctlw (h); exact Or.inr t_)) (by first | (refine Or.inl (And.intro ?_ (And.intro ?_ ?_)) <;> first | (simp only [List.mem_cons, List.not_mem_nil, or_false, forall_eq_or_imp, forall_eq, false_implies, implies_true, and_true] <;> omega) | (repeat' (first | exact True.intro | rfl | refine And.intro ?_ ?_ | (rw [sv_ne _ _ _ _ (by omega)]) | (rw [up_cell _ _ _ (by omega)]) | (rw [fil_cell _ _ _ _ _ (by omega)]) | (rw [hM _ (by omega)]) | (rw [hm _ (by omega)])))) | (have t_ := Rel.wt (h); exact Or.inr t_)))
theorem r_257 {kc : it_Kc} {B : Nat} {m M : it_Me} (hI : Inv B m) (e11 : M 69 11 = m 5 11) {p k n : Int32} {Φ : it_Me → Prop} (hp : Φ (ntM M p k n)) : w_257 kc p k n M Φ := by
  have h0 := hI.ev
  have ht := thi (m 5 11)
  have hu := u32 (m 5 11)
  have hu2 : (m 5 11).toInt % 4294967296 = (m 5 11).toInt := by omega
  rw [hu2] at hu
  obtain ⟨a, ha, hr⟩ := lrem_I (x := Int32.toInt64 (m 5 11) &&& 4294967295) (d := 200) (by rw [hu]; omega) (by omega) (by omega)
  rw [hu] at ha
  have hr' : it_lrem (Int32.toInt64 (m 5 11) &&& 4294967295) 200 = lN a := hr
  have ha2 : a < 200 := by omega
  have e4 : 4 * nI a = nI (4 * a) := by rw [show (4 : Int32) = nI 4 from rfl]; exact Int32.toInt_inj.mp (by rw [Int32.toInt_mul, nI_toInt (by omega), nI_toInt (by omega), nI_toInt (by omega)]; show Int.bmod (4 * (a : Int)) (2 ^ 32) = _; rw [bmI' (by omega) (by omega)]; omega)
  have ea : ((M 69 11).toInt % 200).toNat = a := by rw [e11]; omega
  unfold w_257
  unfold ntM at hp
  rw [ea] at hp
  rw [cl_11, e11, hr', lN_i, e4, show nI (4 * a) + 1 = nI (4 * a + 1) from nI_1 _, show nI (4 * a) + 2 = nI (4 * a + 2) from nI_add _ 2, show nI (4 * a) + 3 = nI (4 * a + 3) from nI_add _ 3]
  rw [nI_clamp (n := 4 * a) (by omega), nI_clamp (n := 4 * a + 1) (by omega), nI_clamp (n := 4 * a + 2) (by omega), nI_clamp (n := 4 * a + 3) (by omega)]
  have vv : ∀ x, x < 800 → vp_in (nI x) 800 := fun x hx => by rw [vp_in_iff, nI_toInt (by omega)]; omega
  refine ⟨v12_11, by decide, vv _ (by omega), vv _ (by omega), vv _ (by omega), vv _ (by omega), v12_11, v12_11, ?_⟩
  simp (disch := omega) only [sv_n1]
  exact hp
def cof (k : Nat) : Nat := ([5, 6, 7, 8, 0, 9] : List Nat).getD k 0
/-- the class's note, with the count of its kind -/
def nt (m : it_Me) (p : Int32) (k : Nat) (n : Int32) : it_Me := if cof k = 0 then ntC m p (nI k) n else it_sv (ntC m p (nI k) n) 5 (cof k) (m 5 (cof k) + 1)
theorem c_69 {kc : it_Kc} (hk : KC kc) {B : Nat} {m : it_Me} (hI : Inv B m) {p n : Int32} {k : Nat} (hk6 : k < 6) {Φ : it_Me → Prop} (hp : Φ (nt m p k n)) : w_69 kc p (nI k) n m Φ := by
  have h0 := hI.ev
  have hx : 0 ≤ (m 4 3).toInt ∧ (m 4 3).toInt < 200 := by omega
  have ce : ∀ j : Nat, j < 4 → (m 4 3 * 4 + nI j).toInt = 4 * (m 4 3).toInt + j := fun j hj => by
    have := nI_toInt (n := j) (by omega)
    clear h0 hp
    ((try simp only [Int32.lt_iff_toInt_lt, Int32.le_iff_toInt_le, ← Int32.toInt_inj, Int32.reduceToInt, clampI, vp_in_iff, ne_eq, not_and, not_or, Int32.not_lt, Int32.not_le] at *) <;> (try simp (disch := omega) only [Int32.toInt_add, Int32.toInt_sub, Int32.toInt_mul, Int32.toInt_neg, Int32.reduceToInt, bmI, bmI', and1, and3, and7, and31, and127, and255, and65535, shr2, nI_toInt] at *) <;> (try simp only [bm32, bm32'] at *) <;> omega)
  have c0 : (m 4 3 * 4).toInt = 4 * (m 4 3).toInt := by clear h0 hp ce; ((try simp only [Int32.lt_iff_toInt_lt, Int32.le_iff_toInt_le, ← Int32.toInt_inj, Int32.reduceToInt, clampI, vp_in_iff, ne_eq, not_and, not_or, Int32.not_lt, Int32.not_le] at *) <;> (try simp (disch := omega) only [Int32.toInt_add, Int32.toInt_sub, Int32.toInt_mul, Int32.toInt_neg, Int32.reduceToInt, bmI, bmI', and1, and3, and7, and31, and127, and255, and65535, shr2, nI_toInt] at *) <;> (try simp only [bm32, bm32'] at *) <;> omega)
  have d0 : Int32.toNatClampNeg (m 4 3 * 4) = 4 * Int32.toNatClampNeg (m 4 3) := by rw [clampI, clampI, c0]; omega
  have d1 : Int32.toNatClampNeg (m 4 3 * 4 + 1) = 4 * Int32.toNatClampNeg (m 4 3) + 1 := by rw [clampI, clampI, show (1 : Int32) = nI 1 from rfl, ce 1 (by omega)]; omega
  have d2 : Int32.toNatClampNeg (m 4 3 * 4 + 2) = 4 * Int32.toNatClampNeg (m 4 3) + 2 := by rw [clampI, clampI, show (2 : Int32) = nI 2 from rfl, ce 2 (by omega)]; omega
  have d3 : Int32.toNatClampNeg (m 4 3 * 4 + 3) = 4 * Int32.toNatClampNeg (m 4 3) + 3 := by rw [clampI, clampI, show (3 : Int32) = nI 3 from rfl, ce 3 (by omega)]; omega
  have v0 : vp_in (m 4 3 * 4) 800 := by rw [vp_in_iff, c0]; omega
  have v1 : vp_in (m 4 3 * 4 + 1) 800 := by rw [vp_in_iff, show (1 : Int32) = nI 1 from rfl, ce 1 (by omega)]; omega
  have v2 : vp_in (m 4 3 * 4 + 2) 800 := by rw [vp_in_iff, show (2 : Int32) = nI 2 from rfl, ce 2 (by omega)]; omega
  have v3 : vp_in (m 4 3 * 4 + 3) 800 := by rw [vp_in_iff, show (3 : Int32) = nI 3 from rfl, ce 3 (by omega)]; omega
  have vk : vp_in (nI k) 6 := by rw [vp_in_iff, nI_toInt (by omega)]; omega
  have kf : ([5, 6, 7, 8, 0, 9] : List Int32).getD k 0 = nI (cof k) ∧ cof k < 12 ∧ cof k ≠ 11 := (by decide +kernel : ∀ k, k < 6 → ([5, 6, 7, 8, 0, 9] : List Int32).getD k 0 = nI (cof k) ∧ cof k < 12 ∧ cof k ≠ 11) k hk6
  have fin : w_69_98 kc Φ (nI k) (if 200 ≤ m 4 4 then 200 else m 4 4 + 1) (it_sv (it_sv (it_sv (it_sv (it_sv m 6 (4 * Int32.toNatClampNeg (m 4 3)) (m 4 0)) 6 (4 * Int32.toNatClampNeg (m 4 3) + 1) p) 6 (4 * Int32.toNatClampNeg (m 4 3) + 2) (nI k)) 6 (4 * Int32.toNatClampNeg (m 4 3) + 3) n) 4 3 (if 200 ≤ m 4 3 + 1 then 0 else m 4 3 + 1)) := by
    unfold w_69_98 w_69_134
    rw [hk.k0, nI_clamp (n := k) (by omega), cl_11]
    simp only [kf.1]
    rw [nI_clamp (n := cof k) (by omega)]
    unfold nt ntC at hp
    refine ⟨v12_11, v12_11, vk, fun q => ?_, fun q => ⟨vk, ?_, ?_, ?_⟩⟩
    · rw [if_pos (by rw [show (0 : Int32) = nI 0 from rfl, nI_eq (by omega) (by omega)] at q; exact q)] at hp
      simp (disch := omega) only [sv_n1]
      exact hp
    · rw [vp_in_iff, nI_toInt (by omega)]; omega
    · rw [vp_in_iff, nI_toInt (by omega)]; omega
    · rw [if_neg (by intro q2; apply q; rw [q2]; rfl)] at hp
      simp (disch := omega) only [sv_n1, sv_n2]
      exact hp
  unfold w_69 w_69_72
  rw [d0, d1, d2, d3]
  simp (disch := omega) only [sv_n1, sv_n2, sv_same]
  refine ⟨v0, v1, v2, v3, fun q => ⟨fun q2 => ?_, fun q2 => ?_⟩, fun q => ⟨fun q2 => ?_, fun q2 => ?_⟩⟩
  · rw [if_pos q2, if_pos q] at fin; exact fin
  · rw [if_neg q2, if_pos q] at fin; exact fin
  · rw [if_pos q2, if_neg q] at fin; exact fin
  · rw [if_neg q2, if_neg q] at fin; exact fin
theorem Inv.cnt5 {B : Nat} {m : it_Me} (hI : Inv B m) {c : Nat} (h3 : c ≠ 3) (h11 : c ≠ 11) (v : Int32) : Inv B (it_sv m 5 c v) :=
  (Inv.upd (hI) (Nat.le_refl B) ([5]) (by intro k hk; simp only [List.mem_cons, List.not_mem_nil, or_false, not_or, not_false_eq_true] at hk; first | rfl | (repeat (first | rw [sv_cell _ _ _ _ (by omega)] | rw [up_cell _ _ _ (by omega)] | rw [fil_cell _ _ _ _ _ (by omega)]))) (by first | (refine Or.inl (And.intro ?_ ?_) <;> first | (simp only [List.mem_cons, List.not_mem_nil, or_false, forall_eq_or_imp, forall_eq, false_implies, implies_true, and_true] <;> omega) | (repeat' (first | exact True.intro | rfl | refine And.intro ?_ ?_ | (rw [sv_ne _ _ _ _ (by omega)]) | (rw [up_cell _ _ _ (by omega)]) | (rw [fil_cell _ _ _ _ _ (by omega)]) | (rw [hM _ (by omega)]) | (rw [hm _ (by omega)])))) | (have t_ := Inv.tl (hI); exact Or.inr t_)) (by first | (refine Or.inl (And.intro ?_ ?_) <;> first | (simp only [List.mem_cons, List.not_mem_nil, or_false, forall_eq_or_imp, forall_eq, false_implies, implies_true, and_true] <;> omega) | (repeat' (first | exact True.intro | rfl | refine And.intro ?_ ?_ | (rw [sv_ne _ _ _ _ (by omega)]) | (rw [up_cell _ _ _ (by omega)]) | (rw [fil_cell _ _ _ _ _ (by omega)]) | (rw [hM _ (by omega)]) | (rw [hm _ (by omega)])))) | (have t_ := Inv.tp (hI); exact Or.inr t_)) (by first | (refine Or.inl (And.intro ?_ ?_) <;> first | (simp only [List.mem_cons, List.not_mem_nil, or_false, forall_eq_or_imp, forall_eq, false_implies, implies_true, and_true] <;> omega) | (repeat' (first | exact True.intro | rfl | refine And.intro ?_ ?_ | (rw [sv_ne _ _ _ _ (by omega)]) | (rw [up_cell _ _ _ (by omega)]) | (rw [fil_cell _ _ _ _ _ (by omega)]) | (rw [hM _ (by omega)]) | (rw [hm _ (by omega)])))) | (have t_ := Inv.on (hI); exact Or.inr t_)) (by first | (refine Or.inl (And.intro ?_ ?_) <;> first | (simp only [List.mem_cons, List.not_mem_nil, or_false, forall_eq_or_imp, forall_eq, false_implies, implies_true, and_true] <;> omega) | (repeat' (first | exact True.intro | rfl | refine And.intro ?_ ?_ | (rw [sv_ne _ _ _ _ (by omega)]) | (rw [up_cell _ _ _ (by omega)]) | (rw [fil_cell _ _ _ _ _ (by omega)]) | (rw [hM _ (by omega)]) | (rw [hm _ (by omega)])))) | (have t_ := Inv.off (hI); exact Or.inr t_)) (by first | (refine Or.inl (And.intro ?_ ?_) <;> first | (simp only [List.mem_cons, List.not_mem_nil, or_false, forall_eq_or_imp, forall_eq, false_implies, implies_true, and_true] <;> omega) | (repeat' (first | exact True.intro | rfl | refine And.intro ?_ ?_ | (rw [sv_ne _ _ _ _ (by omega)]) | (rw [up_cell _ _ _ (by omega)]) | (rw [fil_cell _ _ _ _ _ (by omega)]) | (rw [hM _ (by omega)]) | (rw [hm _ (by omega)])))) | (have t_ := Inv.cn (hI); exact Or.inr t_)) (Or.inr (by simp (disch := omega) only [sv_n1, sv_n2]; exact hI.ev)) (Or.inr (by simp (disch := omega) only [sv_n1, sv_n2]; exact hI.out)) (by first | (refine Or.inl (And.intro ?_ ?_) <;> first | (simp only [List.mem_cons, List.not_mem_nil, or_false, forall_eq_or_imp, forall_eq, false_implies, implies_true, and_true] <;> omega) | (repeat' (first | exact True.intro | rfl | refine And.intro ?_ ?_ | (rw [sv_ne _ _ _ _ (by omega)]) | (rw [up_cell _ _ _ (by omega)]) | (rw [fil_cell _ _ _ _ _ (by omega)]) | (rw [hM _ (by omega)]) | (rw [hm _ (by omega)])))) | (have t_ := Inv.num (hI); exact Or.inr t_)) (by first | (refine Or.inl (And.intro ?_ ?_) <;> first | (simp only [List.mem_cons, List.not_mem_nil, or_false, forall_eq_or_imp, forall_eq, false_implies, implies_true, and_true] <;> omega) | (repeat' (first | exact True.intro | rfl | refine And.intro ?_ ?_ | (rw [sv_ne _ _ _ _ (by omega)]) | (rw [up_cell _ _ _ (by omega)]) | (rw [fil_cell _ _ _ _ _ (by omega)]) | (rw [hM _ (by omega)]) | (rw [hm _ (by omega)])))) | (have t_ := Inv.crc (hI); exact Or.inr t_)) (by first | (refine Or.inl (And.intro ?_ ?_) <;> first | (simp only [List.mem_cons, List.not_mem_nil, or_false, forall_eq_or_imp, forall_eq, false_implies, implies_true, and_true] <;> omega) | (repeat' (first | exact True.intro | rfl | refine And.intro ?_ ?_ | (rw [sv_ne _ _ _ _ (by omega)]) | (rw [up_cell _ _ _ (by omega)]) | (rw [fil_cell _ _ _ _ _ (by omega)]) | (rw [hM _ (by omega)]) | (rw [hm _ (by omega)])))) | (have t_ := Inv.bk (hI); exact Or.inr t_)) (by first | (refine Or.inl (And.intro ?_ ?_) <;> first | (simp only [List.mem_cons, List.not_mem_nil, or_false, forall_eq_or_imp, forall_eq, false_implies, implies_true, and_true] <;> omega) | (repeat' (first | exact True.intro | rfl | refine And.intro ?_ ?_ | (rw [sv_ne _ _ _ _ (by omega)]) | (rw [up_cell _ _ _ (by omega)]) | (rw [fil_cell _ _ _ _ _ (by omega)]) | (rw [hM _ (by omega)]) | (rw [hm _ (by omega)])))) | (have t_ := Inv.bk1 (hI); exact Or.inr t_)) (by first | (refine Or.inl (And.intro ?_ ?_) <;> first | (simp only [List.mem_cons, List.not_mem_nil, or_false, forall_eq_or_imp, forall_eq, false_implies, implies_true, and_true] <;> omega) | (repeat' (first | exact True.intro | rfl | refine And.intro ?_ ?_ | (rw [sv_ne _ _ _ _ (by omega)]) | (rw [up_cell _ _ _ (by omega)]) | (rw [fil_cell _ _ _ _ _ (by omega)]) | (rw [hM _ (by omega)]) | (rw [hm _ (by omega)])))) | (have t_ := Inv.pw (hI); exact Or.inr t_)) (by first | (refine Or.inl (And.intro ?_ ?_) <;> first | (simp only [List.mem_cons, List.not_mem_nil, or_false, forall_eq_or_imp, forall_eq, false_implies, implies_true, and_true] <;> omega) | (repeat' (first | exact True.intro | rfl | refine And.intro ?_ ?_ | (rw [sv_ne _ _ _ _ (by omega)]) | (rw [up_cell _ _ _ (by omega)]) | (rw [fil_cell _ _ _ _ _ (by omega)]) | (rw [hM _ (by omega)]) | (rw [hm _ (by omega)])))) | (have t_ := Inv.kd (hI); exact Or.inr t_)) (by first | (refine Or.inl (And.intro ?_ ?_) <;> first | (simp only [List.mem_cons, List.not_mem_nil, or_false, forall_eq_or_imp, forall_eq, false_implies, implies_true, and_true] <;> omega) | (repeat' (first | exact True.intro | rfl | refine And.intro ?_ ?_ | (rw [sv_ne _ _ _ _ (by omega)]) | (rw [up_cell _ _ _ (by omega)]) | (rw [fil_cell _ _ _ _ _ (by omega)]) | (rw [hM _ (by omega)]) | (rw [hm _ (by omega)])))) | (have t_ := Inv.tn (hI); exact Or.inr t_)) (by first | (refine Or.inl (And.intro ?_ ?_) <;> first | (simp only [List.mem_cons, List.not_mem_nil, or_false, forall_eq_or_imp, forall_eq, false_implies, implies_true, and_true] <;> omega) | (repeat' (first | exact True.intro | rfl | refine And.intro ?_ ?_ | (rw [sv_ne _ _ _ _ (by omega)]) | (rw [up_cell _ _ _ (by omega)]) | (rw [fil_cell _ _ _ _ _ (by omega)]) | (rw [hM _ (by omega)]) | (rw [hm _ (by omega)])))) | (have t_ := Inv.ask (hI); exact Or.inr t_)) (by first | (refine Or.inl (And.intro ?_ ?_) <;> first | (simp only [List.mem_cons, List.not_mem_nil, or_false, forall_eq_or_imp, forall_eq, false_implies, implies_true, and_true] <;> omega) | (repeat' (first | exact True.intro | rfl | refine And.intro ?_ ?_ | (rw [sv_ne _ _ _ _ (by omega)]) | (rw [up_cell _ _ _ (by omega)]) | (rw [fil_cell _ _ _ _ _ (by omega)]) | (rw [hM _ (by omega)]) | (rw [hm _ (by omega)])))) | (have t_ := Inv.askW (hI); exact Or.inr t_)) (by first | (refine Or.inl (And.intro ?_ ?_) <;> first | (simp only [List.mem_cons, List.not_mem_nil, or_false, forall_eq_or_imp, forall_eq, false_implies, implies_true, and_true] <;> omega) | (repeat' (first | exact True.intro | rfl | refine And.intro ?_ ?_ | (rw [sv_ne _ _ _ _ (by omega)]) | (rw [up_cell _ _ _ (by omega)]) | (rw [fil_cell _ _ _ _ _ (by omega)]) | (rw [hM _ (by omega)]) | (rw [hm _ (by omega)])))) | (have t_ := Inv.askR (hI); exact Or.inr t_)) (by first | (refine Or.inl (And.intro ?_ ?_) <;> first | (simp only [List.mem_cons, List.not_mem_nil, or_false, forall_eq_or_imp, forall_eq, false_implies, implies_true, and_true] <;> omega) | (repeat' (first | exact True.intro | rfl | refine And.intro ?_ ?_ | (rw [sv_ne _ _ _ _ (by omega)]) | (rw [up_cell _ _ _ (by omega)]) | (rw [fil_cell _ _ _ _ _ (by omega)]) | (rw [hM _ (by omega)]) | (rw [hm _ (by omega)])))) | (have t_ := Inv.lv0 (hI); exact Or.inr t_)) (by first | (refine Or.inl (And.intro ?_ ?_) <;> first | (simp only [List.mem_cons, List.not_mem_nil, or_false, forall_eq_or_imp, forall_eq, false_implies, implies_true, and_true] <;> omega) | (repeat' (first | exact True.intro | rfl | refine And.intro ?_ ?_ | (rw [sv_ne _ _ _ _ (by omega)]) | (rw [up_cell _ _ _ (by omega)]) | (rw [fil_cell _ _ _ _ _ (by omega)]) | (rw [hM _ (by omega)]) | (rw [hm _ (by omega)])))) | (have t_ := Inv.lv2 (hI); exact Or.inr t_)) (by first | (refine Or.inl (And.intro ?_ ?_) <;> first | (simp only [List.mem_cons, List.not_mem_nil, or_false, forall_eq_or_imp, forall_eq, false_implies, implies_true, and_true] <;> omega) | (repeat' (first | exact True.intro | rfl | refine And.intro ?_ ?_ | (rw [sv_ne _ _ _ _ (by omega)]) | (rw [up_cell _ _ _ (by omega)]) | (rw [fil_cell _ _ _ _ _ (by omega)]) | (rw [hM _ (by omega)]) | (rw [hm _ (by omega)])))) | (have t_ := Inv.pl (hI); exact Or.inr t_)) (by first | (refine Or.inl (And.intro ?_ ?_) <;> first | (simp only [List.mem_cons, List.not_mem_nil, or_false, forall_eq_or_imp, forall_eq, false_implies, implies_true, and_true] <;> omega) | (repeat' (first | exact True.intro | rfl | refine And.intro ?_ ?_ | (rw [sv_ne _ _ _ _ (by omega)]) | (rw [up_cell _ _ _ (by omega)]) | (rw [fil_cell _ _ _ _ _ (by omega)]) | (rw [hM _ (by omega)]) | (rw [hm _ (by omega)])))) | (have t_ := Inv.pi (hI); exact Or.inr t_)) (by first | (refine Or.inl (And.intro ?_ ?_) <;> first | (simp only [List.mem_cons, List.not_mem_nil, or_false, forall_eq_or_imp, forall_eq, false_implies, implies_true, and_true] <;> omega) | (repeat' (first | exact True.intro | rfl | refine And.intro ?_ ?_ | (rw [sv_ne _ _ _ _ (by omega)]) | (rw [up_cell _ _ _ (by omega)]) | (rw [fil_cell _ _ _ _ _ (by omega)]) | (rw [hM _ (by omega)]) | (rw [hm _ (by omega)])))) | (have t_ := Inv.dis (hI); exact Or.inr t_)))
theorem nt_c (m : it_Me) (p : Int32) (k : Nat) (n : Int32) {x : Nat} (h : x ≠ 4 ∧ x ≠ 5 ∧ x ≠ 6) : nt m p k n x = m x := by
  unfold nt
  split
  · exact ntC_c _ _ _ _ h
  · rw [sv_cell _ _ _ _ (by omega), ntC_c _ _ _ _ h]
theorem nt_40 (m : it_Me) (p : Int32) (k : Nat) (n : Int32) : nt m p k n 4 0 = m 4 0 := by
  unfold nt
  split
  · exact ntC_40 _ _ _ _
  · rw [sv_n1 _ _ _ _ _ (by omega), ntC_40]
theorem Inv.note {B B' : Nat} {m : it_Me} (hI : Inv B m) (hB : B < 2147483000) (hB' : B + 1 ≤ B') (p : Int32) {k : Nat} (hk : k < 6) (n : Int32) : Inv B' (nt m p k n) := by
  have kf : cof k ≠ 11 ∧ cof k ≠ 3 := (by decide +kernel : ∀ k, k < 6 → cof k ≠ 11 ∧ cof k ≠ 3) k hk
  unfold nt
  split
  · exact nt_I hI hB hB' _ _ _
  · exact (nt_I hI hB hB' _ _ _).cnt5 kf.2 kf.1 _
/-- counted first, then noted, as the reference does it -/
theorem Rel.note {B : Nat} {m M : it_Me} (hI : Inv B m) (h : Rel m M) (p : Int32) {k : Nat} (hk : k < 6) (h4 : k ≠ 4) (n : Int32) : Rel (nt m p k n) (ntM (it_sv M 69 (cof k) (M 69 (cof k) + 1)) p (nI k) n) := by
  have kf : k = 4 ∨ cof k ≠ 0 ∧ cof k ≠ 11 ∧ cof k < 12 := (by decide +kernel : ∀ k, k < 6 → k = 4 ∨ cof k ≠ 0 ∧ cof k ≠ 11 ∧ cof k < 12) k hk
  rcases kf with e | ⟨k0, k11, k12⟩
  · exact absurd e h4
  · unfold nt
    rw [if_neg k0, ntM_cn _ _ _ _ k11, h.counts _ k12]
    exact (nt_R hI h p (nI k) n).cn (by unfold cnt; rw [ntC_c _ _ _ _ (by omega)]; exact cnt_le hI) _ _
theorem Rel.note4 {B : Nat} {m M : it_Me} (hI : Inv B m) (h : Rel m M) (p n : Int32) : Rel (nt m p 4 n) (ntM M p 4 n) := by
  unfold nt
  rw [if_pos (show cof 4 = 0 from rfl)]
  exact nt_R hI h p (nI 4) n
