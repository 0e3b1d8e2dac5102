/-! The scheduler by levels: whose turn is next. -/
def n2C (m : it_Me) (b : Nat) : it_Me := it_sv (bt1 m b) 56 b (m 56 b + 1)
theorem nx2 {kc : it_Kc} {B : Nat} {m : it_Me} (hI : Inv B m) (ho : m 0 10 = 1) (h2 : m 54 2 = 2) (hx : ∃ i, i < cnt m ∧ cr m i) : ∃ b, b < cnt m ∧ cr m b ∧ (∀ Φ : Option Nat → it_Me → Prop, Φ (some (14 + 5 * b)) (n2C m b) → w_151_119 kc Φ m) ∧ ∀ M, Rel m M → ∀ Ψ : it_Me → Prop, Ψ (btM M b) → w_315_155 kc Ψ M := by
  have h8 := cnt_le hI
  have i0 : lpI m (cnt m) 0 (-1) := Or.inl ⟨rfl, fun i hi => absurd hi (Nat.not_lt_zero _)⟩
  obtain ⟨i, hi, ci⟩ := hx
  have fin := lpf_I (m := m) (n := cnt m) (cnt m) 0 (by omega) i0
  rcases fin with ⟨_, n⟩ | ⟨b, hb, eb, cb⟩
  · exact absurd ci (n i hi)
  refine ⟨b, hb, cb, fun Φ h => ?_, fun M hM Ψ h => ⟨cnt m + 1, r_315l hI hM ho h2 (K := fun v1 m => w_315_247 kc Ψ v1 m) (cnt m) 0 (-1) (by omega) i0 ?_⟩⟩
  · unfold w_151_119
    refine ⟨cnt m + 1, c_154l hI (cnt m) 0 (-1) (by omega) i0 ?_⟩
    unfold w_154_88
    have em : it_max (nI b) 0 = nI b := Int32.toInt_inj.mp (by rw [maxI, nI_toInt (by omega), show (0 : Int32).toInt = 0 from rfl]; omega)
    have b8 : b < 8 := by omega
    rw [eb, em]
    dsimp only
    rw [cI b8, hI.num b b8, cI b8]
    refine ⟨vI b8, vI b8, vI b8, ?_⟩
    unfold w_155
    rw [sv_n1 _ _ _ _ _ (by omega), hI.num b b8]
    unfold n2C bt1 at h
    rw [sv_comm _ 54 4 (nI b) (14 + 5 * b) 4 1 (by omega), sv_comm _ 54 4 (nI b) 56 b _ (by omega), sv_comm _ (14 + 5 * b) 4 1 56 b _ (by omega)] at h
    rw [sv_comm _ 54 4 (nI b) (14 + 5 * b) 4 1 (by omega)]
    exact h
  · show w_315_247 kc Ψ (lpf m (cnt m) 0 (-1)) M
    unfold w_315_247
    rw [eb]
    exact r_313 (by omega) h
theorem n2_I {B : Nat} {m : it_Me} (hI : Inv B m) (hB : B < 2147483000) (h2 : m 54 2 = 2) {b : Nat} (hb : b < cnt m) : Inv (B + 1) (n2C m b) := by
  have h8 := cnt_le hI
  have J := bt_I hI hb
  have e : bt1 m b 56 b = m 56 b := by rw [bt1_f _ _ (by omega)]
  have k := us_I J hB (by unfold bt1; rw [sv_n1 _ _ _ _ _ (by omega), sv_n2 _ _ _ _ (by omega)]; exact h2) b
  rw [e] at k
  exact k
theorem n2_R {B : Nat} {m M : it_Me} (hI : Inv B m) (h : Rel m M) (ho : m 0 10 = 1) (h2 : m 54 2 = 2) {b : Nat} (hb : b < cnt m) : Rel (n2C m b) (psM (btM M b) b) := by
  have h8 := cnt_le hI
  have e : bt1 m b 56 b = m 56 b := by rw [bt1_f _ _ (by omega)]
  have c : cnt (bt1 m b) = cnt m := cnt_cg (by rw [bt1_f _ _ (by omega)])
  have k := us_R (bt_R2 h h8 ho h2 hb) (by rw [c]; exact h8) (by rw [bt1_f _ _ (by omega)]; exact ho) (by unfold bt1; rw [sv_n1 _ _ _ _ _ (by omega), sv_n2 _ _ _ _ (by omega)]; exact h2) (t := b) (by rw [c]; exact hb)
  rw [e] at k
  exact k
theorem n2_f (m : it_Me) (b : Nat) {k : Nat} (h : k ≠ 54 ∧ k ≠ 56 ∧ k ≠ 14 + 5 * b) : n2C m b k = m k := by unfold n2C; rw [sv_cell _ _ _ _ (by omega), bt1_f _ _ (by omega)]
theorem n2_9 (m : it_Me) {b : Nat} (b8 : b < 8) : n2C m b (14 + 5 * b) 9 = m (14 + 5 * b) 9 := by unfold n2C; rw [sv_n1 _ _ _ _ _ (by omega), bt1_9 _ b8]
theorem btM70 (M : it_Me) (b : Nat) : btM M b 66 70 = nI b := by unfold btM; rw [sv_n1 _ _ _ _ _ (by omega), sv_n2 _ _ _ _ (by omega), sv_same]
theorem mxN_cg {M N : it_Me} (h : N 108 = M 108) : ∀ n, mxN N n = mxN M n
  | 0 => rfl
  | n + 1 => by rw [mxN, mxN, mxN_cg h n, h]
theorem ch2 {kc : it_Kc} {B : Nat} {m : it_Me} (hI : Inv B m) (hB : B + 2 < 2147483000) (ho : m 0 10 = 1) (h2 : m 54 2 = 2) : Cho kc (fun m Φ => w_151_31 kc Φ m) (B + 2) m := by
  have h8 := cnt_le hI
  obtain ⟨u, hu, et, eu⟩ := tnU hI ho
  by_cases none : ∀ i, i < cnt m → ¬ cr m i
  · refine Or.inl ⟨m, fun Φ h => ?_, hI.mono (by omega), FrC.rfl, Kw.rfl, fun M hM Ψ h => r_314z hI hM none (h M FrM.rfl hM)⟩
    unfold w_151_31
    refine c_152 hI ?_
    rw [bI_f (fun ⟨i, hi, c⟩ => none i hi c)]
    exact ⟨fun _ => h, fun q => absurd rfl q⟩
  have hx : ∃ i, i < cnt m ∧ cr m i := Classical.byContradiction (fun q => none (fun i hi c => q ⟨i, hi, c⟩))
  obtain ⟨a0, ha0, ca0⟩ := id hx
  have rl : ∀ {M : it_Me} {Ψ : Int32 → it_Me → Prop}, Rel m M → w_315 kc M (fun m3 => Ψ (m3 66 70) m3) → w_314 kc M Ψ := fun {M Ψ} hM h => r_314 hI hM (by
    have q1 := hM.sched ho
    unfold w_314_34 w_314_173
    refine ⟨fun q => absurd q (crC_s hI ha0 ca0), fun _ => ?_⟩
    rw [q1.1, h2]
    exact ⟨fun q => absurd q (by decide), fun _ => ⟨fun q => absurd q (by decide), fun _ => h⟩⟩)
  by_cases z : u = 0
  · have e4 : m 54 4 = -1 := Int32.toInt_inj.mp (by rw [et, z]; rfl)
    obtain ⟨b, hb, cb, n1, n3⟩ := nx2 (kc := kc) hI ho h2 hx
    refine Or.inr ⟨b, n2C m b, hb, by rw [n2_9 _ (by omega)]; exact cb.1, fun Φ h => ?_, (n2_I hI (by omega) h2 hb).mono (by omega), fun k hk => n2_f _ _ (by omega), ⟨n2_f _ _ (by omega), n2_f _ _ (by omega), n2_f _ _ (by omega), by rw [n2_f _ _ (by omega)]⟩, fun M hM Ψ h => rl hM ?_⟩
    · unfold w_151_31
      refine c_152 hI ?_
      rw [bI_t hx]
      refine ⟨fun q => absurd q (by decide), fun _ => c_72n (Or.inl (by omega)) ⟨fun _ => n1 Φ h, fun q hq => nomatch hq⟩⟩
    · have key : w_315_46 kc (fun m3 => Ψ (m3 66 70) m3) M := by
        unfold w_315_46
        refine ⟨fun _ => n3 M hM _ ?_, fun q => absurd (by rw [hM.turn]; exact e4) q⟩
        show Ψ (btM M b 66 70) (btM M b)
        rw [btM70]
        exact h _ FrM_btM (n2_R hI hM ho h2 hb)
      unfold w_315
      exact ⟨fun _ => key, fun q => absurd (by rw [hM.turn]; exact e4) q⟩
  · have ht : u - 1 < cnt m := by omega
    have t8 : u - 1 < 8 := by omega
    have e4 : m 54 4 = nI (u - 1) := Int32.toInt_inj.mp (by rw [et, nI_toInt (by omega)]; omega)
    have e41 : ¬ m 54 4 = -1 := fun q => by rw [q] at et; have : ((-1 : Int32)).toInt = -1 := rfl; omega
    have t0 : u - 1 + 1 = u := by omega
    generalize u - 1 = t at ht t8 e4 t0
    -- the class up to the end of the turn
    have cl : ∀ {Φ : Option Nat → it_Me → Prop}, (if fu m t then w_151_114 kc Φ 0 m else if cr m t then Φ (some (14 + 5 * t)) (it_sv m 56 t (m 56 t + 1)) else w_151_114 kc Φ 1 m) → w_151_31 kc Φ m := fun {Φ} h => by
      unfold w_151_31
      refine c_152 hI ?_
      rw [bI_t hx]
      refine ⟨fun q => absurd q (by decide), fun _ => c_72s hI (i := t) ht (by rw [et]; omega) ⟨fun q => (nomatch q), fun q hq => ?_⟩⟩
      obtain rfl : 14 + 5 * t = q := Option.some.inj hq
      rw [e4, cI t8]
      refine ⟨vI t8, vI t8, fun f => ?_, fun f => ?_⟩
      · rw [if_pos f] at h
        unfold w_151_87
        exact ⟨fun _ => h, fun q => absurd rfl q⟩
      · rw [if_neg f] at h
        unfold w_151_87
        refine ⟨fun q => absurd q (by decide), fun _ => c_130 ?_⟩
        rw [e4, cI t8]
        by_cases c : cr m t
        · rw [bI_t c]
          rw [if_pos c] at h
          exact ⟨fun q => absurd q (by decide), fun _ => ⟨vI t8, vI t8, h⟩⟩
        · rw [bI_f c]
          rw [if_neg c] at h
          exact ⟨fun _ => h, fun q => absurd rfl q⟩
    -- the reference
    have rr : ∀ {M : it_Me} {Ψ : it_Me → Prop}, Rel m M → (if fu m t then w_315_114 kc Ψ (upM M t) else if cr m t then Ψ M else w_315_114 kc Ψ M) → w_315 kc M Ψ := fun {M Ψ} hM h => by
      have lv := hM.levels ho h2 t ht
      have q1 := (hM.sched ho).2.1
      have k46 : (if fu m t then w_315_114 kc Ψ (upM M t) else w_315_114 kc Ψ M) → w_315_46 kc Ψ M := fun h => by
        unfold w_315_46
        have u70 : it_sv M 106 t (it_min 2 (m 55 t + 1)) 66 70 = M 66 70 := sv_n1 _ _ _ _ _ (by omega)
        rw [hM.turn, e4, cI t8, lv.1, lv.2, q1]
        refine ⟨fun q => absurd (e4.trans q) e41, fun _ => ⟨vI t8, vI t8, fun l => ?_, fun l => ⟨vI t8, vI t8, ?_⟩⟩⟩
        · rw [if_neg (fun f : fu m t => by rw [Int32.lt_iff_toInt_lt] at l; have f' := Int32.le_iff_toInt_le.mp f; omega)] at h
          exact h
        · have f : fu m t := by rw [Int32.lt_iff_toInt_lt] at l; show it_shl (m 54 3) (m 55 t) ≤ m 56 t; rw [Int32.le_iff_toInt_le]; omega
          rw [if_pos f] at h
          unfold upM at h
          rw [lv.1] at h
          rw [u70, hM.turn, e4, cI t8]
          exact ⟨vI t8, h⟩
      unfold w_315
      refine ⟨fun q => absurd (by rw [← hM.turn]; exact q) e41, fun _ => ?_⟩
      rw [hM.turn, e4]
      refine r_312 hM t8 ht ?_
      by_cases c : cr m t
      · rw [bI_t c, hM.turn, e4, cI t8, lv.1, lv.2, q1]
        refine ⟨fun q => absurd q (by decide), fun _ => ⟨vI t8, vI t8, fun f => k46 ?_, fun f => ?_⟩⟩
        · rw [if_pos f] at h ⊢; exact h
        · rw [if_neg f, if_pos c] at h; exact h
      · rw [bI_f c]
        refine ⟨fun _ => k46 ?_, fun q => absurd rfl q⟩
        by_cases f : fu m t
        · rw [if_pos f] at h ⊢; exact h
        · rw [if_neg f, if_neg c] at h; rw [if_neg f]; exact h
    have r114 : ∀ {M N : it_Me} {Ψ : it_Me → Prop}, Rel m M → N 66 = M 66 → w_315_155 kc Ψ (plM N (cnt m) t) → w_315_114 kc Ψ N := fun {M N Ψ} hM hN h => by
      unfold w_315_114
      refine ⟨cnt m + 1, r_315m hI hM (by rw [hN]) (K := fun v1 m => w_315_143 kc Ψ v1 m) ?_ (cnt m) 0 (by omega)⟩
      show w_315_143 kc Ψ (mxN N (cnt m)) N
      unfold w_315_143
      rw [hN, hM.turn, e4, cI t8]
      exact ⟨vI t8, h⟩
    -- after the end of the turn
    have aftE : ∀ (m1 : it_Me) (rM : it_Me → it_Me), Inv (B + 1) m1 → (∀ k, k ≠ 54 → k ≠ 55 → k ≠ 56 → k ≠ 57 → m1 k = m k) → m1 54 2 = 2 → (∀ Φ : Option Nat → it_Me → Prop, w_151_119 kc Φ m1 → w_151_31 kc Φ m) → (∀ M, Rel m M → Rel m1 (rM M) ∧ FrM M (rM M) ∧ ∀ Ψ : it_Me → Prop, w_315_155 kc Ψ (rM M) → w_315 kc M Ψ) → Cho kc (fun m Φ => w_151_31 kc Φ m) (B + 2) m := fun m1 rM I1 f1 k1 c1 r1 => by
      have c0 : cnt m1 = cnt m := cnt_cg (by rw [f1 9 (by omega) (by omega) (by omega) (by omega)])
      have ho1 : m1 0 10 = 1 := by rw [f1 0 (by omega) (by omega) (by omega) (by omega)]; exact ho
      have cr1 : ∀ i, i < cnt m → (cr m1 i ↔ cr m i) := fun i hi => by
        show (m1 (14 + 5 * i) 9 = 1 ∧ m1 (14 + 5 * i) 10 = 0) ↔ _
        rw [f1 (14 + 5 * i) (by omega) (by omega) (by omega) (by omega)]
      obtain ⟨b, hb, cb, n1, n3⟩ := nx2 (kc := kc) I1 ho1 k1 ⟨a0, by rw [c0]; exact ha0, (cr1 a0 ha0).2 ca0⟩
      have hb' : b < cnt m := by rw [← c0]; exact hb
      refine Or.inr ⟨b, n2C m1 b, hb', by rw [n2_9 _ (by omega)]; exact cb.1, fun Φ h => c1 Φ (n1 Φ h), n2_I I1 (by omega) k1 hb, fun k hk => by rw [n2_f _ _ (by omega)]; exact f1 k (by omega) (by omega) (by omega) (by omega), ⟨by rw [n2_f _ _ (by omega)]; exact f1 _ (by omega) (by omega) (by omega) (by omega), by rw [n2_f _ _ (by omega)]; exact f1 _ (by omega) (by omega) (by omega) (by omega), by rw [n2_f _ _ (by omega)]; exact f1 _ (by omega) (by omega) (by omega) (by omega), by rw [n2_f _ _ (by omega), f1 _ (by omega) (by omega) (by omega) (by omega)]⟩, fun M hM Ψ h => ?_⟩
      obtain ⟨q1, q2, q3⟩ := r1 M hM
      refine rl hM (q3 _ (n3 _ q1 _ ?_))
      show Ψ (btM (rM M) b 66 70) (btM (rM M) b)
      rw [btM70]
      exact h _ (q2.trans FrM_btM) (n2_R I1 q1 ho1 k1 hb)
    have pf : ∀ (m : it_Me) k, k ≠ 54 → k ≠ 57 → plC m t k = m k := fun m k h1 h2 => by unfold plC; rw [sv_cell _ _ _ _ h2, sv_cell _ _ _ _ h1]
    have uf : ∀ k, k ≠ 55 → k ≠ 56 → upC m t k = m k := fun k h1 h2 => by unfold upC; rw [sv_cell _ _ _ _ h2, sv_cell _ _ _ _ h1]
    have p2 : ∀ m : it_Me, plC m t 54 2 = m 54 2 := fun m => by unfold plC; rw [sv_n1 _ _ _ _ _ (by omega), sv_n2 _ _ _ _ (by omega)]
    have cu : cnt (upC m t) = cnt m := cnt_cg (by rw [uf _ (by omega) (by omega)])
    by_cases f : fu m t
    · refine aftE (plC (upC m t) t) (fun M => plM (upM M t) (cnt m) t) (pl_I (up_I hI h2 t) (by omega) (by rw [uf _ (by omega) (by omega)]; exact h2) (by rw [cu]; exact ht)) (fun k h54 h55 h56 h57 => by rw [pf _ _ h54 h57, uf _ h55 h56]) (by rw [p2, uf _ (by omega) (by omega)]; exact h2) (fun Φ h => cl ?_) (fun M hM => ⟨?_, fun k hk => by unfold plM upM; rw [sv_cell _ _ _ _ (by omega), sv_cell _ _ _ _ (by omega), sv_cell _ _ _ _ (by omega)], fun Ψ h => rr hM ?_⟩)
      · rw [if_pos f]
        unfold w_151_114
        exact c_153u t8 e4 h
      · have := pl_R (up_I hI h2 t) (by omega) (up_R hM h8 ho h2 ht) (by rw [uf _ (by omega) (by omega)]; exact ho) (by rw [uf _ (by omega) (by omega)]; exact h2) (t := t) (by rw [cu]; exact ht)
        rw [cu] at this
        exact this
      · rw [if_pos f]
        exact r114 hM (by unfold upM; rw [sv_cell _ _ _ _ (by omega), sv_cell _ _ _ _ (by omega)]) h
    · by_cases c : cr m t
      · refine Or.inr ⟨t, it_sv m 56 t (m 56 t + 1), ht, by rw [sv_n1 _ _ _ _ _ (by omega)]; exact c.1, fun Φ h => cl (by rw [if_neg f, if_pos c]; exact h), (us_I hI (by omega) h2 t).mono (by omega), fun k hk => sv_cell _ _ _ _ (by omega), ⟨sv_cell _ _ _ _ (by omega), sv_cell _ _ _ _ (by omega), sv_cell _ _ _ _ (by omega), by rw [sv_cell _ _ _ _ (by omega)]⟩, fun M hM Ψ h => rl hM (rr hM ?_)⟩
        rw [if_neg f, if_pos c]
        show Ψ (M 66 70) M
        rw [hM.turn, e4]
        exact h M FrM.rfl (us_R hM h8 ho h2 ht)
      · refine aftE (plC m t) (fun M => plM M (cnt m) t) (pl_I hI (by omega) h2 ht) (fun k h54 h55 h56 h57 => by rw [pf _ _ h54 h57]) (by rw [p2]; exact h2) (fun Φ h => cl ?_) (fun M hM => ⟨pl_R hI (by omega) hM ho h2 ht, fun k hk => by unfold plM; rw [sv_cell _ _ _ _ (by omega)], fun Ψ h => rr hM ?_⟩)
        · rw [if_neg f, if_neg c]
          unfold w_151_114
          exact c_153n t8 e4 h
        · rw [if_neg f, if_neg c]
          exact r114 hM rfl h
