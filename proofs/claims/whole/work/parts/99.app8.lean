/-! Apps in flash: credentials, who may load. -/
def mF (F : Nat → Int32) : it_Me := fun k w => if k = 2 then F w else 0
theorem mF2 (F : Nat → Int32) (w : Nat) : mF F 2 w = F w := rfl
theorem gbF {F : Nat → Int32} {m : it_Me} (h : FlC F m) {X : Nat} (hX : 65536 ≤ X ∧ X < 131072) : gb m (nI X) = gb (mF F) (nI X) := by
  rw [gb_in (inF hX), gb_in (inF hX), wiF hX, h _ (by omega), mF2]
theorem r218F {kc : it_Kc} {F : Nat → Int32} {N : it_Me} (h : FlR F N) {X : Nat} (hX : 65536 ≤ X ∧ X < 131072) {Φ : Int32 → it_Me → Prop} (hp : Φ (gb (mF F) (nI X)) N) : w_218 kc (nI X) N Φ := by
  have ha := inF hX
  unfold w_218
  refine ⟨by rw [vp_in_iff, nI_toInt (by omega)]; omega, ?_⟩
  rw [ad_eq ha, wiF hX, h _ (by omega) _ (bj_lt _), sb_by _ (bj_lt _)]
  rw [gb_in ha, wiF hX, mF2] at hp
  exact hp
theorem crcF {F : Nat → Int32} {m : it_Me} (h : FlC F m) {A : Nat} {n : Int32} (hA : 65536 ≤ A ∧ (A : Int) + n.toInt ≤ 131072) : crcR m (nI A) n = crcR (mF F) (nI A) n := by
  have lp : ∀ (r k : Nat) (c : Int32), k + r = n.toInt.toNat → crcV m (nI A) r k c = crcV (mF F) (nI A) r k c := by
    intro r
    induction r with
    | zero => intro k c _; rfl
    | succ r ih =>
      intro k c hr
      rw [crcV, crcV, show nI A + nI k = nI (A + k) from nI_add _ _, gbF h (by omega)]
      exact ih (k + 1) _ (by omega)
  unfold crcR
  rw [lp _ 0 _ (by omega)]
theorem r222F {kc : it_Kc} {F : Nat → Int32} {N : it_Me} (h : FlR F N) {A : Nat} {n : Int32} (hA : 65536 ≤ A ∧ (A : Int) + n.toInt ≤ 131072) {Φ : Int32 → it_Me → Prop} (hp : Φ (crcR (mF F) (nI A) n) N) : w_222 kc (nI A) n N Φ := by
  have lp : ∀ {K : Int32 → it_Me → Prop} (r k : Nat) (c : Int32), k + r = n.toInt.toNat → K (crcV (mF F) (nI A) r k c) N → w_222_5 kc Φ K (r + 1) (nI A) n c (nI k) N := by
    intro K r
    induction r with
    | zero =>
      intro k c hr h
      unfold w_222_5
      exact ⟨fun _ => h, fun q => absurd ((crN hr).2 rfl) q⟩
    | succ r ih =>
      intro k c hr hh
      unfold w_222_5
      rw [crcV] at hh
      rw [show nI A + nI k = nI (A + k) from nI_add _ _] at hh ⊢
      refine ⟨fun q => absurd ((crN hr).1 q) (by omega), fun _ => r218F h (by omega) ⟨_, r_222i 8 0 _ rfl ?_⟩⟩
      unfold w_222_56
      rw [nI_1, crc8]
      refine ih (k + 1) _ (by omega) ?_
      rw [show it_us (c ^^^ gb (mF F) (nI (A + k))) 8 = it_us c 8 from b_ext (fun i _ => by
        show bt (it_us (c ^^^ gb (mF F) (nI (A + k))) (nI 8)) i = bt (it_us c (nI 8)) i
        rw [it_us, b_ushr 8 (by omega), it_us, b_ushr 8 (by omega), b_xor, gb_8 _ _ (by omega), Bool.xor_false])]
      exact hh
  unfold w_222
  exact ⟨_, lp n.toInt.toNat 0 (-1) (by omega) hp⟩
abbrev cdQ (F : Nat → Int32) (A : Nat) (e : Int32) : Prop := e &&& 3 = 0 ∧ ¬ e < Hh F (A + 2) ∧ e ≤ Gf F (A + 4) - 12
abbrev cdP (F : Nat → Int32) (A : Nat) (e : Int32) : Prop := cdQ F A e ∧ Hh F (A + e.toInt.toNat) = 128 ∧ Hh F (A + e.toInt.toNat + 2) = 8 ∧ Gf F (A + e.toInt.toNat + 4) = 1 ∧ Gf F (A + e.toInt.toNat + 8) = crcR (mF F) (nI A) e
theorem cdE {F : Nat → Int32} {A : Nat} (hA : 65536 ≤ A) (fr : frP F A) {e : Int32} (h : cdQ F A e) : ∃ E, e = nI E ∧ e.toInt.toNat = E ∧ e.toInt = (E : Int) ∧ E % 4 = 0 ∧ hsz F A ≤ E ∧ E + 12 ≤ tsz F A := by
  obtain ⟨f1, f2, f3, f4, f5, f6, f7, f8⟩ := frF fr hA
  obtain ⟨a, b, c⟩ := h
  rw [f1, Int32.lt_iff_toInt_lt, nI_toInt (by omega)] at b
  have d : (Gf F (A + 4) - 12).toInt = (tsz F A : Int) - 12 := by
    rw [f2, show (12 : Int32) = nI 12 from rfl, nSub (by omega), nI_toInt (by omega)]
    omega
  rw [Int32.le_iff_toInt_le, d] at c
  rw [← Int32.toInt_inj, andI _ 2 (by omega) rfl, show (0 : Int32).toInt = 0 from rfl] at a
  exact ⟨e.toInt.toNat, Int32.toInt_inj.mp (by rw [nI_toInt (by omega)]; omega), rfl, by omega, by omega, by omega, by omega⟩
theorem c_5 {kc : it_Kc} {B : Nat} {F : Nat → Int32} {m : it_Me} (hI : Inv B m) (hF : FlC F m) {k A : Nat} (hA : 65536 ≤ A) (fr : frP F A) (h1 : m k 1 = nI A) (h2 : m k 2 = Hh F (A + 2)) (h3 : m k 3 = Gf F (A + 4)) {Φ : Int32 → it_Me → Prop} (h : Φ (bI (cdP F A (m k 6))) m) : w_5 kc k m Φ := by
  obtain ⟨f1, f2, f3, f4, f5, f6, f7, f8⟩ := frF fr hA
  unfold w_5 w_5_34
  rw [h1, h2, h3]
  have bad : ¬ cdQ F A (m k 6) → Φ 0 m := fun q => by rw [bI_f (fun y : cdP F A (m k 6) => q y.1)] at h; exact h
  refine ⟨fun q1 => ⟨fun q2 => bad (fun y => y.2.1 q2), fun q2 => ⟨fun q3 => ?_, fun q3 => bad (fun y => q3 y.2.2)⟩⟩, fun q1 => bad (fun y => q1 y.1)⟩
  have cq : cdQ F A (m k 6) := ⟨q1, q2, q3⟩
  obtain ⟨E, e1, e2, e2', e3, e4, e5⟩ := cdE hA fr cq
  have b0 : ¬ cdP F A (m k 6) → Φ 0 m := fun q => by rw [bI_f q] at h; exact h
  unfold cdP at h b0
  rw [e2] at h b0
  rw [e1, show nI A + nI E = nI (A + E) from nI_add _ _, n_2, n_4]
  have no : ¬ (cdQ F A (m k 6) ∧ Hh F (A + E) = 128 ∧ Hh F (A + E + 2) = 8 ∧ Gf F (A + E + 4) = 1 ∧ Gf F (A + E + 8) = crcR (mF F) (nI A) (m k 6)) → w_5_93 kc Φ k (nI (A + E)) m := fun q => by
    unfold w_5_93 w_5_94 w_5_132 w_5_133
    exact ⟨fun _ => ⟨Or.inl rfl, b0 q⟩, fun y => absurd rfl y⟩
  refine c14F hF (by omega) ⟨fun g1 => c14F hF (by omega) ⟨fun g2 => c12F hF (by omega) ⟨fun g3 => ?_, fun g3 => no (fun y => g3 y.2.2.2.1)⟩, fun g2 => no (fun y => g2 y.2.2.1)⟩, fun g1 => no (fun y => g1 y.2.1)⟩
  unfold w_5_94 w_5_132 w_5_133
  rw [n_8]
  refine ⟨fun q => absurd q (by decide), fun _ => c12F hF (by omega) (c_21 hI ?_)⟩
  rw [h1, crcF hF (by omega)]
  refine ⟨fun g4 => ⟨Or.inr rfl, ?_⟩, fun g4 => ⟨Or.inl rfl, b0 (fun y => g4 y.2.2.2.2)⟩⟩
  rw [bI_t ⟨cq, g1, g2, g3, g4⟩] at h
  exact h
theorem r_246 {kc : it_Kc} {F : Nat → Int32} {N : it_Me} (hF : FlR F N) {A : Nat} (hA : 65536 ≤ A) (h4 : A % 4 = 0) (fr : frP F A) (h18 : N 66 18 = Hh F (A + 2)) (h19 : N 66 19 = Gf F (A + 4)) {Φ : Int32 → it_Me → Prop} (h : Φ (bI (cdP F A (N 66 22))) N) : w_246 kc (nI A) N Φ := by
  obtain ⟨f1, f2, f3, f4, f5, f6, f7, f8⟩ := frF fr hA
  generalize hx : N 66 22 = x at h
  have u := u32 x
  have tl := Int32.toInt_lt x
  have tg := Int32.le_toInt x
  have ul : 0 ≤ (Int32.toInt64 x &&& 4294967295).toInt := by rw [u]; omega
  obtain ⟨a, ea, el⟩ := lrem_I ul (d := 4) (by omega) (by omega)
  have el' : it_lrem (Int32.toInt64 x &&& 4294967295) 4 = lN a := el
  have b1 : x &&& 3 = 0 ↔ a = 0 := by
    rw [← Int32.toInt_inj, andI _ 2 (by omega) rfl, show (0 : Int32).toInt = 0 from rfl]
    rw [u] at ea
    omega
  have lz : lg_cmp (it_lrem (Int32.toInt64 x &&& 4294967295) 4) 0 = 0 ↔ a = 0 := by
    rw [lgeq, el', show (lN a).toInt = (a : Int) from lN_toInt (by omega)]
    show (a : Int) = 0 ↔ _
    omega
  have d : (Gf F (A + 4) - 12).toInt = (tsz F A : Int) - 12 := by
    rw [f2, show (12 : Int32) = nI 12 from rfl, nSub (by omega), nI_toInt (by omega)]
    omega
  have l1 : lg_cmp (Int32.toInt64 x &&& 4294967295) (Int32.toInt64 (Hh F (A + 2))) < 0 ↔ x.toInt % 4294967296 < (hsz F A : Int) := by
    rw [lgl, u, Int32.toInt_toInt64, f1, nI_toInt (by omega)]
  have l2 : lg_cmp (Int32.toInt64 x &&& 4294967295) (Int32.toInt64 (Gf F (A + 4) - 12)) ≤ 0 ↔ x.toInt % 4294967296 ≤ (tsz F A : Int) - 12 := by
    rw [lgle, u, Int32.toInt_toInt64, d]
  have iq : cdQ F A x ↔ a = 0 ∧ ¬ x.toInt % 4294967296 < (hsz F A : Int) ∧ x.toInt % 4294967296 ≤ (tsz F A : Int) - 12 := by
    show (x &&& 3 = 0 ∧ ¬ x < Hh F (A + 2) ∧ x ≤ Gf F (A + 4) - 12) ↔ _
    rw [b1, f1, Int32.lt_iff_toInt_lt, nI_toInt (by omega), Int32.le_iff_toInt_le, d]
    omega
  unfold w_246 w_246_43
  rw [hx, h18, h19]
  have bad : ¬ cdQ F A x → Φ 0 N := fun q => by rw [bI_f (fun y : cdP F A x => q y.1)] at h; exact h
  refine ⟨by decide, fun q1 => ⟨fun q2 => bad (fun y => (iq.1 y).2.1 (l1.1 q2)), fun q2 => ⟨fun q3 => ?_, fun q3 => bad (fun y => q3 (l2.2 (iq.1 y).2.2))⟩⟩, fun q1 => bad (fun y => q1 (lz.2 (iq.1 y).1))⟩
  have cq : cdQ F A x := iq.2 ⟨lz.1 q1, fun y => q2 (l1.2 y), l2.1 q3⟩
  obtain ⟨E, e1, e2, e2', e3, e4, e5⟩ := cdE hA fr cq
  have e32 : Int64.toInt32 (Int32.toInt64 x &&& 4294967295) = nI E := by
    refine Int32.toInt_inj.mp ?_
    rw [i64_32 (by rw [u]; omega) (by rw [u]; omega), u, nI_toInt (by omega)]
    omega
  have b0 : ¬ cdP F A x → Φ 0 N := fun q => by rw [bI_f q] at h; exact h
  unfold cdP at h b0
  rw [e2] at h b0
  have no : ¬ (cdQ F A x ∧ Hh F (A + E) = 128 ∧ Hh F (A + E + 2) = 8 ∧ Gf F (A + E + 4) = 1 ∧ Gf F (A + E + 8) = crcR (mF F) (nI A) x) → w_246_111 kc Φ N := fun q => by
    unfold w_246_111 w_246_112
    exact ⟨Or.inl rfl, b0 q⟩
  rw [e32, show nI A + nI E = nI (A + E) from nI_add _ _, n_2, n_4, n_8]
  refine r219F hF (by omega) (by omega) ⟨fun g1 => r219F hF (by omega) (by omega) ⟨fun g2 => r220F hF (by omega) (by omega) ⟨fun g3 => r220F hF (by omega) (by omega) (r222F hF (by rw [nI_toInt (by omega)]; omega) ?_), fun g3 => no (fun y => g3 y.2.2.2.1)⟩, fun g2 => no (fun y => g2 y.2.2.1)⟩, fun g1 => no (fun y => g1 y.2.1)⟩
  rw [← e1]
  refine ⟨fun g4 => ?_, fun g4 => no (fun y => g4 y.2.2.2.2)⟩
  unfold w_246_112
  rw [bI_t ⟨cq, g1, g2, g3, g4⟩] at h
  exact ⟨Or.inr rfl, h⟩
/-- the app at A may be loaded -/
abbrev mlP (F : Nat → Int32) (A : Nat) (s : Int32) (ram e : Int32) : Prop := (¬ ram < 0 ∧ ¬ 15872 < ram) ∧ (s = 0 ∨ cdP F A e)
theorem c_6 {kc : it_Kc} {B : Nat} {F : Nat → Int32} {m : it_Me} (hI : Inv B m) (hF : FlC F m) {k A : Nat} (hA : 65536 ≤ A) (fr : frP F A) (h1 : m k 1 = nI A) (h2 : m k 2 = Hh F (A + 2)) (h3 : m k 3 = Gf F (A + 4)) {s : Int32} {Φ : Int32 → it_Me → Prop} (h : Φ (bI (mlP F A s (m k 5) (m k 6))) m) : w_6 kc k s m Φ := by
  unfold w_6 w_6_32 w_6_28 w_6_33
  refine ⟨fun q => ⟨Or.inl rfl, ?_⟩, fun q1 => ⟨fun q => ⟨Or.inl rfl, ?_⟩, fun q2 => ⟨fun q => ⟨Or.inr rfl, ?_⟩, fun q => c_5 hI hF hA fr h1 h2 h3 ?_⟩⟩⟩
  · rw [bI_f (fun y => y.1.1 q)] at h; exact h
  · rw [bI_f (fun y => y.1.2 q)] at h; exact h
  · rw [bI_t ⟨⟨q1, q2⟩, Or.inl q⟩] at h; exact h
  · by_cases c : cdP F A (m k 6)
    · rw [bI_t c]
      rw [bI_t ⟨⟨q1, q2⟩, Or.inr c⟩] at h
      exact ⟨fun y => absurd y (by decide), fun _ => ⟨Or.inr rfl, h⟩⟩
    · rw [bI_f c]
      rw [bI_f (fun y => y.2.elim q c)] at h
      exact ⟨fun _ => ⟨Or.inl rfl, h⟩, fun y => absurd rfl y⟩
