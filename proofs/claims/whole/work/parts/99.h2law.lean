/-! The law's loop: every call answers alike. Written by wip/whole/gen_law.py -/
def bk (k : Nat) : Nat := 500000 * k
theorem bk_s (k : Nat) : bk k + 440000 ≤ bk (k + 1) := by
  unfold bk
  rw [Nat.mul_succ]
  exact Nat.add_le_add_left (by decide) _
theorem bk_b {k : Nat} (h : k ≤ 64) : bk k ≤ 32000000 := Nat.le_trans (Nat.mul_le_mul_left 500000 h) (by decide)
set_option maxRecDepth 100000 in
set_option maxHeartbeats 4000000 in
theorem law_l {kc : it_Kc} (hk : KC kc) {L : Nat} {xs : Nat → Int32} (h7 : kc 7 = (L, xs)) (hL : L ≤ 384) {Φ : Int32 → it_Me → Prop} {K205 K228 K251 K330 K343 K366 K389 K438 K461 K494 K543 K566 K589 K622 K655 K678 K721 K764 K797 K820 K843 K876 K919 K932 K940 : it_Me → Prop} (hK : ∀ m, K940 m) : ∀ (r k : Nat) (m : it_Me), k + r = 65 → Rel m m → Inv (bk k) m → m 7 4 = 0 → w_363_18 kc Φ K205 K228 K251 K330 K343 K366 K389 K438 K461 K494 K543 K566 K589 K622 K655 K678 K721 K764 K797 K820 K843 K876 K919 K932 K940 (r + 1) (nI (6 * k)) m := by
  intro r
  induction r with
  | zero =>
    intro k m hkr hR hI hl
    rw [w_363_18]
    refine ⟨fun _ => hK m, fun q => absurd ?_ q⟩
    rw [h7]
    show Int32.ofNat L - 6 < nI (6 * k)
    rw [Int32.lt_iff_toInt_lt, sub_I] <;> rw [show (Int32.ofNat L) = nI L from rfl, nI_toInt (by omega)]
    · rw [nI_toInt (by omega)]
      show (L : Int) - 6 < _
      omega
    · show _ ≤ (L : Int) - 6
      omega
    · show (L : Int) - 6 < _
      omega
  | succ r ih =>
    intro k m hkr hR hI hl
    rw [w_363_18]
    rw [h7]
    refine ⟨fun _ => hK m, fun q => ?_⟩
    have q : ¬ Int32.ofNat L - 6 < nI (6 * k) := q
    have le : 6 * k + 6 ≤ L := by
      rcases Nat.lt_or_ge L (6 * k + 6) with y | y
      · refine absurd ?_ q
        rw [Int32.lt_iff_toInt_lt, sub_I] <;> rw [show (Int32.ofNat L) = nI L from rfl, nI_toInt (by omega)]
        · rw [nI_toInt (by omega)]
          show (L : Int) - 6 < _
          omega
        · show _ ≤ (L : Int) - 6
          omega
        · show (L : Int) - 6 < _
          omega
      · exact y
    have h8 := cnt_le hI
    have v0 : vp_in (nI (6 * k)) L := by rw [vp_in_iff, nI_toInt (by omega)]; omega
    have vj : ∀ j : Nat, j < 6 → vp_in (nI (6 * k) + nI j) L := fun j hj => by rw [vp_in_iff, nI_add, nI_toInt (by omega)]; omega
    have v1 : vp_in (nI (6 * k) + 1) L := vj 1 (by omega)
    have v2 : vp_in (nI (6 * k) + 2) L := vj 2 (by omega)
    have v3 : vp_in (nI (6 * k) + 3) L := vj 3 (by omega)
    have v4 : vp_in (nI (6 * k) + 4) L := vj 4 (by omega)
    have v5 : vp_in (nI (6 * k) + 5) L := vj 5 (by omega)
    have bB := bk_b (k := k) (by omega)
    have bs := bk_s k
    generalize hbk : bk k = B at *
    generalize hbk' : bk (k + 1) = B' at *
    have c0 : B < 2147483000 := by omega
    have c1 : B + 1 < 2147483000 := by omega
    have c8 : B + 8 < 2147483000 := by omega
    have c44 : B + 440000 < 2147483000 := by omega
    have b0 : B ≤ B' := by omega
    have b1 : B + 1 ≤ B' := by omega
    have b8 : B + 8 ≤ B' := by omega
    have b44 : B + 440000 ≤ B' := by omega
    have nx : ∀ m4, Rel m4 m4 → Inv B' m4 → m4 7 4 = 0 → w_363_934 kc Φ (w_363_18 kc Φ K205 K228 K251 K330 K343 K366 K389 K438 K461 K494 K543 K566 K589 K622 K655 K678 K721 K764 K797 K820 K843 K876 K919 K932 K940 (r + 1)) K205 K228 K251 K330 K343 K366 K389 K438 K461 K494 K543 K566 K589 K622 K655 K678 K721 K764 K797 K820 K843 K876 K919 K932 K940 (nI (6 * k)) m4 := fun m4 a b c => by
      unfold w_363_934
      rw [show nI (6 * k) + 6 = nI (6 * (k + 1)) from nI_add (6 * k) 6]
      rw [← hbk'] at b
      exact ih (k + 1) m4 (by omega) a b c
    refine ⟨v0, ?_⟩
    refine ⟨fun _ => ?_, fun _ => ?_⟩
    · exact ⟨v1, v2, v3, v4, v5, lk (Y := K205) (a_feed hI hl _ _ _ _ _) b0 hR h8 nx (fun x m' q => ⟨v1, v2, v3, v4, v5, q⟩)⟩
    refine ⟨fun _ => ?_, fun _ => ?_⟩
    · exact ⟨v1, lk (Y := K228) (a_end hI hl _) b0 hR h8 nx (fun x m' q => ⟨v1, q⟩)⟩
    refine ⟨fun _ => ?_, fun _ => ?_⟩
    · exact ⟨v1, lk (Y := K251) (a_burn hI hl _) b0 hR h8 nx (fun x m' q => ⟨v1, q⟩)⟩
    refine ⟨fun _ => ?_, fun _ => ?_⟩
    · unfold w_363_282
      rw [h7]
      refine ⟨v1, v2, v3, v4, fun z => ⟨v5, lk (Y := K330) (a_boot hI hl _ _ _ _ _) b0 hR h8 nx (fun x m' q => ⟨v1, v2, v3, v4, fun _ => ?_, fun y => absurd z y⟩)⟩, fun z => ⟨v5, lk (Y := K330) (a_boot hI hl _ _ _ _ _) b0 hR h8 nx (fun x m' q => ⟨v1, v2, v3, v4, fun y => absurd y z, fun _ => ?_⟩)⟩⟩
      · unfold w_363_319
        rw [h7]
        exact ⟨v5, q⟩
      · unfold w_363_319
        rw [h7]
        exact ⟨v5, q⟩
    refine ⟨fun _ => ?_, fun _ => ?_⟩
    · exact lk (Y := K343) (a_off hI hl) b0 hR h8 nx (fun x m' q => q)
    refine ⟨fun _ => ?_, fun _ => ?_⟩
    · exact ⟨v1, lk (Y := K366) (a_cut hI hl _) b0 hR h8 nx (fun x m' q => ⟨v1, q⟩)⟩
    refine ⟨fun _ => ?_, fun _ => ?_⟩
    · exact ⟨v1, lk (Y := K389) (a_run hk hI hl c44 _) b44 hR h8 nx (fun x m' q => ⟨v1, q⟩)⟩
    refine ⟨fun _ => ?_, fun _ => ?_⟩
    · unfold w_363_410
      rw [h7]
      refine ⟨v1, v2, fun z => lk (Y := K438) (a_press hk hI c8 hl _ (Or.inl rfl)) b8 hR h8 nx (fun x m' q => ⟨v1, v2, fun _ => ?_, fun y => absurd z y⟩), fun z => lk (Y := K438) (a_press hk hI c8 hl _ (Or.inr rfl)) b8 hR h8 nx (fun x m' q => ⟨v1, v2, fun y => absurd y z, fun _ => ?_⟩)⟩
      · unfold w_363_432
        exact q
      · unfold w_363_432
        exact q
    refine ⟨fun _ => ?_, fun _ => ?_⟩
    · exact ⟨v1, lk (Y := K461) (a_type hk hI c1 hl _) b1 hR h8 nx (fun x m' q => ⟨v1, q⟩)⟩
    refine ⟨fun _ => ?_, fun _ => ?_⟩
    · exact ⟨v1, v2, lk (Y := K494) (a_level hI hl _ _) b0 hR h8 nx (fun x m' q => ⟨v1, v2, q⟩)⟩
    refine ⟨fun _ => ?_, fun _ => ?_⟩
    · unfold w_363_515
      rw [h7]
      refine ⟨v1, v2, fun z => lk (Y := K543) (a_hold hI hl _ _ (Or.inl rfl)) b0 hR h8 nx (fun x m' q => ⟨v1, v2, fun _ => ?_, fun y => absurd z y⟩), fun z => lk (Y := K543) (a_hold hI hl _ _ (Or.inr rfl)) b0 hR h8 nx (fun x m' q => ⟨v1, v2, fun y => absurd y z, fun _ => ?_⟩)⟩
      · unfold w_363_537
        exact q
      · unfold w_363_537
        exact q
    refine ⟨fun _ => ?_, fun _ => ?_⟩
    · exact ⟨v1, lk (Y := K566) (a_restart hk hI c0 hl _) b1 hR h8 nx (fun x m' q => ⟨v1, q⟩)⟩
    refine ⟨fun _ => ?_, fun _ => ?_⟩
    · exact ⟨v1, lk (Y := K589) (a_count hI hl _) b0 hR h8 nx (fun x m' q => ⟨v1, q⟩)⟩
    refine ⟨fun _ => ?_, fun _ => ?_⟩
    · exact ⟨v1, v2, lk (Y := K622) (a_process hI hl _ _) b0 hR h8 nx (fun x m' q => ⟨v1, v2, q⟩)⟩
    refine ⟨fun _ => ?_, fun _ => ?_⟩
    · exact ⟨v1, v2, lk (Y := K655) (a_register hI hl _ _) b0 hR h8 nx (fun x m' q => ⟨v1, v2, q⟩)⟩
    refine ⟨fun _ => ?_, fun _ => ?_⟩
    · exact ⟨v1, lk (Y := K678) (a_memory hI hl _) b0 hR h8 nx (fun x m' q => ⟨v1, q⟩)⟩
    refine ⟨fun _ => ?_, fun _ => ?_⟩
    · exact ⟨v1, v2, v3, lk (Y := K721) (a_entry hI hl _ _ _) b0 hR h8 nx (fun x m' q => ⟨v1, v2, v3, q⟩)⟩
    refine ⟨fun _ => ?_, fun _ => ?_⟩
    · exact ⟨v1, v2, v3, lk (Y := K764) (a_upcall hI hl _ _ _) b0 hR h8 nx (fun x m' q => ⟨v1, v2, v3, q⟩)⟩
    refine ⟨fun _ => ?_, fun _ => ?_⟩
    · exact ⟨v1, v2, lk (Y := K797) (a_grant hI hl _ _) b0 hR h8 nx (fun x m' q => ⟨v1, v2, q⟩)⟩
    refine ⟨fun _ => ?_, fun _ => ?_⟩
    · exact ⟨v1, lk (Y := K820) (a_out hI hl c0 _) b0 hR h8 nx (fun x m' q => ⟨v1, q⟩)⟩
    refine ⟨fun _ => ?_, fun _ => ?_⟩
    · exact ⟨v1, lk (Y := K843) (a_lamp hI hl _) b0 hR h8 nx (fun x m' q => ⟨v1, q⟩)⟩
    refine ⟨fun _ => ?_, fun _ => ?_⟩
    · exact ⟨v1, v2, lk (Y := K876) (a_event hI hl c0 _ _) b0 hR h8 nx (fun x m' q => ⟨v1, v2, q⟩)⟩
    refine ⟨fun _ => ?_, fun _ => ?_⟩
    · exact ⟨v1, v2, v3, lk (Y := K919) (a_stored hI hl _ _ _) b0 hR h8 nx (fun x m' q => ⟨v1, v2, v3, q⟩)⟩
    refine ⟨fun _ => ?_, fun _ => ?_⟩
    · exact lk (Y := K932) (a_audit hk hI hl) b0 hR h8 nx (fun x m' q => q)
    exact nx m hR (hI.mono b0) hl
theorem law_H (L : Nat) (xs : Nat → Int32) (hL : L ≤ 384) : w_363 (it_kc0 L xs) 0 it_mem0 (fun r _ => r = 1) := by
  have hk : KC (it_kc0 L xs) := fun j hj => by
    have : j = 0 ∨ j = 1 ∨ j = 2 ∨ j = 3 ∨ j = 4 ∨ j = 5 ∨ j = 6 := by omega
    rcases this with rfl | rfl | rfl | rfl | rfl | rfl | rfl <;> rfl
  unfold w_363
  refine ⟨65 + 1, ?_⟩
  rw [show (0 : Int32) = nI (6 * 0) from by decide]
  exact law_l hk rfl hL (fun m => rfl) 65 0 it_mem0 (by omega) m0_R (m0_I _) m0_l
theorem it_all : it_Claim := it_claim_of law_H
