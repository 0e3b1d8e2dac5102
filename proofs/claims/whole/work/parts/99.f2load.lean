/-! The load: the class before it, and what is alike of a loaded process. -/
/-- the class before it loads -/
def bS (m : it_Me) (x0 x1 x2 : Int32) : it_Me := it_sv (fgC (it_sv (it_sv (it_sv m 0 10 1) 54 2 x0) 54 3 x1) 8) 9 8 x2
theorem bS_k (m : it_Me) (x0 x1 x2 : Int32) {k : Nat} (h : k ≠ 0 ∧ k ≠ 9 ∧ k ≠ 54 ∧ k ≠ 55 ∧ k ≠ 56 ∧ k ≠ 57) : bS m x0 x1 x2 k = m k := by
  unfold bS
  rw [sv_cell _ _ _ _ (by omega), fg_f _ _ (by omega), sv_cell _ _ _ _ (by omega), sv_cell _ _ _ _ (by omega), sv_cell _ _ _ _ (by omega)]
theorem bS_0 (m : it_Me) (x0 x1 x2 : Int32) {j : Nat} (h : j ≠ 10) : bS m x0 x1 x2 0 j = m 0 j := by
  unfold bS
  rw [sv_n1 _ _ _ _ _ (by omega), fg_f _ _ (by omega), sv_n1 _ _ _ _ _ (by omega), sv_n1 _ _ _ _ _ (by omega), sv_n2 _ _ _ _ h]
theorem bS_on (m : it_Me) (x0 x1 x2 : Int32) : bS m x0 x1 x2 0 10 = 1 := by
  unfold bS
  rw [sv_n1 _ _ _ _ _ (by omega), fg_f _ _ (by omega), sv_n1 _ _ _ _ _ (by omega), sv_n1 _ _ _ _ _ (by omega), sv_same]
theorem bS_9 (m : it_Me) (x0 x1 x2 : Int32) {j : Nat} (h : j ≠ 8) : bS m x0 x1 x2 9 j = m 9 j := by
  unfold bS
  rw [sv_n2 _ _ _ _ h, fg_f _ _ (by omega), sv_n1 _ _ _ _ _ (by omega), sv_n1 _ _ _ _ _ (by omega), sv_n1 _ _ _ _ _ (by omega)]
theorem bS_98 (m : it_Me) (x0 x1 x2 : Int32) : bS m x0 x1 x2 9 8 = x2 := by
  unfold bS
  rw [sv_same]
theorem bS_54 (m : it_Me) (x0 x1 x2 : Int32) : bS m x0 x1 x2 54 2 = x0 ∧ bS m x0 x1 x2 54 3 = x1 := by
  unfold bS
  rw [sv_n1 _ _ _ _ _ (by omega), sv_n1 _ _ _ _ _ (by omega), fg_54 _ _ (by omega), fg_54 _ _ (by omega), sv_n2 _ _ _ _ (by omega), sv_same, sv_same]
  exact ⟨rfl, rfl⟩
theorem bS_s0 (m : it_Me) (x0 x1 x2 : Int32) : s0 (bS m x0 x1 x2) := by
  unfold s0 bS
  rw [sv_n1 _ _ _ _ _ (by omega), sv_n1 _ _ _ _ _ (by omega)]
  refine ⟨(fg_4 _ 8).1, (fg_4 _ 8).2, fun i hi => ?_⟩
  rw [sv_n1 _ _ _ _ _ (by omega), sv_n1 _ _ _ _ _ (by omega), sv_n1 _ _ _ _ _ (by omega)]
  exact fg_v _ hi
theorem bS_I {B : Nat} {m : it_Me} (hI : Inv B m) (ho : m 0 10 = 0) (hb : m 7 2 ≠ 0) (ha : m 59 12 = 0) {x0 x1 x2 : Int32} (h0 : x0 = 0 ∨ x0 = 1 ∨ x0 = 2) (h1 : 1 ≤ x1.toInt ∧ x1.toInt ≤ 1000) : Inv B (bS m x0 x1 x2) := by
  have n9 := (hI.off ho).1
  have e9 : bS m x0 x1 x2 9 7 = 0 := by rw [bS_9 _ _ _ _ (by omega)]; exact n9
  have nc : ∀ i, ¬ i < cnt (bS m x0 x1 x2) := fun i hi => by rw [cnt0 e9] at hi; omega
  have on := bS_on m x0 x1 x2
  have s := bS_s0 m x0 x1 x2
  refine Inv.mk ?_ ?_ (Or.inr on) (fun q => ?_) ?_ ?_ ?_ (fun i hi => ?_) ?_ ?_ (fun _ => ?_) ?_ (fun _ => ?_) (fun _ => ?_) (fun _ => ?_) (fun _ i hi => absurd hi (nc i)) (fun _ i hi => absurd hi (nc i)) (fun _ _ i hi => (s.2.2 i hi).1) (fun _ _ i hi => absurd hi (nc i)) (fun _ _ => ?_) (fun _ i hi => absurd hi (nc i)) (fun _ i j hj => absurd hj (nc j))
  · rw [bS_0 _ _ _ _ (by omega)]; exact hI.tl
  · rw [bS_k _ _ _ _ (by omega)]; exact hI.tp
  · rw [on] at q; exact absurd q (by decide)
  · rw [e9]; decide
  · rw [bS_k _ _ _ _ (k := 5) (by omega), bS_k _ _ _ _ (k := 4) (by omega)]; exact hI.ev
  · rw [bS_k _ _ _ _ (k := 5) (by omega), bS_k _ _ _ _ (k := 59) (by omega)]; exact hI.out
  · rw [bS_k _ _ _ _ (by omega)]; exact hI.num i hi
  · rw [bS_k _ _ _ _ (by omega)]; exact hI.crc
  · rw [bS_k _ _ _ _ (by omega)]; exact hI.bk
  · rw [bS_k _ _ _ _ (by omega)]; exact hb
  · rw [bS_k _ _ _ _ (by omega)]; exact hI.pw
  · rw [(bS_54 m x0 x1 x2).1, (bS_54 m x0 x1 x2).2]; exact ⟨h0, h1⟩
  · rw [s.1, e9]; decide
  · rw [bS_k _ _ _ _ (by omega), ha]
    show (0 : Int) ≤ 0 ∧ (0 : Int) ≤ B
    omega
  · rw [s.2.1]
    exact ⟨by decide, by show (7 : Int) ≤ B + 7; omega, fun i hi => absurd hi (nc i), fun i j hi => absurd hi (nc i)⟩
theorem gw0 {m : it_Me} (hz : ∀ w, 16384 ≤ w → w < 32768 → m 2 w = 0) {a : Int32} (ha : 131072 ≤ a.toInt) : gw m a = 0 := by
  unfold gw
  split
  · rfl
  · split
    · rename_i h
      rw [Int32.lt_iff_toInt_lt] at h
      simp only [Int32.reduceToInt] at h
      have w := wi_eq (a := a) ⟨by omega, by omega⟩
      exact hz _ (by omega) (by omega)
    · rfl
/-- class and reference have the same of a loaded process -/
theorem lpR {F : Nat → Int32} {m N : it_Me} {i : Nat} {p : Nat × Nat × Nat} (hL : LpC F m i p) (hR : RcN F N i p) (hB : BgN F N i p) (hp : PI m i) (wt : N 98 i = m (14 + 5 * i) 15 ∧ N 99 i = m (14 + 5 * i) 16) (hz : ∀ w, 16384 ≤ w → w < 32768 → m 2 w = 0) : (∀ t, t ∈ pst → N t.1 i = m (14 + 5 * i + t.2.1) t.2.2) ∧ (N 80 i = m (14 + 5 * i + 1) 1 + m (14 + 5 * i + 1) 3 ∧ N 81 i = m (14 + 5 * i + 1) 1 + m (14 + 5 * i + 1) 2 + m (14 + 5 * i + 1) 4 ∧ N 82 i = m (14 + 5 * i + 1) 5) ∧ (N 84 i = nz (m (14 + 5 * i + 1) 10) ∧ (m (14 + 5 * i + 1) 10 ≠ 0 → N 85 i = m (14 + 5 * i + 1) 11)) ∧ N 86 i = nz (m (14 + 5 * i + 1) 12) ∧ (N 87 i = nz (m (14 + 5 * i + 1) 13) ∧ (m (14 + 5 * i + 1) 13 ≠ 0 → N 88 i = m (14 + 5 * i + 1) 14)) ∧ (∀ r, r < 32 → N 93 (32 * i + r) = m (14 + 5 * i + 2) r) ∧ N 97 i = rsI (m (14 + 5 * i) 4) ∧ (N 102 i = gw m (ctl m i + 24) ∧ N 103 i = gw m (ctl m i + 28) ∧ N 104 i = gw m (ctl m i + 32) ∧ N 105 i = gw m (ctl m i + 40)) := by
  obtain ⟨⟨l5, l6, l7, l8, l3⟩, ⟨l4, l9, l10, l11, l12, l14⟩, ⟨k1, k2, k3, hd⟩, lr, lg⟩ := hL
  obtain ⟨⟨r79, r80, r81, r82, r83⟩, ⟨r84, r85, r86, r87, r88⟩, r89, r90⟩ := hR
  obtain ⟨⟨b91, b92, b110, b94, b95⟩, ⟨b97, b101, b96, b100, b102⟩, ⟨b103, b104, b105, b106, b107, b108⟩, b93⟩ := hB
  have k5 : m (14 + 5 * i + 1) 5 = rmF F p.1 := hd.1.2.1
  have k4 : m (14 + 5 * i + 1) 4 = gE F (uE F p.1) := hd.1.1
  have k7 : m (14 + 5 * i + 1) 7 = vrF F p.1 := hd.1.2.2.2
  have ee := hd.2
  have rm := hp.ram
  have bl := hp.blk
  have b1 := blk_I (hp 0)
  rw [k5] at rm
  have ru := rup_rdv (x := rmF F p.1) (by omega) (by omega)
  rw [ru] at b91 b93
  have ct := hp.ctlI
  have g : ∀ k : Nat, k ≤ 64 → gw m (ctl m i + nI k) = 0 := fun k hk => gw0 hz (by rw [add_I (by rw [nI_toInt (by omega)]; omega) (by rw [nI_toInt (by omega)]; omega), nI_toInt (by omega)]; omega)
  refine ⟨fun t ht => ?_, ⟨by rw [r80, k1, k3], by rw [r81, k1, k2, k4], by rw [r82, k5]⟩, ⟨by rw [r84, ee.1 10 (by omega)], fun q => ?_⟩, by rw [r86, ee.1 12 (by omega)], ⟨by rw [r87, ee.1 13 (by omega)], fun q => ?_⟩, fun r hr => by rw [b93 r hr, lr r hr], by rw [b97, l4]; decide, b102.trans (g 24 (by omega)).symm, b103.trans (g 28 (by omega)).symm, b104.trans (g 32 (by omega)).symm, b105.trans (g 40 (by omega)).symm⟩
  · simp only [pst, List.mem_cons, List.not_mem_nil, or_false] at ht
    rcases ht with rfl | rfl | rfl | rfl | rfl | rfl | rfl | rfl | rfl | rfl | rfl | rfl | rfl | rfl
    · exact r79.trans k1.symm
    · exact r83.trans k7.symm
    · exact r89.trans l5.symm
    · exact r90.trans l6.symm
    · exact b91.trans l7.symm
    · exact b92.trans l8.symm
    · exact b94.trans l3.symm
    · exact b95.trans l9.symm
    · exact b96.trans l10.symm
    · exact wt.1
    · exact wt.2
    · exact b100.trans l12.symm
    · exact b101.trans l11.symm
    · exact b110.trans l14.symm
  · have e := ee.1 10 (by omega)
    rw [r85, nl_0 (by rw [e]; exact q)]
    exact ee.2.1 (by rw [e]; exact q)
  · have e := ee.1 13 (by omega)
    rw [r88, nl_0 (by rw [e]; exact q)]
    exact ee.2.2 (by rw [e]; exact q)
