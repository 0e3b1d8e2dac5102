/-! What a write leaves as it was. Written by wip/whole/gen_upd.py -/
theorem cnt_cg {m m' : it_Me} (e : m' 9 7 = m 9 7) : cnt m' = cnt m := by unfold cnt; rw [e]
theorem gw_cg {m m' : it_Me} (e : m' 2 = m 2) (a : Int32) : gw m' a = gw m a := by unfold gw; rw [e]
theorem gh_cg {m m' : it_Me} (e : m' 2 = m 2) (a : Int32) : gh m' a = gh m a := by unfold gh; rw [e]
theorem ctl_cg {m m' : it_Me} {i : Nat} (e : m' (14 + 5 * i) = m (14 + 5 * i)) : ctl m' i = ctl m i := by unfold ctl; rw [e]
theorem excl_cg {m m' : it_Me} (e9 : m' 9 7 = m 9 7) (e : ∀ i, i < cnt m → m' (14 + 5 * i) = m (14 + 5 * i)) (w : Nat) : excl m' w ↔ excl m w := by
  unfold excl
  rw [cnt_cg e9]
  constructor
  · rintro ⟨i, hi, h1, h2⟩; rw [ctl_cg (e i hi)] at h1 h2; exact ⟨i, hi, h1, h2⟩
  · rintro ⟨i, hi, h1, h2⟩; rw [← ctl_cg (e i hi)] at h1 h2; exact ⟨i, hi, h1, h2⟩
theorem undW_cg {m m' : it_Me} {i : Nat} (e2 : m' 2 = m 2) (e : m' (14 + 5 * i + 4) = m (14 + 5 * i + 4)) : undW m' i ↔ undW m i := by unfold undW; rw [e, gw_cg e2]
theorem undR_cg {m m' : it_Me} {i : Nat} (e2 : m' 2 = m 2) (e : m' (14 + 5 * i + 4) = m (14 + 5 * i + 4)) : undR m' i ↔ undR m i := by unfold undR; rw [e, gw_cg e2]
theorem Ch_cg {m m' : it_Me} {i : Nat} (e2 : m' 2 = m 2) (e0 : m' (14 + 5 * i) = m (14 + 5 * i)) (e : m' (14 + 5 * i + 4) = m (14 + 5 * i + 4)) : ∀ (ds : List Nat) (a : Int32), Ch m' i a ds ↔ Ch m i a ds
  | [], a => by simp only [Ch, ctl_cg e0]
  | d :: ds, a => by simp only [Ch, ctl_cg e0, e, gw_cg e2, Ch_cg e2 e0 e ds]
theorem Bf_cg {m m' : it_Me} {i : Nat} (e0 : m' (14 + 5 * i) = m (14 + 5 * i)) (e1 : m' (14 + 5 * i + 1) = m (14 + 5 * i + 1)) (a n : Int32) (w : Prop) : Bf m' i a n w ↔ Bf m i a n w := by unfold Bf; rw [e0, e1]
set_option maxHeartbeats 4000000 in
theorem Rel.upd {m m' M M' : it_Me} (h : Rel m M) (hc : cnt m ≤ 8) (lc lr : List Nat) (hm : ∀ k, k ∉ lc → m' k = m k) (hM : ∀ k, k ∉ lr → M' k = M k)
  (h0 : ((∀ x ∈ lc, True) ∧ (∀ y ∈ lr, True) ∧ M' 66 2 = M 66 2 ∧ m' 0 9 = m 0 9) ∨ (M' 66 2 = m' 0 9))
  (h1 : ((∀ x ∈ lc, True) ∧ (∀ y ∈ lr, True) ∧ M' 66 3 = M 66 3 ∧ m' 0 10 = m 0 10) ∨ (M' 66 3 = m' 0 10))
  (h2 : ((∀ x ∈ lc, True) ∧ (∀ y ∈ lr, True) ∧ M' 66 4 = M 66 4 ∧ m' 7 4 = m 7 4) ∨ (M' 66 4 = m' 7 4))
  (h3 : ((∀ x ∈ lc, True) ∧ (∀ y ∈ lr, True) ∧ M' 66 5 = M 66 5 ∧ m' 7 3 = m 7 3) ∨ (M' 66 5 = m' 7 3))
  (h4 : ((∀ x ∈ lc, True) ∧ (∀ y ∈ lr, True) ∧ M' 66 6 = M 66 6 ∧ m' 4 0 = m 4 0) ∨ (M' 66 6 = m' 4 0))
  (h5 : ((∀ x ∈ lc, True) ∧ (∀ y ∈ lr, True) ∧ M' 66 10 = M 66 10 ∧ m' 59 7 = m 59 7) ∨ (M' 66 10 = m' 59 7))
  (h6 : ((∀ x ∈ lc, True) ∧ (∀ y ∈ lr, True) ∧ M' 66 34 = M 66 34 ∧ m' 9 7 = m 9 7) ∨ (M' 66 34 = m' 9 7))
  (h7 : ((∀ x ∈ lc, True) ∧ (∀ y ∈ lr, True) ∧ M' 66 70 = M 66 70 ∧ m' 54 4 = m 54 4) ∨ (M' 66 70 = m' 54 4))
  (h8 : ((∀ x ∈ lc, True) ∧ (∀ y ∈ lr, True) ∧ M' 66 17 = M 66 17 ∧ m' 7 2 = m 7 2) ∨ (M' 66 17 = bkI (m' 7 2)))
  (h9 : ((∀ x ∈ lc, x ≠ 65) ∧ (∀ y ∈ lr, y ≠ 68) ∧ True) ∨ (∀ i, i < 8192 → M' 68 i = m' 65 i))
  (h10 : ((∀ x ∈ lc, x ≠ 5) ∧ (∀ y ∈ lr, y ≠ 69) ∧ True) ∨ (∀ i, i < 12 → M' 69 i = m' 5 i))
  (h11 : ((∀ x ∈ lc, x ≠ 6) ∧ (∀ y ∈ lr, y ≠ 74) ∧ True) ∨ (∀ i, i < 800 → M' 74 i = m' 6 i))
  (h12 : ((∀ x ∈ lc, x ≠ 61) ∧ (∀ y ∈ lr, y ≠ 70) ∧ True) ∨ (∀ i, i < 4000 → M' 70 i = m' 61 i))
  (h13 : ((∀ x ∈ lc, True) ∧ (∀ y ∈ lr, y ≠ 71) ∧ m' 59 4 = m 59 4) ∨ (∀ k, k < 4 → M' 71 k = b01 (bt (m' 59 4) k)))
  (h14 : ((∀ x ∈ lc, True) ∧ (∀ y ∈ lr, y ≠ 72) ∧ m' 59 5 = m 59 5) ∨ (∀ k, k < 4 → M' 72 k = b01 (bt (m' 59 5) k)))
  (h15 : ((∀ x ∈ lc, x ≠ 60) ∧ (∀ y ∈ lr, y ≠ 73) ∧ True) ∨ (∀ i, i < 2 → M' 73 i = m' 60 i))
  (h16 : ((∀ x ∈ lc, x ≠ 2 ∧ (x < 14 ∨ 54 ≤ x ∨ ((x - 14) % 5 ≠ 0))) ∧ (∀ y ∈ lr, y ≠ 67) ∧ m' 9 7 = m 9 7) ∨ (∀ w, w < 32768 → ¬ excl m' w → ∀ j, j < 4 → M' 67 (65536 + 4 * w + j) = sb8 (m' 2 w) j))
  (h17 : ((∀ x ∈ lc, True) ∧ (∀ y ∈ lr, True) ∧ M' 66 7 = M 66 7 ∧ M' 66 8 = M 66 8 ∧ M' 66 9 = M 66 9 ∧ m' 0 10 = m 0 10 ∧ m' 9 8 = m 9 8 ∧ m' 54 2 = m 54 2 ∧ m' 54 3 = m 54 3) ∨ (m' 0 10 = 1 → M' 66 7 = m' 54 2 ∧ M' 66 8 = m' 54 3 ∧ M' 66 9 = m' 9 8))
  (h18 : ((∀ x ∈ lc, True) ∧ (∀ y ∈ lr, True) ∧ M' 66 71 = M 66 71 ∧ m' 0 10 = m 0 10 ∧ m' 54 2 = m 54 2 ∧ m' 54 4 = m 54 4 ∧ m' 54 5 = m 54 5) ∨ (m' 0 10 = 1 → m' 54 2 = 0 → m' 54 4 ≠ -1 → M' 66 71 = m' 54 5))
  (h19 : ((∀ x ∈ lc, x ≠ 55 ∧ x ≠ 56) ∧ (∀ y ∈ lr, y ≠ 106 ∧ y ≠ 107) ∧ m' 0 10 = m 0 10 ∧ m' 9 7 = m 9 7 ∧ m' 54 2 = m 54 2) ∨ (m' 0 10 = 1 → m' 54 2 = 2 → ∀ i, i < cnt m' → M' 106 i = m' 55 i ∧ M' 107 i = m' 56 i))
  (h20 : ((∀ x ∈ lc, x ≠ 57) ∧ (∀ y ∈ lr, y ≠ 108) ∧ m' 0 10 = m 0 10 ∧ m' 9 7 = m 9 7 ∧ m' 54 2 = m 54 2 ∧ m' 54 9 = m 54 9) ∨ (m' 0 10 = 1 → m' 54 2 = 2 → (∀ i j, i < cnt m' → j < cnt m' → (m' 57 i < m' 57 j ↔ M' 108 i < M' 108 j)) ∧ ∀ i, i < cnt m' → 0 ≤ M' 108 i ∧ M' 108 i ≤ m' 54 9))
  (h21 : ((∀ x ∈ lc, True) ∧ (∀ y ∈ lr, True) ∧ M' 66 69 = M 66 69 ∧ m' 0 10 = m 0 10 ∧ m' 59 12 = m 59 12) ∨ (m' 0 10 = 1 → M' 66 69 = m' 59 12))
  (h22 : ((∀ x ∈ lc, x ≠ 2 ∧ x ≠ 62 ∧ (x < 14 ∨ 54 ≤ x ∨ ((x - 14) % 5 ≠ 4))) ∧ (∀ y ∈ lr, y ≠ 111) ∧ m' 9 7 = m 9 7) ∨ (∀ i, i < cnt m' → undW m' i → M' 111 i = m' 62 i + 1))
  (h23 : ((∀ x ∈ lc, x ≠ 2 ∧ x ≠ 63 ∧ (x < 14 ∨ 54 ≤ x ∨ ((x - 14) % 5 ≠ 4))) ∧ (∀ y ∈ lr, y ≠ 112) ∧ m' 9 7 = m 9 7) ∨ (∀ i, i < cnt m' → undR m' i → M' 112 i = m' 63 i + 1))
  (h24 : ((∀ x ∈ lc, (x < 14 ∨ 54 ≤ x ∨ ((x - 14) % 5 ≠ 0 ∧ (x - 14) % 5 ≠ 1))) ∧ (∀ y ∈ lr, y ≠ 79 ∧ y ≠ 83 ∧ y ≠ 89 ∧ y ≠ 90 ∧ y ≠ 91 ∧ y ≠ 92 ∧ y ≠ 94 ∧ y ≠ 95 ∧ y ≠ 96 ∧ y ≠ 98 ∧ y ≠ 99 ∧ y ≠ 100 ∧ y ≠ 101 ∧ y ≠ 110) ∧ m' 9 7 = m 9 7) ∨ (∀ i, i < cnt m' → ∀ t, t ∈ pst → M' t.1 i = m' (14 + 5 * i + t.2.1) t.2.2))
  (h25 : ((∀ x ∈ lc, (x < 14 ∨ 54 ≤ x ∨ ((x - 14) % 5 ≠ 1))) ∧ (∀ y ∈ lr, y ≠ 80 ∧ y ≠ 81 ∧ y ≠ 82) ∧ m' 9 7 = m 9 7) ∨ (∀ i, i < cnt m' → M' 80 i = m' (14 + 5 * i + 1) 1 + m' (14 + 5 * i + 1) 3 ∧ M' 81 i = m' (14 + 5 * i + 1) 1 + m' (14 + 5 * i + 1) 2 + m' (14 + 5 * i + 1) 4 ∧ M' 82 i = m' (14 + 5 * i + 1) 5))
  (h26 : ((∀ x ∈ lc, (x < 14 ∨ 54 ≤ x ∨ ((x - 14) % 5 ≠ 1))) ∧ (∀ y ∈ lr, y ≠ 84 ∧ y ≠ 85) ∧ m' 9 7 = m 9 7) ∨ (∀ i, i < cnt m' → M' 84 i = nz (m' (14 + 5 * i + 1) 10) ∧ (m' (14 + 5 * i + 1) 10 ≠ 0 → M' 85 i = m' (14 + 5 * i + 1) 11)))
  (h27 : ((∀ x ∈ lc, (x < 14 ∨ 54 ≤ x ∨ ((x - 14) % 5 ≠ 1))) ∧ (∀ y ∈ lr, y ≠ 86) ∧ m' 9 7 = m 9 7) ∨ (∀ i, i < cnt m' → M' 86 i = nz (m' (14 + 5 * i + 1) 12)))
  (h28 : ((∀ x ∈ lc, (x < 14 ∨ 54 ≤ x ∨ ((x - 14) % 5 ≠ 1))) ∧ (∀ y ∈ lr, y ≠ 87 ∧ y ≠ 88) ∧ m' 9 7 = m 9 7) ∨ (∀ i, i < cnt m' → M' 87 i = nz (m' (14 + 5 * i + 1) 13) ∧ (m' (14 + 5 * i + 1) 13 ≠ 0 → M' 88 i = m' (14 + 5 * i + 1) 14)))
  (h29 : ((∀ x ∈ lc, (x < 14 ∨ 54 ≤ x ∨ ((x - 14) % 5 ≠ 2))) ∧ (∀ y ∈ lr, y ≠ 93) ∧ m' 9 7 = m 9 7) ∨ (∀ i, i < cnt m' → ∀ r, r < 32 → M' 93 (32 * i + r) = m' (14 + 5 * i + 2) r))
  (h30 : ((∀ x ∈ lc, (x < 14 ∨ 54 ≤ x ∨ ((x - 14) % 5 ≠ 0))) ∧ (∀ y ∈ lr, y ≠ 97) ∧ m' 9 7 = m 9 7) ∨ (∀ i, i < cnt m' → m' (14 + 5 * i) 9 ≠ 4 → m' (14 + 5 * i) 9 ≠ 5 → M' 97 i = rsI (m' (14 + 5 * i) 4)))
  (h31 : ((∀ x ∈ lc, (x < 14 ∨ 54 ≤ x ∨ ((x - 14) % 5 ≠ 0 ∧ (x - 14) % 5 ≠ 3))) ∧ (∀ y ∈ lr, y ≠ 109) ∧ m' 9 7 = m 9 7) ∨ (∀ i, i < cnt m' → ∀ k : Nat, (k : Int) < 5 * (m' (14 + 5 * i) 14).toInt → M' 109 (50 * i + k) = m' (14 + 5 * i + 3) k))
  (h32 : ((∀ x ∈ lc, x ≠ 2 ∧ (x < 14 ∨ 54 ≤ x ∨ ((x - 14) % 5 ≠ 0))) ∧ (∀ y ∈ lr, y ≠ 102 ∧ y ≠ 103 ∧ y ≠ 104 ∧ y ≠ 105) ∧ m' 9 7 = m 9 7) ∨ (∀ i, i < cnt m' → M' 102 i = gw m' (ctl m' i + 24) ∧ M' 103 i = gw m' (ctl m' i + 28) ∧ M' 104 i = gw m' (ctl m' i + 32) ∧ M' 105 i = gw m' (ctl m' i + 40)))
  (h33 : ((∀ x ∈ lc, (x < 14 ∨ 54 ≤ x ∨ ((x - 14) % 5 ≠ 0))) ∧ (∀ y ∈ lr, y ≠ 98 ∧ y ≠ 99) ∧ True) ∨ (∀ i, i < 8 → M' 98 i = m' (14 + 5 * i) 15 ∧ M' 99 i = m' (14 + 5 * i) 16)) : Rel m' M' := by
  refine Rel.mk ?_ ?_ ?_ ?_ ?_ ?_ ?_ ?_ ?_ ?_ ?_ ?_ ?_ ?_ ?_ ?_ ?_ ?_ ?_ ?_ ?_ ?_ ?_ ?_ ?_ ?_ ?_ ?_ ?_ ?_ ?_ ?_ ?_ ?_
  · rcases h0 with hn | hn
    · have old := h.tapeLen
      have r66_2 : M' 66 2 = M 66 2 := hn.2.2.1
      have q0_9 : m' 0 9 = m 0 9 := hn.2.2.2
      simp only [r66_2, q0_9]
      exact old
    · exact hn
  · rcases h1 with hn | hn
    · have old := h.on
      have r66_3 : M' 66 3 = M 66 3 := hn.2.2.1
      have q0_10 : m' 0 10 = m 0 10 := hn.2.2.2
      simp only [r66_3, q0_10]
      exact old
    · exact hn
  · rcases h2 with hn | hn
    · have old := h.lost
      have r66_4 : M' 66 4 = M 66 4 := hn.2.2.1
      have q7_4 : m' 7 4 = m 7 4 := hn.2.2.2
      simp only [r66_4, q7_4]
      exact old
    · exact hn
  · rcases h3 with hn | hn
    · have old := h.power
      have r66_5 : M' 66 5 = M 66 5 := hn.2.2.1
      have q7_3 : m' 7 3 = m 7 3 := hn.2.2.2
      simp only [r66_5, q7_3]
      exact old
    · exact hn
  · rcases h4 with hn | hn
    · have old := h.time
      have r66_6 : M' 66 6 = M 66 6 := hn.2.2.1
      have q4_0 : m' 4 0 = m 4 0 := hn.2.2.2
      simp only [r66_6, q4_0]
      exact old
    · exact hn
  · rcases h5 with hn | hn
    · have old := h.z
      have r66_10 : M' 66 10 = M 66 10 := hn.2.2.1
      have q59_7 : m' 59 7 = m 59 7 := hn.2.2.2
      simp only [r66_10, q59_7]
      exact old
    · exact hn
  · rcases h6 with hn | hn
    · have old := h.count
      have r66_34 : M' 66 34 = M 66 34 := hn.2.2.1
      have q9_7 : m' 9 7 = m 9 7 := hn.2.2.2
      simp only [r66_34, q9_7]
      exact old
    · exact hn
  · rcases h7 with hn | hn
    · have old := h.turn
      have r66_70 : M' 66 70 = M 66 70 := hn.2.2.1
      have q54_4 : m' 54 4 = m 54 4 := hn.2.2.2
      simp only [r66_70, q54_4]
      exact old
    · exact hn
  · rcases h8 with hn | hn
    · have old := h.bank
      have r66_17 : M' 66 17 = M 66 17 := hn.2.2.1
      have q7_2 : m' 7 2 = m 7 2 := hn.2.2.2
      simp only [r66_17, q7_2]
      exact old
    · exact hn
  · rcases h9 with hn | hn
    · have old := h.tape
      have e65 : m' 65 = m 65 := hm 65 (fun hx => by have := hn.1 _ hx; omega)
      have f68 : M' 68 = M 68 := hM 68 (fun hx => by have := hn.2.1 _ hx; omega)
      simp only [e65, f68]
      exact old
    · exact hn
  · rcases h10 with hn | hn
    · have old := h.counts
      have e5 : m' 5 = m 5 := hm 5 (fun hx => by have := hn.1 _ hx; omega)
      have f69 : M' 69 = M 69 := hM 69 (fun hx => by have := hn.2.1 _ hx; omega)
      simp only [e5, f69]
      exact old
    · exact hn
  · rcases h11 with hn | hn
    · have old := h.events
      have e6 : m' 6 = m 6 := hm 6 (fun hx => by have := hn.1 _ hx; omega)
      have f74 : M' 74 = M 74 := hM 74 (fun hx => by have := hn.2.1 _ hx; omega)
      simp only [e6, f74]
      exact old
    · exact hn
  · rcases h12 with hn | hn
    · have old := h.out
      have e61 : m' 61 = m 61 := hm 61 (fun hx => by have := hn.1 _ hx; omega)
      have f70 : M' 70 = M 70 := hM 70 (fun hx => by have := hn.2.1 _ hx; omega)
      simp only [e61, f70]
      exact old
    · exact hn
  · rcases h13 with hn | hn
    · have old := h.lamps
      have f71 : M' 71 = M 71 := hM 71 (fun hx => by have := hn.2.1 _ hx; omega)
      have q59_4 : m' 59 4 = m 59 4 := hn.2.2
      simp only [f71, q59_4]
      exact old
    · exact hn
  · rcases h14 with hn | hn
    · have old := h.buttons
      have f72 : M' 72 = M 72 := hM 72 (fun hx => by have := hn.2.1 _ hx; omega)
      have q59_5 : m' 59 5 = m 59 5 := hn.2.2
      simp only [f72, q59_5]
      exact old
    · exact hn
  · rcases h15 with hn | hn
    · have old := h.lev
      have e60 : m' 60 = m 60 := hm 60 (fun hx => by have := hn.1 _ hx; omega)
      have f73 : M' 73 = M 73 := hM 73 (fun hx => by have := hn.2.1 _ hx; omega)
      simp only [e60, f73]
      exact old
    · exact hn
  · rcases h16 with hn | hn
    · have old := h.mem
      have e2 : m' 2 = m 2 := hm 2 (fun hx => by have := hn.1 _ hx; omega)
      have f67 : M' 67 = M 67 := hM 67 (fun hx => by have := hn.2.1 _ hx; omega)
      have q9_7 : m' 9 7 = m 9 7 := hn.2.2
      have p0 : ∀ i, i < cnt m → m' (14 + 5 * i) = m (14 + 5 * i) := fun i hi => hm _ (fun hx => by have := hn.1 _ hx; omega)
      simp only [excl_cg q9_7 p0, e2, f67]
      exact old
    · exact hn
  · rcases h17 with hn | hn
    · have old := h.sched
      have r66_7 : M' 66 7 = M 66 7 := hn.2.2.1
      have r66_8 : M' 66 8 = M 66 8 := hn.2.2.2.1
      have r66_9 : M' 66 9 = M 66 9 := hn.2.2.2.2.1
      have q0_10 : m' 0 10 = m 0 10 := hn.2.2.2.2.2.1
      have q9_8 : m' 9 8 = m 9 8 := hn.2.2.2.2.2.2.1
      have q54_2 : m' 54 2 = m 54 2 := hn.2.2.2.2.2.2.2.1
      have q54_3 : m' 54 3 = m 54 3 := hn.2.2.2.2.2.2.2.2
      simp only [r66_7, r66_8, r66_9, q0_10, q9_8, q54_2, q54_3]
      exact old
    · exact hn
  · rcases h18 with hn | hn
    · have old := h.done
      have r66_71 : M' 66 71 = M 66 71 := hn.2.2.1
      have q0_10 : m' 0 10 = m 0 10 := hn.2.2.2.1
      have q54_2 : m' 54 2 = m 54 2 := hn.2.2.2.2.1
      have q54_4 : m' 54 4 = m 54 4 := hn.2.2.2.2.2.1
      have q54_5 : m' 54 5 = m 54 5 := hn.2.2.2.2.2.2
      simp only [r66_71, q0_10, q54_2, q54_4, q54_5]
      exact old
    · exact hn
  · rcases h19 with hn | hn
    · have old := h.levels
      have e55 : m' 55 = m 55 := hm 55 (fun hx => by have := hn.1 _ hx; omega)
      have e56 : m' 56 = m 56 := hm 56 (fun hx => by have := hn.1 _ hx; omega)
      have f106 : M' 106 = M 106 := hM 106 (fun hx => by have := hn.2.1 _ hx; omega)
      have f107 : M' 107 = M 107 := hM 107 (fun hx => by have := hn.2.1 _ hx; omega)
      have q0_10 : m' 0 10 = m 0 10 := hn.2.2.1
      have q9_7 : m' 9 7 = m 9 7 := hn.2.2.2.1
      have q54_2 : m' 54 2 = m 54 2 := hn.2.2.2.2
      simp only [e55, e56, f106, f107, q0_10, q9_7, q54_2, cnt_cg q9_7]
      exact old
    · exact hn
  · rcases h20 with hn | hn
    · have old := h.places
      have e57 : m' 57 = m 57 := hm 57 (fun hx => by have := hn.1 _ hx; omega)
      have f108 : M' 108 = M 108 := hM 108 (fun hx => by have := hn.2.1 _ hx; omega)
      have q0_10 : m' 0 10 = m 0 10 := hn.2.2.1
      have q9_7 : m' 9 7 = m 9 7 := hn.2.2.2.1
      have q54_2 : m' 54 2 = m 54 2 := hn.2.2.2.2.1
      have q54_9 : m' 54 9 = m 54 9 := hn.2.2.2.2.2
      simp only [e57, f108, q0_10, q9_7, q54_2, q54_9, cnt_cg q9_7]
      exact old
    · exact hn
  · rcases h21 with hn | hn
    · have old := h.asked
      have r66_69 : M' 66 69 = M 66 69 := hn.2.2.1
      have q0_10 : m' 0 10 = m 0 10 := hn.2.2.2.1
      have q59_12 : m' 59 12 = m 59 12 := hn.2.2.2.2
      simp only [r66_69, q0_10, q59_12]
      exact old
    · exact hn
  · rcases h22 with hn | hn
    · have old := h.worder
      have e2 : m' 2 = m 2 := hm 2 (fun hx => by have := hn.1 _ hx; omega)
      have e62 : m' 62 = m 62 := hm 62 (fun hx => by have := hn.1 _ hx; omega)
      have f111 : M' 111 = M 111 := hM 111 (fun hx => by have := hn.2.1 _ hx; omega)
      have q9_7 : m' 9 7 = m 9 7 := hn.2.2
      have p4 : ∀ i, i < cnt m → m' (14 + 5 * i + 4) = m (14 + 5 * i + 4) := fun i hi => hm _ (fun hx => by have := hn.1 _ hx; omega)
      intro i hi
      rw [cnt_cg q9_7] at hi
      simp only [e2, e62, f111, q9_7, p4 i hi, undW_cg e2 (p4 i hi)]
      exact old i hi
    · exact hn
  · rcases h23 with hn | hn
    · have old := h.rorder
      have e2 : m' 2 = m 2 := hm 2 (fun hx => by have := hn.1 _ hx; omega)
      have e63 : m' 63 = m 63 := hm 63 (fun hx => by have := hn.1 _ hx; omega)
      have f112 : M' 112 = M 112 := hM 112 (fun hx => by have := hn.2.1 _ hx; omega)
      have q9_7 : m' 9 7 = m 9 7 := hn.2.2
      have p4 : ∀ i, i < cnt m → m' (14 + 5 * i + 4) = m (14 + 5 * i + 4) := fun i hi => hm _ (fun hx => by have := hn.1 _ hx; omega)
      intro i hi
      rw [cnt_cg q9_7] at hi
      simp only [e2, e63, f112, q9_7, p4 i hi, undR_cg e2 (p4 i hi)]
      exact old i hi
    · exact hn
  · rcases h24 with hn | hn
    · have old := h.ps
      have f79 : M' 79 = M 79 := hM 79 (fun hx => by have := hn.2.1 _ hx; omega)
      have f83 : M' 83 = M 83 := hM 83 (fun hx => by have := hn.2.1 _ hx; omega)
      have f89 : M' 89 = M 89 := hM 89 (fun hx => by have := hn.2.1 _ hx; omega)
      have f90 : M' 90 = M 90 := hM 90 (fun hx => by have := hn.2.1 _ hx; omega)
      have f91 : M' 91 = M 91 := hM 91 (fun hx => by have := hn.2.1 _ hx; omega)
      have f92 : M' 92 = M 92 := hM 92 (fun hx => by have := hn.2.1 _ hx; omega)
      have f94 : M' 94 = M 94 := hM 94 (fun hx => by have := hn.2.1 _ hx; omega)
      have f95 : M' 95 = M 95 := hM 95 (fun hx => by have := hn.2.1 _ hx; omega)
      have f96 : M' 96 = M 96 := hM 96 (fun hx => by have := hn.2.1 _ hx; omega)
      have f98 : M' 98 = M 98 := hM 98 (fun hx => by have := hn.2.1 _ hx; omega)
      have f99 : M' 99 = M 99 := hM 99 (fun hx => by have := hn.2.1 _ hx; omega)
      have f100 : M' 100 = M 100 := hM 100 (fun hx => by have := hn.2.1 _ hx; omega)
      have f101 : M' 101 = M 101 := hM 101 (fun hx => by have := hn.2.1 _ hx; omega)
      have f110 : M' 110 = M 110 := hM 110 (fun hx => by have := hn.2.1 _ hx; omega)
      have q9_7 : m' 9 7 = m 9 7 := hn.2.2
      have p0 : ∀ i, i < cnt m → m' (14 + 5 * i) = m (14 + 5 * i) := fun i hi => hm _ (fun hx => by have := hn.1 _ hx; omega)
      have p1 : ∀ i, i < cnt m → m' (14 + 5 * i + 1) = m (14 + 5 * i + 1) := fun i hi => hm _ (fun hx => by have := hn.1 _ hx; omega)
      intro i hi
      rw [cnt_cg q9_7] at hi
      intro t ht
      have hM2 : M' t.1 = M t.1 := by
        simp only [pst, List.mem_cons, List.not_mem_nil, or_false] at ht
        rcases ht with rfl | rfl | rfl | rfl | rfl | rfl | rfl | rfl | rfl | rfl | rfl | rfl | rfl | rfl
        all_goals first | exact f79 | exact f83 | exact f89 | exact f90 | exact f91 | exact f92 | exact f94 | exact f95 | exact f96 | exact f98 | exact f99 | exact f100 | exact f101 | exact f110
      have hm2 : m' (14 + 5 * i + t.2.1) = m (14 + 5 * i + t.2.1) := by
        simp only [pst, List.mem_cons, List.not_mem_nil, or_false] at ht
        rcases ht with rfl | rfl | rfl | rfl | rfl | rfl | rfl | rfl | rfl | rfl | rfl | rfl | rfl | rfl
        all_goals first | exact p0 i hi | exact p1 i hi
      rw [hM2, hm2]
      exact old i hi t ht
    · exact hn
  · rcases h25 with hn | hn
    · have old := h.app
      have f80 : M' 80 = M 80 := hM 80 (fun hx => by have := hn.2.1 _ hx; omega)
      have f81 : M' 81 = M 81 := hM 81 (fun hx => by have := hn.2.1 _ hx; omega)
      have f82 : M' 82 = M 82 := hM 82 (fun hx => by have := hn.2.1 _ hx; omega)
      have q9_7 : m' 9 7 = m 9 7 := hn.2.2
      have p1 : ∀ i, i < cnt m → m' (14 + 5 * i + 1) = m (14 + 5 * i + 1) := fun i hi => hm _ (fun hx => by have := hn.1 _ hx; omega)
      intro i hi
      rw [cnt_cg q9_7] at hi
      simp only [f80, f81, f82, q9_7, p1 i hi]
      exact old i hi
    · exact hn
  · rcases h26 with hn | hn
    · have old := h.name
      have f84 : M' 84 = M 84 := hM 84 (fun hx => by have := hn.2.1 _ hx; omega)
      have f85 : M' 85 = M 85 := hM 85 (fun hx => by have := hn.2.1 _ hx; omega)
      have q9_7 : m' 9 7 = m 9 7 := hn.2.2
      have p1 : ∀ i, i < cnt m → m' (14 + 5 * i + 1) = m (14 + 5 * i + 1) := fun i hi => hm _ (fun hx => by have := hn.1 _ hx; omega)
      intro i hi
      rw [cnt_cg q9_7] at hi
      simp only [f84, f85, q9_7, p1 i hi]
      exact old i hi
    · exact hn
  · rcases h27 with hn | hn
    · have old := h.number
      have f86 : M' 86 = M 86 := hM 86 (fun hx => by have := hn.2.1 _ hx; omega)
      have q9_7 : m' 9 7 = m 9 7 := hn.2.2
      have p1 : ∀ i, i < cnt m → m' (14 + 5 * i + 1) = m (14 + 5 * i + 1) := fun i hi => hm _ (fun hx => by have := hn.1 _ hx; omega)
      intro i hi
      rw [cnt_cg q9_7] at hi
      simp only [f86, q9_7, p1 i hi]
      exact old i hi
    · exact hn
  · rcases h28 with hn | hn
    · have old := h.bits
      have f87 : M' 87 = M 87 := hM 87 (fun hx => by have := hn.2.1 _ hx; omega)
      have f88 : M' 88 = M 88 := hM 88 (fun hx => by have := hn.2.1 _ hx; omega)
      have q9_7 : m' 9 7 = m 9 7 := hn.2.2
      have p1 : ∀ i, i < cnt m → m' (14 + 5 * i + 1) = m (14 + 5 * i + 1) := fun i hi => hm _ (fun hx => by have := hn.1 _ hx; omega)
      intro i hi
      rw [cnt_cg q9_7] at hi
      simp only [f87, f88, q9_7, p1 i hi]
      exact old i hi
    · exact hn
  · rcases h29 with hn | hn
    · have old := h.regs
      have f93 : M' 93 = M 93 := hM 93 (fun hx => by have := hn.2.1 _ hx; omega)
      have q9_7 : m' 9 7 = m 9 7 := hn.2.2
      have p2 : ∀ i, i < cnt m → m' (14 + 5 * i + 2) = m (14 + 5 * i + 2) := fun i hi => hm _ (fun hx => by have := hn.1 _ hx; omega)
      intro i hi
      rw [cnt_cg q9_7] at hi
      simp only [f93, q9_7, p2 i hi]
      exact old i hi
    · exact hn
  · rcases h30 with hn | hn
    · have old := h.rsv
      have f97 : M' 97 = M 97 := hM 97 (fun hx => by have := hn.2.1 _ hx; omega)
      have q9_7 : m' 9 7 = m 9 7 := hn.2.2
      have p0 : ∀ i, i < cnt m → m' (14 + 5 * i) = m (14 + 5 * i) := fun i hi => hm _ (fun hx => by have := hn.1 _ hx; omega)
      intro i hi
      rw [cnt_cg q9_7] at hi
      simp only [f97, q9_7, p0 i hi]
      exact old i hi
    · exact hn
  · rcases h31 with hn | hn
    · have old := h.queue
      have f109 : M' 109 = M 109 := hM 109 (fun hx => by have := hn.2.1 _ hx; omega)
      have q9_7 : m' 9 7 = m 9 7 := hn.2.2
      have p0 : ∀ i, i < cnt m → m' (14 + 5 * i) = m (14 + 5 * i) := fun i hi => hm _ (fun hx => by have := hn.1 _ hx; omega)
      have p3 : ∀ i, i < cnt m → m' (14 + 5 * i + 3) = m (14 + 5 * i + 3) := fun i hi => hm _ (fun hx => by have := hn.1 _ hx; omega)
      intro i hi
      rw [cnt_cg q9_7] at hi
      simp only [f109, q9_7, p0 i hi, p3 i hi]
      exact old i hi
    · exact hn
  · rcases h32 with hn | hn
    · have old := h.ctlw
      have e2 : m' 2 = m 2 := hm 2 (fun hx => by have := hn.1 _ hx; omega)
      have f102 : M' 102 = M 102 := hM 102 (fun hx => by have := hn.2.1 _ hx; omega)
      have f103 : M' 103 = M 103 := hM 103 (fun hx => by have := hn.2.1 _ hx; omega)
      have f104 : M' 104 = M 104 := hM 104 (fun hx => by have := hn.2.1 _ hx; omega)
      have f105 : M' 105 = M 105 := hM 105 (fun hx => by have := hn.2.1 _ hx; omega)
      have q9_7 : m' 9 7 = m 9 7 := hn.2.2
      have p0 : ∀ i, i < cnt m → m' (14 + 5 * i) = m (14 + 5 * i) := fun i hi => hm _ (fun hx => by have := hn.1 _ hx; omega)
      intro i hi
      rw [cnt_cg q9_7] at hi
      simp only [e2, f102, f103, f104, f105, q9_7, p0 i hi, gw_cg e2, ctl_cg (p0 i hi)]
      exact old i hi
    · exact hn
  · rcases h33 with hn | hn
    · have old := h.wt
      have f98 : M' 98 = M 98 := hM 98 (fun hx => by have := hn.2.1 _ hx; omega)
      have f99 : M' 99 = M 99 := hM 99 (fun hx => by have := hn.2.1 _ hx; omega)
      have p0 : ∀ i, i < 8 → m' (14 + 5 * i) = m (14 + 5 * i) := fun i hi => hm _ (fun hx => by have := hn.1 _ hx; omega)
      intro i hi
      rw [f98, f99, p0 i hi]
      exact old i hi
    · exact hn
set_option maxHeartbeats 4000000 in
theorem PI.upd {m m' : it_Me} {i : Nat} (h : PI m i) (lc : List Nat) (hm : ∀ k, k ∉ lc → m' k = m k)
  (h0 : (∀ x ∈ lc, x ≠ 14 + 5 * i) ∨ (131072 ≤ (m' (14 + 5 * i) 5).toInt ∧ (m' (14 + 5 * i) 5).toInt + (m' (14 + 5 * i) 6).toInt ≤ 196608 ∧ (m' (14 + 5 * i) 6).toInt ∈ ([1024, 2048, 4096, 8192, 16384] : List Int) ∧ (m' (14 + 5 * i) 5).toInt % (m' (14 + 5 * i) 6).toInt = 0))
  (h1 : (∀ x ∈ lc, x ≠ 14 + 5 * i) ∨ ((m' (14 + 5 * i) 5).toInt ≤ (m' (14 + 5 * i) 7).toInt ∧ (m' (14 + 5 * i) 7).toInt ≤ (m' (14 + 5 * i) 8).toInt ∧ (m' (14 + 5 * i) 8).toInt ≤ (ctl m' i).toInt ∧ (m' (14 + 5 * i) 7).toInt % 4 = 0 ∧ (m' (14 + 5 * i) 8).toInt % 4 = 0))
  (h2 : (∀ x ∈ lc, x ≠ 14 + 5 * i + 1) ∨ (65536 ≤ (m' (14 + 5 * i + 1) 1).toInt ∧ (m' (14 + 5 * i + 1) 1).toInt % 4 = 0 ∧ (m' (14 + 5 * i + 1) 3).toInt % 4 = 0 ∧ 16 ≤ (m' (14 + 5 * i + 1) 2).toInt ∧ (m' (14 + 5 * i + 1) 2).toInt ≤ 512 ∧ (m' (14 + 5 * i + 1) 2).toInt % 4 = 0 ∧ (m' (14 + 5 * i + 1) 2).toInt ≤ (m' (14 + 5 * i + 1) 3).toInt ∧ (m' (14 + 5 * i + 1) 1).toInt + (m' (14 + 5 * i + 1) 3).toInt ≤ 126976))
  (h3 : (∀ x ∈ lc, x ≠ 2 ∧ x ≠ 14 + 5 * i + 1) ∨ (m' (14 + 5 * i + 1) 2 = gh m' (m' (14 + 5 * i + 1) 1 + 2)))
  (h4 : (∀ x ∈ lc, x ≠ 14 + 5 * i ∧ x ≠ 14 + 5 * i + 1) ∨ (0 ≤ (m' (14 + 5 * i + 1) 5).toInt ∧ (m' (14 + 5 * i + 1) 5).toInt + 512 ≤ (m' (14 + 5 * i) 6).toInt))
  (h5 : (∀ x ∈ lc, x ≠ 14 + 5 * i) ∨ (1 ≤ (m' (14 + 5 * i) 9).toInt ∧ (m' (14 + 5 * i) 9).toInt ≤ 5))
  (h6 : (∀ x ∈ lc, x ≠ 14 + 5 * i) ∨ (m' (14 + 5 * i) 10 = 0 ∨ m' (14 + 5 * i) 10 = 1))
  (h7 : (∀ x ∈ lc, x ≠ 14 + 5 * i) ∨ (0 ≤ (m' (14 + 5 * i) 14).toInt ∧ (m' (14 + 5 * i) 14).toInt ≤ 10))
  (h8 : (∀ x ∈ lc, x ≠ 14 + 5 * i ∧ x ≠ 14 + 5 * i + 3 ∧ x ≠ 14 + 5 * i + 4) ∨ (∀ k : Nat, (k : Int) < (m' (14 + 5 * i) 14).toInt → ∃ d, d < 9 ∧ m' (14 + 5 * i + 3) (5 * k) = nI d ∧ m' (14 + 5 * i + 4) d ≠ 0 ∧ 0 ≤ (m' (14 + 5 * i + 3) (5 * k + 1)).toInt ∧ (m' (14 + 5 * i + 3) (5 * k + 1)).toInt < (sbN d : Nat)))
  (h9 : (∀ x ∈ lc, x ≠ 2 ∧ x ≠ 14 + 5 * i ∧ x ≠ 14 + 5 * i + 4) ∨ (∃ ds : List Nat, Ch m' i (m' (14 + 5 * i) 8) ds ∧ ds.Nodup ∧ (∀ d, d < 9 → d ∉ ds → m' (14 + 5 * i + 4) d = 0) ∧ m' (14 + 5 * i) 18 = nI ds.length))
  (h10 : (∀ x ∈ lc, x ≠ 2 ∧ x ≠ 14 + 5 * i ∧ x ≠ 14 + 5 * i + 1 ∧ x ≠ 14 + 5 * i + 4) ∨ (∀ d, d < 9 → m' (14 + 5 * i + 4) d ≠ 0 → ∀ k, k < rbN d + wbN d → Bf m' i (gw m' (m' (14 + 5 * i + 4) d + nI (8 * (1 + sbN d + k)))) (gw m' (m' (14 + 5 * i + 4) d + nI (8 * (1 + sbN d + k) + 4))) (rbN d ≤ k)))
  (h11 : (∀ x ∈ lc, x ≠ 2 ∧ x ≠ 14 + 5 * i + 4) ∨ (m' (14 + 5 * i + 4) 1 ≠ 0 → ∀ k, k < 4 → 0 ≤ (gw m' (m' (14 + 5 * i + 4) 1 + nI (64 + 4 * k))).toInt ∧ (gw m' (m' (14 + 5 * i + 4) 1 + nI (64 + 4 * k))).toInt ≤ 65536))
  (h12 : (∀ x ∈ lc, x ≠ 2 ∧ x ≠ 14 + 5 * i + 4) ∨ (m' (14 + 5 * i + 4) 6 ≠ 0 → 0 ≤ (gw m' (m' (14 + 5 * i + 4) 6 + 16)).toInt ∧ (gw m' (m' (14 + 5 * i + 4) 6 + 16)).toInt ≤ 2))
  (h13 : (∀ x ∈ lc, x ≠ 2 ∧ x ≠ 14 + 5 * i ∧ x ≠ 14 + 5 * i + 4) ∨ (m' (14 + 5 * i) 9 = 4 ∨ m' (14 + 5 * i) 9 = 5 → m' (14 + 5 * i) 14 = 0 ∧ ∀ d, d < 9 → m' (14 + 5 * i + 4) d ≠ 0 → ∀ k, k < owN d → gw m' (m' (14 + 5 * i + 4) d + nI (owA d + 4 * k)) = 0))
  (h14 : (∀ x ∈ lc, x ≠ 14 + 5 * i + 1) ∨ (m' (14 + 5 * i + 1) 10 = 0 ∨ (m' (14 + 5 * i + 1) 1).toInt ≤ (m' (14 + 5 * i + 1) 10).toInt ∧ 1 ≤ (m' (14 + 5 * i + 1) 11).toInt ∧ (m' (14 + 5 * i + 1) 11).toInt ≤ 16 ∧ (m' (14 + 5 * i + 1) 10).toInt + (m' (14 + 5 * i + 1) 11).toInt ≤ 126976))
  (h15 : (∀ x ∈ lc, x ≠ 14 + 5 * i + 1) ∨ (m' (14 + 5 * i + 1) 12 = 0 ∨ 65536 ≤ (m' (14 + 5 * i + 1) 12).toInt ∧ (m' (14 + 5 * i + 1) 12).toInt % 4 = 0 ∧ (m' (14 + 5 * i + 1) 12).toInt + 4 ≤ 126976))
  (h16 : (∀ x ∈ lc, x ≠ 14 + 5 * i + 1) ∨ (m' (14 + 5 * i + 1) 13 = 0 ∨ 65536 ≤ (m' (14 + 5 * i + 1) 13).toInt ∧ (m' (14 + 5 * i + 1) 13).toInt % 4 = 0 ∧ 8 ≤ (m' (14 + 5 * i + 1) 14).toInt ∧ (m' (14 + 5 * i + 1) 14).toInt ≤ 64 ∧ (m' (14 + 5 * i + 1) 14).toInt % 8 = 0 ∧ (m' (14 + 5 * i + 1) 13).toInt + (m' (14 + 5 * i + 1) 14).toInt ≤ 126976))
  (h17 : (∀ x ∈ lc, x ≠ 2 ∧ x ≠ 14 + 5 * i) ∨ (∀ k, k < 5 → gw m' (ctl m' i + nI (44 + 4 * k)) = 0))
  (h18 : (∀ x ∈ lc, x ≠ 14 + 5 * i) ∨ ((m' (14 + 5 * i) 3).toInt % 2 = 0))
  (h19 : (∀ x ∈ lc, x ≠ 2 ∧ x ≠ 14 + 5 * i + 4) ∨ (∀ d, d < 9 → m' (14 + 5 * i + 4) d ≠ 0 → ∀ n, n < sbN d → (gw m' (m' (14 + 5 * i + 4) d + nI (8 * (1 + n)))).toInt % 2 = 0))
  (h20 : (∀ x ∈ lc, x ≠ 14 + 5 * i + 2) ∨ (m' (14 + 5 * i + 2) 0 = 0)) : PI m' i := by
  refine PI.mk ?_ ?_ ?_ ?_ ?_ ?_ ?_ ?_ ?_ ?_ ?_ ?_ ?_ ?_ ?_ ?_ ?_ ?_ ?_ ?_ ?_
  · rcases h0 with hn | hn
    · have old := h.blk
      have p0 : m' (14 + 5 * i) = m (14 + 5 * i) := hm _ (fun hx => by have := hn _ hx; omega)
      simp only [p0]
      exact old
    · exact hn
  · rcases h1 with hn | hn
    · have old := h.ord
      have p0 : m' (14 + 5 * i) = m (14 + 5 * i) := hm _ (fun hx => by have := hn _ hx; omega)
      simp only [p0, ctl_cg p0]
      exact old
    · exact hn
  · rcases h2 with hn | hn
    · have old := h.app
      have p1 : m' (14 + 5 * i + 1) = m (14 + 5 * i + 1) := hm _ (fun hx => by have := hn _ hx; omega)
      simp only [p1]
      exact old
    · exact hn
  · rcases h3 with hn | hn
    · have old := h.hd
      have e2 : m' 2 = m 2 := hm 2 (fun hx => by have := hn _ hx; omega)
      have p1 : m' (14 + 5 * i + 1) = m (14 + 5 * i + 1) := hm _ (fun hx => by have := hn _ hx; omega)
      simp only [e2, p1, gh_cg e2]
      exact old
    · exact hn
  · rcases h4 with hn | hn
    · have old := h.ram
      have p0 : m' (14 + 5 * i) = m (14 + 5 * i) := hm _ (fun hx => by have := hn _ hx; omega)
      have p1 : m' (14 + 5 * i + 1) = m (14 + 5 * i + 1) := hm _ (fun hx => by have := hn _ hx; omega)
      simp only [p0, p1]
      exact old
    · exact hn
  · rcases h5 with hn | hn
    · have old := h.st
      have p0 : m' (14 + 5 * i) = m (14 + 5 * i) := hm _ (fun hx => by have := hn _ hx; omega)
      simp only [p0]
      exact old
    · exact hn
  · rcases h6 with hn | hn
    · have old := h.he
      have p0 : m' (14 + 5 * i) = m (14 + 5 * i) := hm _ (fun hx => by have := hn _ hx; omega)
      simp only [p0]
      exact old
    · exact hn
  · rcases h7 with hn | hn
    · have old := h.qn
      have p0 : m' (14 + 5 * i) = m (14 + 5 * i) := hm _ (fun hx => by have := hn _ hx; omega)
      simp only [p0]
      exact old
    · exact hn
  · rcases h8 with hn | hn
    · have old := h.q
      have p0 : m' (14 + 5 * i) = m (14 + 5 * i) := hm _ (fun hx => by have := hn _ hx; omega)
      have p3 : m' (14 + 5 * i + 3) = m (14 + 5 * i + 3) := hm _ (fun hx => by have := hn _ hx; omega)
      have p4 : m' (14 + 5 * i + 4) = m (14 + 5 * i + 4) := hm _ (fun hx => by have := hn _ hx; omega)
      simp only [p0, p3, p4]
      exact old
    · exact hn
  · rcases h9 with hn | hn
    · have old := h.gr
      have e2 : m' 2 = m 2 := hm 2 (fun hx => by have := hn _ hx; omega)
      have p0 : m' (14 + 5 * i) = m (14 + 5 * i) := hm _ (fun hx => by have := hn _ hx; omega)
      have p4 : m' (14 + 5 * i + 4) = m (14 + 5 * i + 4) := hm _ (fun hx => by have := hn _ hx; omega)
      simp only [e2, p0, p4, Ch_cg e2 p0 p4]
      exact old
    · exact hn
  · rcases h10 with hn | hn
    · have old := h.bf
      have e2 : m' 2 = m 2 := hm 2 (fun hx => by have := hn _ hx; omega)
      have p0 : m' (14 + 5 * i) = m (14 + 5 * i) := hm _ (fun hx => by have := hn _ hx; omega)
      have p1 : m' (14 + 5 * i + 1) = m (14 + 5 * i + 1) := hm _ (fun hx => by have := hn _ hx; omega)
      have p4 : m' (14 + 5 * i + 4) = m (14 + 5 * i + 4) := hm _ (fun hx => by have := hn _ hx; omega)
      simp only [e2, p0, p1, p4, gw_cg e2, Bf_cg p0 p1]
      exact old
    · exact hn
  · rcases h11 with hn | hn
    · have old := h.ow1
      have e2 : m' 2 = m 2 := hm 2 (fun hx => by have := hn _ hx; omega)
      have p4 : m' (14 + 5 * i + 4) = m (14 + 5 * i + 4) := hm _ (fun hx => by have := hn _ hx; omega)
      simp only [e2, p4, gw_cg e2]
      exact old
    · exact hn
  · rcases h12 with hn | hn
    · have old := h.ow6
      have e2 : m' 2 = m 2 := hm 2 (fun hx => by have := hn _ hx; omega)
      have p4 : m' (14 + 5 * i + 4) = m (14 + 5 * i + 4) := hm _ (fun hx => by have := hn _ hx; omega)
      simp only [e2, p4, gw_cg e2]
      exact old
    · exact hn
  · rcases h13 with hn | hn
    · have old := h.ovr
      have e2 : m' 2 = m 2 := hm 2 (fun hx => by have := hn _ hx; omega)
      have p0 : m' (14 + 5 * i) = m (14 + 5 * i) := hm _ (fun hx => by have := hn _ hx; omega)
      have p4 : m' (14 + 5 * i + 4) = m (14 + 5 * i + 4) := hm _ (fun hx => by have := hn _ hx; omega)
      simp only [e2, p0, p4, gw_cg e2]
      exact old
    · exact hn
  · rcases h14 with hn | hn
    · have old := h.nm
      have p1 : m' (14 + 5 * i + 1) = m (14 + 5 * i + 1) := hm _ (fun hx => by have := hn _ hx; omega)
      simp only [p1]
      exact old
    · exact hn
  · rcases h15 with hn | hn
    · have old := h.so
      have p1 : m' (14 + 5 * i + 1) = m (14 + 5 * i + 1) := hm _ (fun hx => by have := hn _ hx; omega)
      simp only [p1]
      exact old
    · exact hn
  · rcases h16 with hn | hn
    · have old := h.pm
      have p1 : m' (14 + 5 * i + 1) = m (14 + 5 * i + 1) := hm _ (fun hx => by have := hn _ hx; omega)
      simp only [p1]
      exact old
    · exact hn
  · rcases h17 with hn | hn
    · have old := h.cz
      have e2 : m' 2 = m 2 := hm 2 (fun hx => by have := hn _ hx; omega)
      have p0 : m' (14 + 5 * i) = m (14 + 5 * i) := hm _ (fun hx => by have := hn _ hx; omega)
      simp only [e2, p0, gw_cg e2, ctl_cg p0]
      exact old
    · exact hn
  · rcases h18 with hn | hn
    · have old := h.pce
      have p0 : m' (14 + 5 * i) = m (14 + 5 * i) := hm _ (fun hx => by have := hn _ hx; omega)
      simp only [p0]
      exact old
    · exact hn
  · rcases h19 with hn | hn
    · have old := h.sfe
      have e2 : m' 2 = m 2 := hm 2 (fun hx => by have := hn _ hx; omega)
      have p4 : m' (14 + 5 * i + 4) = m (14 + 5 * i + 4) := hm _ (fun hx => by have := hn _ hx; omega)
      simp only [e2, p4, gw_cg e2]
      exact old
    · exact hn
  · rcases h20 with hn | hn
    · have old := h.r0
      have p2 : m' (14 + 5 * i + 2) = m (14 + 5 * i + 2) := hm _ (fun hx => by have := hn _ hx; omega)
      simp only [p2]
      exact old
    · exact hn
set_option maxHeartbeats 4000000 in
theorem Inv.upd {B B' : Nat} {m m' : it_Me} (h : Inv B m) (hB : B ≤ B') (lc : List Nat) (hm : ∀ k, k ∉ lc → m' k = m k)
  (h0 : ((∀ x ∈ lc, True) ∧ m' 0 9 = m 0 9) ∨ (0 ≤ (m' 0 9).toInt ∧ (m' 0 9).toInt ≤ 8192))
  (h1 : ((∀ x ∈ lc, x ≠ 65) ∧ True) ∨ (∀ i, it_i2b (m' 65 i) = m' 65 i))
  (h2 : ((∀ x ∈ lc, True) ∧ m' 0 10 = m 0 10) ∨ (m' 0 10 = 0 ∨ m' 0 10 = 1))
  (h3 : ((∀ x ∈ lc, x ≠ 2) ∧ m' 0 10 = m 0 10 ∧ m' 4 0 = m 4 0 ∧ m' 9 7 = m 9 7) ∨ (m' 0 10 = 0 → m' 9 7 = 0 ∧ m' 4 0 = 0 ∧ ∀ w, 16384 ≤ w → w < 32768 → m' 2 w = 0))
  (h4 : ((∀ x ∈ lc, True) ∧ m' 9 7 = m 9 7) ∨ (0 ≤ (m' 9 7).toInt ∧ (m' 9 7).toInt ≤ 8))
  (h5 : ((∀ x ∈ lc, x ≠ 5) ∧ m' 4 3 = m 4 3 ∧ m' 4 4 = m 4 4) ∨ (0 ≤ (m' 5 11).toInt ∧ (m' 5 11).toInt ≤ B' ∧ (m' 4 3).toInt = (m' 5 11).toInt % 200 ∧ (m' 4 4).toInt = min (m' 5 11).toInt 200))
  (h6 : ((∀ x ∈ lc, x ≠ 5) ∧ m' 59 9 = m 59 9) ∨ (0 ≤ (m' 5 3).toInt ∧ (m' 5 3).toInt ≤ B' ∧ (m' 59 9).toInt = min (m' 5 3).toInt 4000))
  (h7 : ((∀ x ∈ lc, (x < 14 ∨ 54 ≤ x ∨ ((x - 14) % 5 ≠ 0))) ∧ True) ∨ (∀ i, i < 8 → m' (14 + 5 * i) 0 = nI i))
  (h8 : ((∀ x ∈ lc, x ≠ 3) ∧ True) ∨ (∀ i, i < 256 → m' 3 i = it_tab i))
  (h9 : ((∀ x ∈ lc, True) ∧ m' 7 2 = m 7 2) ∨ (m' 7 2 = 0 ∨ m' 7 2 = 126976 ∨ m' 7 2 = 129024))
  (h10 : ((∀ x ∈ lc, True) ∧ m' 0 10 = m 0 10 ∧ m' 7 2 = m 7 2) ∨ (m' 0 10 = 1 → m' 7 2 ≠ 0))
  (h11 : ((∀ x ∈ lc, True) ∧ m' 7 3 = m 7 3) ∨ (-1 ≤ (m' 7 3).toInt ∧ (m' 7 3).toInt ≤ 10000))
  (h12 : ((∀ x ∈ lc, True) ∧ m' 0 10 = m 0 10 ∧ m' 54 2 = m 54 2 ∧ m' 54 3 = m 54 3) ∨ (m' 0 10 = 1 → (m' 54 2 = 0 ∨ m' 54 2 = 1 ∨ m' 54 2 = 2) ∧ 1 ≤ (m' 54 3).toInt ∧ (m' 54 3).toInt ≤ 1000))
  (h13 : ((∀ x ∈ lc, True) ∧ m' 0 10 = m 0 10 ∧ m' 9 7 = m 9 7 ∧ m' 54 4 = m 54 4) ∨ (m' 0 10 = 1 → -1 ≤ (m' 54 4).toInt ∧ (m' 54 4).toInt < (m' 9 7).toInt))
  (h14 : ((∀ x ∈ lc, True) ∧ m' 0 10 = m 0 10 ∧ m' 59 12 = m 59 12) ∨ (m' 0 10 = 1 → 0 ≤ (m' 59 12).toInt ∧ (m' 59 12).toInt ≤ B'))
  (h15 : ((∀ x ∈ lc, x ≠ 2 ∧ x ≠ 62 ∧ (x < 14 ∨ 54 ≤ x ∨ ((x - 14) % 5 ≠ 4))) ∧ m' 0 10 = m 0 10 ∧ m' 9 7 = m 9 7 ∧ m' 59 12 = m 59 12) ∨ (m' 0 10 = 1 → ∀ i, i < cnt m' → undW m' i → 0 ≤ (m' 62 i).toInt ∧ (m' 62 i).toInt < (m' 59 12).toInt))
  (h16 : ((∀ x ∈ lc, x ≠ 2 ∧ x ≠ 63 ∧ (x < 14 ∨ 54 ≤ x ∨ ((x - 14) % 5 ≠ 4))) ∧ m' 0 10 = m 0 10 ∧ m' 9 7 = m 9 7 ∧ m' 59 12 = m 59 12) ∨ (m' 0 10 = 1 → ∀ i, i < cnt m' → undR m' i → 0 ≤ (m' 63 i).toInt ∧ (m' 63 i).toInt < (m' 59 12).toInt))
  (h17 : ((∀ x ∈ lc, x ≠ 55) ∧ m' 0 10 = m 0 10 ∧ m' 54 2 = m 54 2) ∨ (m' 0 10 = 1 → m' 54 2 ≠ 2 → ∀ i, i < 8 → m' 55 i = 0))
  (h18 : ((∀ x ∈ lc, x ≠ 55 ∧ x ≠ 56) ∧ m' 0 10 = m 0 10 ∧ m' 9 7 = m 9 7 ∧ m' 54 2 = m 54 2) ∨ (m' 0 10 = 1 → m' 54 2 = 2 → ∀ i, i < cnt m' → 0 ≤ (m' 55 i).toInt ∧ (m' 55 i).toInt ≤ 2 ∧ 0 ≤ (m' 56 i).toInt ∧ (m' 56 i).toInt ≤ B'))
  (h19 : ((∀ x ∈ lc, x ≠ 57) ∧ m' 0 10 = m 0 10 ∧ m' 9 7 = m 9 7 ∧ m' 54 2 = m 54 2 ∧ m' 54 9 = m 54 9) ∨ (m' 0 10 = 1 → m' 54 2 = 2 → 0 ≤ (m' 54 9).toInt ∧ (m' 54 9).toInt ≤ B' + 7 ∧ (∀ i, i < cnt m' → 0 ≤ (m' 57 i).toInt ∧ (m' 57 i).toInt ≤ (m' 54 9).toInt) ∧ ∀ i j, i < cnt m' → j < cnt m' → m' 57 i = m' 57 j → i = j))
  (h20 : ((∀ x ∈ lc, x ≠ 2 ∧ (x < 14 ∨ 54 ≤ x ∨ ((x - 14) % 5 ≠ 0 ∧ (x - 14) % 5 ≠ 1 ∧ (x - 14) % 5 ≠ 2 ∧ (x - 14) % 5 ≠ 3 ∧ (x - 14) % 5 ≠ 4))) ∧ m' 0 10 = m 0 10 ∧ m' 9 7 = m 9 7) ∨ (m' 0 10 = 1 → ∀ i, i < cnt m' → PI m' i))
  (h21 : ((∀ x ∈ lc, (x < 14 ∨ 54 ≤ x ∨ ((x - 14) % 5 ≠ 0))) ∧ m' 0 10 = m 0 10 ∧ m' 9 7 = m 9 7) ∨ (m' 0 10 = 1 → ∀ i j, j < cnt m' → i < j → (m' (14 + 5 * i) 5).toInt + (m' (14 + 5 * i) 6).toInt ≤ (m' (14 + 5 * j) 5).toInt)) : Inv B' m' := by
  have hc := cnt_le h
  refine Inv.mk ?_ ?_ ?_ ?_ ?_ ?_ ?_ ?_ ?_ ?_ ?_ ?_ ?_ ?_ ?_ ?_ ?_ ?_ ?_ ?_ ?_ ?_
  · rcases h0 with hn | hn
    · have old := h.tl
      have q0_9 : m' 0 9 = m 0 9 := hn.2
      simp only [q0_9]
      exact old
    · exact hn
  · rcases h1 with hn | hn
    · have old := h.tp
      have e65 : m' 65 = m 65 := hm 65 (fun hx => by have := hn.1 _ hx; omega)
      simp only [e65]
      exact old
    · exact hn
  · rcases h2 with hn | hn
    · have old := h.on
      have q0_10 : m' 0 10 = m 0 10 := hn.2
      simp only [q0_10]
      exact old
    · exact hn
  · rcases h3 with hn | hn
    · have old := h.off
      have e2 : m' 2 = m 2 := hm 2 (fun hx => by have := hn.1 _ hx; omega)
      have q0_10 : m' 0 10 = m 0 10 := hn.2.1
      have q4_0 : m' 4 0 = m 4 0 := hn.2.2.1
      have q9_7 : m' 9 7 = m 9 7 := hn.2.2.2
      simp only [e2, q0_10, q4_0, q9_7]
      exact old
    · exact hn
  · rcases h4 with hn | hn
    · have old := h.cn
      have q9_7 : m' 9 7 = m 9 7 := hn.2
      simp only [q9_7]
      exact old
    · exact hn
  · rcases h5 with hn | hn
    · have old := h.ev
      have e5 : m' 5 = m 5 := hm 5 (fun hx => by have := hn.1 _ hx; omega)
      have q4_3 : m' 4 3 = m 4 3 := hn.2.1
      have q4_4 : m' 4 4 = m 4 4 := hn.2.2
      simp only [e5, q4_3, q4_4]
      exact ⟨old.1, by omega, old.2.2⟩
    · exact hn
  · rcases h6 with hn | hn
    · have old := h.out
      have e5 : m' 5 = m 5 := hm 5 (fun hx => by have := hn.1 _ hx; omega)
      have q59_9 : m' 59 9 = m 59 9 := hn.2
      simp only [e5, q59_9]
      exact ⟨old.1, by omega, old.2.2⟩
    · exact hn
  · rcases h7 with hn | hn
    · have old := h.num
      intro i hi
      rw [hm (14 + 5 * i) (fun hx => by have := hn.1 _ hx; omega)]
      exact old i hi
    · exact hn
  · rcases h8 with hn | hn
    · have old := h.crc
      have e3 : m' 3 = m 3 := hm 3 (fun hx => by have := hn.1 _ hx; omega)
      simp only [e3]
      exact old
    · exact hn
  · rcases h9 with hn | hn
    · have old := h.bk
      have q7_2 : m' 7 2 = m 7 2 := hn.2
      simp only [q7_2]
      exact old
    · exact hn
  · rcases h10 with hn | hn
    · have old := h.bk1
      have q0_10 : m' 0 10 = m 0 10 := hn.2.1
      have q7_2 : m' 7 2 = m 7 2 := hn.2.2
      simp only [q0_10, q7_2]
      exact old
    · exact hn
  · rcases h11 with hn | hn
    · have old := h.pw
      have q7_3 : m' 7 3 = m 7 3 := hn.2
      simp only [q7_3]
      exact old
    · exact hn
  · rcases h12 with hn | hn
    · have old := h.kd
      have q0_10 : m' 0 10 = m 0 10 := hn.2.1
      have q54_2 : m' 54 2 = m 54 2 := hn.2.2.1
      have q54_3 : m' 54 3 = m 54 3 := hn.2.2.2
      simp only [q0_10, q54_2, q54_3]
      exact old
    · exact hn
  · rcases h13 with hn | hn
    · have old := h.tn
      have q0_10 : m' 0 10 = m 0 10 := hn.2.1
      have q9_7 : m' 9 7 = m 9 7 := hn.2.2.1
      have q54_4 : m' 54 4 = m 54 4 := hn.2.2.2
      simp only [q0_10, q9_7, q54_4]
      exact old
    · exact hn
  · rcases h14 with hn | hn
    · have old := h.ask
      have q0_10 : m' 0 10 = m 0 10 := hn.2.1
      have q59_12 : m' 59 12 = m 59 12 := hn.2.2
      simp only [q0_10, q59_12]
      exact fun h1 => ⟨(old h1).1, by have := (old h1).2; omega⟩
    · exact hn
  · rcases h15 with hn | hn
    · have old := h.askW
      have e2 : m' 2 = m 2 := hm 2 (fun hx => by have := hn.1 _ hx; omega)
      have e62 : m' 62 = m 62 := hm 62 (fun hx => by have := hn.1 _ hx; omega)
      have q0_10 : m' 0 10 = m 0 10 := hn.2.1
      have q9_7 : m' 9 7 = m 9 7 := hn.2.2.1
      have q59_12 : m' 59 12 = m 59 12 := hn.2.2.2
      rw [q0_10, cnt_cg q9_7, q59_12, e62]
      intro h1 i hi hu
      have p4 : m' (14 + 5 * i + 4) = m (14 + 5 * i + 4) := hm _ (fun hx => by have := hn.1 _ hx; omega)
      exact old h1 i hi ((undW_cg e2 p4).mp hu)
    · exact hn
  · rcases h16 with hn | hn
    · have old := h.askR
      have e2 : m' 2 = m 2 := hm 2 (fun hx => by have := hn.1 _ hx; omega)
      have e63 : m' 63 = m 63 := hm 63 (fun hx => by have := hn.1 _ hx; omega)
      have q0_10 : m' 0 10 = m 0 10 := hn.2.1
      have q9_7 : m' 9 7 = m 9 7 := hn.2.2.1
      have q59_12 : m' 59 12 = m 59 12 := hn.2.2.2
      rw [q0_10, cnt_cg q9_7, q59_12, e63]
      intro h1 i hi hu
      have p4 : m' (14 + 5 * i + 4) = m (14 + 5 * i + 4) := hm _ (fun hx => by have := hn.1 _ hx; omega)
      exact old h1 i hi ((undR_cg e2 p4).mp hu)
    · exact hn
  · rcases h17 with hn | hn
    · have old := h.lv0
      have e55 : m' 55 = m 55 := hm 55 (fun hx => by have := hn.1 _ hx; omega)
      have q0_10 : m' 0 10 = m 0 10 := hn.2.1
      have q54_2 : m' 54 2 = m 54 2 := hn.2.2
      simp only [e55, q0_10, q54_2]
      exact old
    · exact hn
  · rcases h18 with hn | hn
    · have old := h.lv2
      have e55 : m' 55 = m 55 := hm 55 (fun hx => by have := hn.1 _ hx; omega)
      have e56 : m' 56 = m 56 := hm 56 (fun hx => by have := hn.1 _ hx; omega)
      have q0_10 : m' 0 10 = m 0 10 := hn.2.1
      have q9_7 : m' 9 7 = m 9 7 := hn.2.2.1
      have q54_2 : m' 54 2 = m 54 2 := hn.2.2.2
      simp only [e55, e56, q0_10, q9_7, q54_2, cnt_cg q9_7]
      exact fun h1 h2 i hi => ⟨(old h1 h2 i hi).1, (old h1 h2 i hi).2.1, (old h1 h2 i hi).2.2.1, by have := (old h1 h2 i hi).2.2.2; omega⟩
    · exact hn
  · rcases h19 with hn | hn
    · have old := h.pl
      have e57 : m' 57 = m 57 := hm 57 (fun hx => by have := hn.1 _ hx; omega)
      have q0_10 : m' 0 10 = m 0 10 := hn.2.1
      have q9_7 : m' 9 7 = m 9 7 := hn.2.2.1
      have q54_2 : m' 54 2 = m 54 2 := hn.2.2.2.1
      have q54_9 : m' 54 9 = m 54 9 := hn.2.2.2.2
      simp only [e57, q0_10, q9_7, q54_2, q54_9, cnt_cg q9_7]
      exact fun h1 h2 => ⟨(old h1 h2).1, by have := (old h1 h2).2.1; omega, (old h1 h2).2.2⟩
    · exact hn
  · rcases h20 with hn | hn
    · have old := h.pi
      have e2 : m' 2 = m 2 := hm 2 (fun hx => by have := hn.1 _ hx; omega)
      have q0_10 : m' 0 10 = m 0 10 := hn.2.1
      have q9_7 : m' 9 7 = m 9 7 := hn.2.2
      rw [q0_10, cnt_cg q9_7]
      intro h1 i hi
      refine (old h1 i hi).upd lc hm (Or.inl (fun x hx => by have := hn.1 x hx; omega)) (Or.inl (fun x hx => by have := hn.1 x hx; omega)) (Or.inl (fun x hx => by have := hn.1 x hx; omega)) (Or.inl (fun x hx => by have := hn.1 x hx; omega)) (Or.inl (fun x hx => by have := hn.1 x hx; omega)) (Or.inl (fun x hx => by have := hn.1 x hx; omega)) (Or.inl (fun x hx => by have := hn.1 x hx; omega)) (Or.inl (fun x hx => by have := hn.1 x hx; omega)) (Or.inl (fun x hx => by have := hn.1 x hx; omega)) (Or.inl (fun x hx => by have := hn.1 x hx; omega)) (Or.inl (fun x hx => by have := hn.1 x hx; omega)) (Or.inl (fun x hx => by have := hn.1 x hx; omega)) (Or.inl (fun x hx => by have := hn.1 x hx; omega)) (Or.inl (fun x hx => by have := hn.1 x hx; omega)) (Or.inl (fun x hx => by have := hn.1 x hx; omega)) (Or.inl (fun x hx => by have := hn.1 x hx; omega)) (Or.inl (fun x hx => by have := hn.1 x hx; omega)) (Or.inl (fun x hx => by have := hn.1 x hx; omega)) (Or.inl (fun x hx => by have := hn.1 x hx; omega)) (Or.inl (fun x hx => by have := hn.1 x hx; omega)) (Or.inl (fun x hx => by have := hn.1 x hx; omega))
    · exact hn
  · rcases h21 with hn | hn
    · have old := h.dis
      have q0_10 : m' 0 10 = m 0 10 := hn.2.1
      have q9_7 : m' 9 7 = m 9 7 := hn.2.2
      rw [q0_10, cnt_cg q9_7]
      intro h1 i j hj hij
      rw [hm (14 + 5 * i) (fun hx => by have := hn.1 _ hx; omega), hm (14 + 5 * j) (fun hx => by have := hn.1 _ hx; omega)]
      exact old h1 i j hj hij
    · exact hn
