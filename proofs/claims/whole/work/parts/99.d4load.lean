/-! The reference begins its processes. -/
def p10 (N : it_Me) (i : Nat) : it_Me := it_sv (it_sv (it_sv (it_sv (it_sv (it_sv (it_sv (it_sv (it_sv (it_sv N 96 i 0) 100 i 0) 101 i 0) 102 i 0) 103 i 0) 104 i 0) 105 i 0) 106 i 0) 107 i 0) 108 i (nI i)
theorem p10_f (N : it_Me) (i : Nat) {k : Nat} (h : k < 96 ∨ k = 97 ∨ k = 98 ∨ k = 99 ∨ 108 < k) : p10 N i k = N k := by
  unfold p10
  rw [sv_cell _ _ _ _ (by omega), sv_cell _ _ _ _ (by omega), sv_cell _ _ _ _ (by omega), sv_cell _ _ _ _ (by omega), sv_cell _ _ _ _ (by omega), sv_cell _ _ _ _ (by omega), sv_cell _ _ _ _ (by omega), sv_cell _ _ _ _ (by omega), sv_cell _ _ _ _ (by omega), sv_cell _ _ _ _ (by omega)]
theorem p10_o (N : it_Me) (i : Nat) {k j : Nat} (h : j ≠ i) : p10 N i k j = N k j := by
  unfold p10
  rw [sv_ne _ _ _ _ (Or.inr h), sv_ne _ _ _ _ (Or.inr h), sv_ne _ _ _ _ (Or.inr h), sv_ne _ _ _ _ (Or.inr h), sv_ne _ _ _ _ (Or.inr h), sv_ne _ _ _ _ (Or.inr h), sv_ne _ _ _ _ (Or.inr h), sv_ne _ _ _ _ (Or.inr h), sv_ne _ _ _ _ (Or.inr h), sv_ne _ _ _ _ (Or.inr h)]
theorem p10_v (N : it_Me) (i : Nat) : (p10 N i 96 i = 0 ∧ p10 N i 100 i = 0 ∧ p10 N i 101 i = 0 ∧ p10 N i 102 i = 0 ∧ p10 N i 103 i = 0) ∧ p10 N i 104 i = 0 ∧ p10 N i 105 i = 0 ∧ p10 N i 106 i = 0 ∧ p10 N i 107 i = 0 ∧ p10 N i 108 i = nI i := by
  unfold p10
  refine ⟨⟨?_, ?_, ?_, ?_, ?_⟩, ?_, ?_, ?_, ?_, ?_⟩ <;> simp (disch := omega) only [sv_n1, sv_same]
/-- a process of the reference has begun -/
def BgN (F : Nat → Int32) (N : it_Me) (i : Nat) (p : Nat × Nat × Nat) : Prop := (N 91 i = nI p.2.1 + (rmF F p.1 + 3) / 4 * 4 ∧ N 92 i = nI p.2.1 + nI p.2.2 - 64 ∧ N 110 i = 0 ∧ N 94 i = (nI p.1 + Hh F (p.1 + 2) + gE F (uE F p.1)) &&& (-2) ∧ N 95 i = 1) ∧ (N 97 i = 0 ∧ N 101 i = 0 ∧ N 96 i = 0 ∧ N 100 i = 0 ∧ N 102 i = 0) ∧ (N 103 i = 0 ∧ N 104 i = 0 ∧ N 105 i = 0 ∧ N 106 i = 0 ∧ N 107 i = 0 ∧ N 108 i = nI i) ∧ ∀ r, r < 32 → N 93 (32 * i + r) = rgv (nI p.2.1 + (rmF F p.1 + 3) / 4 * 4) (nI p.1 + Hh F (p.1 + 2)) (nI p.2.1) (nI p.2.2) r
def rz (N : it_Me) : Prop := ∀ x, 131072 ≤ x → x < 196608 → N 67 x = 0
def okP (p : Nat × Nat × Nat) : Prop := (65536 ≤ p.1 ∧ p.1 % 4 = 0 ∧ p.1 + 16 ≤ 126976) ∧ 131072 ≤ p.2.1 ∧ p.2.1 + p.2.2 ≤ 196608
def bgF (N N' : it_Me) : Prop := ∀ k, k < 67 ∨ (67 < k ∧ k < 91) ∨ k = 98 ∨ k = 99 ∨ k = 109 ∨ 110 < k → N' k = N k
theorem bgF.rfl {N : it_Me} : bgF N N := fun _ _ => Eq.refl _
theorem bgF.trans {a b c : it_Me} (h : bgF a b) (g : bgF b c) : bgF a c := fun k hk => (g k hk).trans (h k hk)
theorem r_251b {kc : it_Kc} {F : Nat → Int32} {n : Nat} (hn : n ≤ 8) {pp : Nat → Nat × Nat × Nat} (hp : ∀ i, i < n → okP (pp i)) {Φ : Int32 → it_Me → Prop} : ∀ (d i : Nat) (N : it_Me), i + d = n → N 66 34 = nI n → FlR F N → rz N → (∀ j, j < n → RcN F N j (pp j)) → (∀ j, j < i → BgN F N j (pp j)) → ∃ N', (∀ K : it_Me → Prop, K N' → w_251_146 kc Φ K (d + 1) (nI i) N) ∧ FlR F N' ∧ rz N' ∧ (∀ j, j < n → BgN F N' j (pp j)) ∧ bgF N N' := by
  intro d
  induction d with
  | zero =>
    intro i N hi h34 hF hz hR hB
    have : i = n := by omega
    subst this
    refine ⟨N, fun K h => ?_, hF, hz, hB, bgF.rfl⟩
    unfold w_251_146
    rw [h34]
    exact ⟨fun _ => h, fun q => absurd ((nLe (by omega) (by omega)).2 (Nat.le_refl _)) q⟩
  | succ d ih =>
    intro i N hi h34 hF hz hR hB
    have i8 : i < 8 := by omega
    have v := vI i8
    obtain ⟨⟨o1, o2, o3⟩, o4, o5⟩ := hp i (by omega)
    obtain ⟨⟨r79, r80, r81, r82, r83⟩, r84, r89, r90⟩ := hR i (by omega)
    generalize hpp : pp i = p at *
    obtain ⟨A, S, b⟩ := p
    have o1 : 65536 ≤ A := o1
    have o2 : A % 4 = 0 := o2
    have o3 : A + 16 ≤ 126976 := o3
    have o4 : 131072 ≤ S := o4
    have o5 : S + b ≤ 196608 := o5
    have q : ∀ k, (k < 96 ∨ k = 97 ∨ k = 98 ∨ k = 99 ∨ 108 < k) → p10 N i k = N k := fun k hk => p10_f _ _ hk
    have eA : (nI A).toInt = A := nI_toInt (by omega)
    have e89 : p10 N i 89 i = nI S := by rw [q 89 (by omega)]; exact r89
    have e90 : p10 N i 90 i = nI b := by rw [q 90 (by omega)]; exact r90
    have e79 : p10 N i 79 i = nI A := by rw [q 79 (by omega)]; exact r79
    have e81 : p10 N i 81 i = nI A + Hh F (A + 2) + gE F (uE F A) := by rw [q 81 (by omega)]; exact r81
    have e82 : p10 N i 82 i = rmF F A := by rw [q 82 (by omega)]; exact r82
    have hh : hf (F ((A - 65536) / 4)) (bj (p10 N i 79 i + 2)) = Hh F (A + 2) := by
      rw [e79, n_2, bjF (by omega)]
      unfold Hh
      rw [show (A + 2 - 65536) / 4 = (A - 65536) / 4 by omega]
    have M1 : FlR F (stM (p10 N i) i (nI A + Hh F (A + 2))) := fun w hw j hj => by
      rw [sm_67, e89, e90, nI_clamp (by omega), nI_clamp (by omega), if_neg (by omega), q 67 (by omega)]
      exact hF w hw j hj
    have M2 : rz (stM (p10 N i) i (nI A + Hh F (A + 2))) := fun x h1 h2 => by
      rw [sm_67]
      split
      · rfl
      · rw [q 67 (by omega)]; exact hz x h1 h2
    have M3 : bgF N (stM (p10 N i) i (nI A + Hh F (A + 2))) := fun k hk => by
      rw [sm_c _ _ _ (by simp only [List.mem_cons, List.not_mem_nil, or_false, not_or]; omega)]
      exact q k (by omega)
    have oth : ∀ k j, k ≠ 67 → k ≠ 93 → j ≠ i → stM (p10 N i) i (nI A + Hh F (A + 2)) k j = N k j := fun k j h1 h2 h3 => by
      rw [sm_o _ _ _ h1 h2 (Or.inl h3), p10_o _ _ h3]
    have M4 : ∀ j, j < i + 1 → BgN F (stM (p10 N i) i (nI A + Hh F (A + 2))) j (pp j) := fun j hj => by
      by_cases e : j = i
      · subst e
        rw [hpp]
        obtain ⟨⟨a1, a2, a3, a4, a5⟩, a6, a7, a8, a9, a10⟩ := p10_v N j
        have s : ∀ k, k ≠ 67 → k ≠ 93 → (k ≠ 91 ∧ k ≠ 92 ∧ k ≠ 110 ∧ k ≠ 94 ∧ k ≠ 95 ∧ k ≠ 97 ∧ k ≠ 101) → stM (p10 N j) j (nI A + Hh F (A + 2)) k j = p10 N j k j := fun k h1 h2 h3 => sm_o _ _ _ h1 h2 (Or.inr h3)
        refine ⟨⟨by rw [sm_91, e89, e82], by rw [sm_92, e89, e90], sm_110 _ _ _, by rw [sm_94, e81], sm_95 _ _ _⟩, ⟨sm_97 _ _ _, sm_101 _ _ _, by rw [s 96 (by omega) (by omega) (by omega)]; exact a1, by rw [s 100 (by omega) (by omega) (by omega)]; exact a2, by rw [s 102 (by omega) (by omega) (by omega)]; exact a4⟩, ⟨by rw [s 103 (by omega) (by omega) (by omega)]; exact a5, by rw [s 104 (by omega) (by omega) (by omega)]; exact a6, by rw [s 105 (by omega) (by omega) (by omega)]; exact a7, by rw [s 106 (by omega) (by omega) (by omega)]; exact a8, by rw [s 107 (by omega) (by omega) (by omega)]; exact a9, by rw [s 108 (by omega) (by omega) (by omega)]; exact a10⟩, fun r hr => ?_⟩
        rw [sm_93 _ _ _ hr, e89, e90, e82]
      · obtain ⟨⟨b1, b2, b3, b4, b5⟩, ⟨b6, b7, b8, b9, b10⟩, ⟨b11, b12, b13, b14, b15, b16⟩, b17⟩ := hB j (by omega)
        have t : ∀ k, k ≠ 67 → k ≠ 93 → stM (p10 N i) i (nI A + Hh F (A + 2)) k j = N k j := fun k h1 h2 => oth k j h1 h2 e
        unfold BgN
        rw [t 91 (by omega) (by omega), t 92 (by omega) (by omega), t 110 (by omega) (by omega), t 94 (by omega) (by omega), t 95 (by omega) (by omega), t 97 (by omega) (by omega), t 101 (by omega) (by omega), t 96 (by omega) (by omega), t 100 (by omega) (by omega), t 102 (by omega) (by omega), t 103 (by omega) (by omega), t 104 (by omega) (by omega), t 105 (by omega) (by omega), t 106 (by omega) (by omega), t 107 (by omega) (by omega), t 108 (by omega) (by omega)]
        refine ⟨⟨b1, b2, b3, b4, b5⟩, ⟨b6, b7, b8, b9, b10⟩, ⟨b11, b12, b13, b14, b15, b16⟩, fun r hr => ?_⟩
        rw [sm_93o _ _ _ (by omega), q 93 (by omega)]
        exact b17 r hr
    obtain ⟨N', c1, c2, c3, c4, c5⟩ := ih (i + 1) (stM (p10 N i) i (nI A + Hh F (A + 2))) (by omega) (by rw [M3 66 (by omega)]; exact h34) M1 M2 (fun j hj => (hR j hj).cg (fun k h1 h2 => by rw [M3 k (by omega)])) M4
    refine ⟨N', fun K h => ?_, c2, c3, c4, M3.trans c5⟩
    rw [w_251_146]
    rw [h34, cI i8, nI_s1, show (0 : Int32) &&& 1 = 0 from by decide]
    refine ⟨fun z => absurd ((nLe (by omega) (by omega)).1 z) (by omega), fun _ => ⟨v, v, v, v, v, v, v, v, v, v, ?_⟩⟩
    refine r_253 (M := p10 N i) (w := F ((A - 65536) / 4)) i8 ?_ ?_ ?_ ?_
    · rw [e89, e90, nI_toInt (by omega), nI_toInt (by omega)]
      omega
    · rw [e79, eA]
      omega
    · intro j hj
      rw [e79, n_2, wiF (by omega), show (A + 2 - 65536) / 4 = (A - 65536) / 4 by omega, q 67 (by omega)]
      exact hF _ (by omega) j hj
    · rw [hh, e79]
      exact c1 K h
