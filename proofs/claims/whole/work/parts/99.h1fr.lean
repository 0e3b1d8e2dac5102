/-! Cells that neither side looks at may change. Written by wip/whole/gen_law.py -/
theorem PI.fr {m m' : it_Me} {i : Nat} (h : PI m i) (e2 : m' 2 = m 2) (e0 : m' (14 + 5 * i) = m (14 + 5 * i)) (e1 : m' (14 + 5 * i + 1) = m (14 + 5 * i + 1)) (e3 : m' (14 + 5 * i + 2) = m (14 + 5 * i + 2)) (e4 : m' (14 + 5 * i + 3) = m (14 + 5 * i + 3)) (e5 : m' (14 + 5 * i + 4) = m (14 + 5 * i + 4)) : PI m' i :=
  PI.mk (by simp only [e0, e1, e3, e4, e5, ctl_cg e0, gw_cg e2, gh_cg e2, Ch_cg e2 e0 e5, Bf_cg e0 e1]; exact h.blk) (by simp only [e0, e1, e3, e4, e5, ctl_cg e0, gw_cg e2, gh_cg e2, Ch_cg e2 e0 e5, Bf_cg e0 e1]; exact h.ord) (by simp only [e0, e1, e3, e4, e5, ctl_cg e0, gw_cg e2, gh_cg e2, Ch_cg e2 e0 e5, Bf_cg e0 e1]; exact h.app) (by simp only [e0, e1, e3, e4, e5, ctl_cg e0, gw_cg e2, gh_cg e2, Ch_cg e2 e0 e5, Bf_cg e0 e1]; exact h.hd) (by simp only [e0, e1, e3, e4, e5, ctl_cg e0, gw_cg e2, gh_cg e2, Ch_cg e2 e0 e5, Bf_cg e0 e1]; exact h.ram) (by simp only [e0, e1, e3, e4, e5, ctl_cg e0, gw_cg e2, gh_cg e2, Ch_cg e2 e0 e5, Bf_cg e0 e1]; exact h.st) (by simp only [e0, e1, e3, e4, e5, ctl_cg e0, gw_cg e2, gh_cg e2, Ch_cg e2 e0 e5, Bf_cg e0 e1]; exact h.he) (by simp only [e0, e1, e3, e4, e5, ctl_cg e0, gw_cg e2, gh_cg e2, Ch_cg e2 e0 e5, Bf_cg e0 e1]; exact h.qn) (by simp only [e0, e1, e3, e4, e5, ctl_cg e0, gw_cg e2, gh_cg e2, Ch_cg e2 e0 e5, Bf_cg e0 e1]; exact h.q) (by simp only [e0, e1, e3, e4, e5, ctl_cg e0, gw_cg e2, gh_cg e2, Ch_cg e2 e0 e5, Bf_cg e0 e1]; exact h.gr) (by simp only [e0, e1, e3, e4, e5, ctl_cg e0, gw_cg e2, gh_cg e2, Ch_cg e2 e0 e5, Bf_cg e0 e1]; exact h.bf) (by simp only [e0, e1, e3, e4, e5, ctl_cg e0, gw_cg e2, gh_cg e2, Ch_cg e2 e0 e5, Bf_cg e0 e1]; exact h.ow1) (by simp only [e0, e1, e3, e4, e5, ctl_cg e0, gw_cg e2, gh_cg e2, Ch_cg e2 e0 e5, Bf_cg e0 e1]; exact h.ow6) (by simp only [e0, e1, e3, e4, e5, ctl_cg e0, gw_cg e2, gh_cg e2, Ch_cg e2 e0 e5, Bf_cg e0 e1]; exact h.ovr) (by simp only [e0, e1, e3, e4, e5, ctl_cg e0, gw_cg e2, gh_cg e2, Ch_cg e2 e0 e5, Bf_cg e0 e1]; exact h.nm) (by simp only [e0, e1, e3, e4, e5, ctl_cg e0, gw_cg e2, gh_cg e2, Ch_cg e2 e0 e5, Bf_cg e0 e1]; exact h.so) (by simp only [e0, e1, e3, e4, e5, ctl_cg e0, gw_cg e2, gh_cg e2, Ch_cg e2 e0 e5, Bf_cg e0 e1]; exact h.pm) (by simp only [e0, e1, e3, e4, e5, ctl_cg e0, gw_cg e2, gh_cg e2, Ch_cg e2 e0 e5, Bf_cg e0 e1]; exact h.cz) (by simp only [e0, e1, e3, e4, e5, ctl_cg e0, gw_cg e2, gh_cg e2, Ch_cg e2 e0 e5, Bf_cg e0 e1]; exact h.pce) (by simp only [e0, e1, e3, e4, e5, ctl_cg e0, gw_cg e2, gh_cg e2, Ch_cg e2 e0 e5, Bf_cg e0 e1]; exact h.sfe) (by simp only [e0, e1, e3, e4, e5, ctl_cg e0, gw_cg e2, gh_cg e2, Ch_cg e2 e0 e5, Bf_cg e0 e1]; exact h.r0)
theorem Inv.fr {B : Nat} {m m' : it_Me} (hI : Inv B m) (e : ∀ k, k < 66 → m' k = m k) : Inv B m' := by
  have c1 : cnt m' = cnt m := cnt_cg (by rw [e 9 (by omega)])
  have h8 := cnt_le hI
  have q : ∀ i b, i < 8 → b < 5 → m' (14 + 5 * i + b) = m (14 + 5 * i + b) := fun i b hi hb => e _ (by omega)
  have q0 : ∀ i, i < 8 → m' (14 + 5 * i) = m (14 + 5 * i) := fun i hi => e _ (by omega)
  have e0 := e 0 (by omega)
  have e2 := e 2 (by omega)
  have e3 := e 3 (by omega)
  have e4 := e 4 (by omega)
  have e5 := e 5 (by omega)
  have e7 := e 7 (by omega)
  have e9 := e 9 (by omega)
  have e54 := e 54 (by omega)
  have e55 := e 55 (by omega)
  have e56 := e 56 (by omega)
  have e57 := e 57 (by omega)
  have e59 := e 59 (by omega)
  have e60 := e 60 (by omega)
  have e61 := e 61 (by omega)
  have e62 := e 62 (by omega)
  have e63 := e 63 (by omega)
  have e65 := e 65 (by omega)
  have e6 := e 6 (by omega)
  refine Inv.mk ?_ ?_ ?_ ?_ ?_ ?_ ?_ ?_ ?_ ?_ ?_ ?_ ?_ ?_ ?_ ?_ ?_ ?_ ?_ ?_ ?_ ?_
  · rw [e0]; exact hI.tl
  · rw [e65]; exact hI.tp
  · rw [e0]; exact hI.on
  · rw [e0, e9, e4, e2]; exact hI.off
  · rw [e9]; exact hI.cn
  · rw [e5, e4]; exact hI.ev
  · rw [e5, e59]; exact hI.out
  · intro i hi; rw [q0 i hi]; exact hI.num i hi
  · rw [e3]; exact hI.crc
  · rw [e7]; exact hI.bk
  · rw [e0, e7]; exact hI.bk1
  · rw [e7]; exact hI.pw
  · rw [e0, e54]; exact hI.kd
  · rw [e0, e54, e9]; exact hI.tn
  · rw [e0, e59]; exact hI.ask
  · intro ho i hi hu; rw [e0] at ho; rw [c1] at hi; rw [e62, e59]; exact hI.askW ho i hi ((undW_cg e2 (q i 4 (by omega) (by omega))).mp hu)
  · intro ho i hi hu; rw [e0] at ho; rw [c1] at hi; rw [e63, e59]; exact hI.askR ho i hi ((undR_cg e2 (q i 4 (by omega) (by omega))).mp hu)
  · rw [e0, e54, e55]; exact hI.lv0
  · rw [e0, e54, e55, e56, c1]; exact hI.lv2
  · rw [e0, e54, e57, c1]; exact hI.pl
  · intro ho i hi; rw [e0] at ho; rw [c1] at hi; exact (hI.pi ho i hi).fr e2 (q0 i (by omega)) (q i 1 (by omega) (by omega)) (q i 2 (by omega) (by omega)) (q i 3 (by omega) (by omega)) (q i 4 (by omega) (by omega))
  · intro ho i j hj hij; rw [e0] at ho; rw [c1] at hj; rw [q0 i (by omega), q0 j (by omega)]; exact hI.dis ho i j hj hij
theorem Rel.fr {m m' M M' : it_Me} (h : Rel m M) (h8 : cnt m ≤ 8) (e : ∀ k, k < 66 → m' k = m k) (E : ∀ k, 66 ≤ k → M' k = M k) : Rel m' M' := by
  have c1 : cnt m' = cnt m := cnt_cg (by rw [e 9 (by omega)])
  have q : ∀ i b, i < 8 → b < 5 → m' (14 + 5 * i + b) = m (14 + 5 * i + b) := fun i b hi hb => e _ (by omega)
  have q0 : ∀ i, i < 8 → m' (14 + 5 * i) = m (14 + 5 * i) := fun i hi => e _ (by omega)
  have e0 := e 0 (by omega)
  have e2 := e 2 (by omega)
  have e3 := e 3 (by omega)
  have e4 := e 4 (by omega)
  have e5 := e 5 (by omega)
  have e7 := e 7 (by omega)
  have e9 := e 9 (by omega)
  have e54 := e 54 (by omega)
  have e55 := e 55 (by omega)
  have e56 := e 56 (by omega)
  have e57 := e 57 (by omega)
  have e59 := e 59 (by omega)
  have e60 := e 60 (by omega)
  have e61 := e 61 (by omega)
  have e62 := e 62 (by omega)
  have e63 := e 63 (by omega)
  have e65 := e 65 (by omega)
  have e6 := e 6 (by omega)
  have E66 := E 66 (by omega)
  have E67 := E 67 (by omega)
  have E68 := E 68 (by omega)
  have E69 := E 69 (by omega)
  have E70 := E 70 (by omega)
  have E71 := E 71 (by omega)
  have E72 := E 72 (by omega)
  have E73 := E 73 (by omega)
  have E74 := E 74 (by omega)
  have E79 := E 79 (by omega)
  have E80 := E 80 (by omega)
  have E81 := E 81 (by omega)
  have E82 := E 82 (by omega)
  have E83 := E 83 (by omega)
  have E84 := E 84 (by omega)
  have E85 := E 85 (by omega)
  have E86 := E 86 (by omega)
  have E87 := E 87 (by omega)
  have E88 := E 88 (by omega)
  have E89 := E 89 (by omega)
  have E90 := E 90 (by omega)
  have E91 := E 91 (by omega)
  have E92 := E 92 (by omega)
  have E93 := E 93 (by omega)
  have E94 := E 94 (by omega)
  have E95 := E 95 (by omega)
  have E96 := E 96 (by omega)
  have E97 := E 97 (by omega)
  have E98 := E 98 (by omega)
  have E99 := E 99 (by omega)
  have E100 := E 100 (by omega)
  have E101 := E 101 (by omega)
  have E102 := E 102 (by omega)
  have E103 := E 103 (by omega)
  have E104 := E 104 (by omega)
  have E105 := E 105 (by omega)
  have E106 := E 106 (by omega)
  have E107 := E 107 (by omega)
  have E108 := E 108 (by omega)
  have E109 := E 109 (by omega)
  have E110 := E 110 (by omega)
  have E111 := E 111 (by omega)
  have E112 := E 112 (by omega)
  refine Rel.mk ?_ ?_ ?_ ?_ ?_ ?_ ?_ ?_ ?_ ?_ ?_ ?_ ?_ ?_ ?_ ?_ ?_ ?_ ?_ ?_ ?_ ?_ ?_ ?_ ?_ ?_ ?_ ?_ ?_ ?_ ?_ ?_ ?_ ?_
  · rw [e0, E66]; exact h.tapeLen
  · rw [e0, E66]; exact h.on
  · rw [e7, E66]; exact h.lost
  · rw [e7, E66]; exact h.power
  · rw [e4, E66]; exact h.time
  · rw [e59, E66]; exact h.z
  · rw [e9, E66]; exact h.count
  · rw [e54, E66]; exact h.turn
  · rw [e7, E66]; exact h.bank
  · rw [e65, E68]; exact h.tape
  · rw [e5, E69]; exact h.counts
  · rw [e6, E74]; exact h.events
  · rw [e61, E70]; exact h.out
  · rw [e59, E71]; exact h.lamps
  · rw [e59, E72]; exact h.buttons
  · rw [e60, E73]; exact h.lev
  · intro w hw hx j hj; rw [E67, e2]; exact h.mem w hw (fun y => hx ((excl_cg (by rw [e9]) (fun i hi => q0 i (by omega)) w).2 y)) j hj
  · rw [e0, e54, e9, E66]; exact h.sched
  · rw [e0, e54, E66]; exact h.done
  · rw [e0, e54, e55, e56, E106, E107, c1]; exact h.levels
  · rw [e0, e54, e57, E108, c1]; exact h.places
  · rw [e0, e59, E66]; exact h.asked
  · intro i hi u; rw [c1] at hi; rw [E111, e62]; exact h.worder i hi ((undW_cg e2 (q i 4 (by omega) (by omega))).mp u)
  · intro i hi u; rw [c1] at hi; rw [E112, e63]; exact h.rorder i hi ((undR_cg e2 (q i 4 (by omega) (by omega))).mp u)
  · intro i hi t ht; rw [c1] at hi; have b : 66 ≤ t.1 ∧ t.2.1 < 5 := by
      simp only [pst, List.mem_cons, List.not_mem_nil, or_false] at ht
      rcases ht with rfl | rfl | rfl | rfl | rfl | rfl | rfl | rfl | rfl | rfl | rfl | rfl | rfl | rfl <;> decide
    rw [E t.1 b.1, q i t.2.1 (by omega) b.2]; exact h.ps i hi t ht
  · intro i hi; rw [c1] at hi; rw [E80, E81, E82, q i 1 (by omega) (by omega)]; exact h.app i hi
  · intro i hi; rw [c1] at hi; rw [E84, E85, q i 1 (by omega) (by omega)]; exact h.name i hi
  · intro i hi; rw [c1] at hi; rw [E86, q i 1 (by omega) (by omega)]; exact h.number i hi
  · intro i hi; rw [c1] at hi; rw [E87, E88, q i 1 (by omega) (by omega)]; exact h.bits i hi
  · intro i hi r hr; rw [c1] at hi; rw [E93, q i 2 (by omega) (by omega)]; exact h.regs i hi r hr
  · intro i hi; rw [c1] at hi; rw [E97, q0 i (by omega)]; exact h.rsv i hi
  · intro i hi; rw [c1] at hi; rw [E109, q0 i (by omega), q i 3 (by omega) (by omega)]; exact h.queue i hi
  · intro i hi; rw [c1] at hi; rw [E102, E103, E104, E105, ctl_cg (q0 i (by omega)), gw_cg e2, gw_cg e2, gw_cg e2, gw_cg e2]; exact h.ctlw i hi
  · intro i hi; rw [E98, E99, q0 i hi]; exact h.wt i hi
/-- a call of both: the answers are the same -/
theorem lk {c r : it_Me → (Int32 → it_Me → Prop) → Prop} {B B' : Nat} {m : it_Me} (h : Lk c r B m) (hB : B ≤ B') (hR : Rel m m) (h8 : cnt m ≤ 8) {X Y : it_Me → Prop} (nx : ∀ m4, Rel m4 m4 → Inv B' m4 → m4 7 4 = 0 → X m4) {V : Int32 → it_Me → Prop} (hV : ∀ x m', r m' (fun r3 m4 => (x = r3 → X m4) ∧ (¬ x = r3 → Y m4)) → V x m') : c m V := by
  obtain ⟨x, m', h1, h2, h3, h4, h5⟩ := Lk.mono hB h
  refine h1 _ (hV x m' (h5 m' (hR.fr h8 (fun _ _ => rfl) (fun k hk => h3 k hk)) _ (fun M' R F => ⟨fun _ => ?_, fun q => absurd rfl q⟩)))
  have F : ∀ k, k < 66 → M' k = m' k := F
  exact nx M' (R.fr (cnt_le h2) F (fun _ _ => rfl)) (h2.fr F) (by rw [F 7 (by omega)]; exact h4)
/-! The memory at the start. -/
set_option maxRecDepth 100000 in
theorem z_0 : it_mem0 0 = fun _ => 0 := rfl
set_option maxRecDepth 100000 in
theorem z_9 : it_mem0 9 = fun _ => 0 := rfl
set_option maxRecDepth 100000 in
theorem z_4 : it_mem0 4 = fun _ => 0 := rfl
set_option maxRecDepth 100000 in
theorem z_5 : it_mem0 5 = fun _ => 0 := rfl
set_option maxRecDepth 100000 in
theorem z_6 : it_mem0 6 = fun _ => 0 := rfl
set_option maxRecDepth 100000 in
theorem z_54 : it_mem0 54 = fun _ => 0 := rfl
set_option maxRecDepth 100000 in
theorem z_55 : it_mem0 55 = fun _ => 0 := rfl
set_option maxRecDepth 100000 in
theorem z_56 : it_mem0 56 = fun _ => 0 := rfl
set_option maxRecDepth 100000 in
theorem z_57 : it_mem0 57 = fun _ => 0 := rfl
set_option maxRecDepth 100000 in
theorem z_59 : it_mem0 59 = fun _ => 0 := rfl
set_option maxRecDepth 100000 in
theorem z_60 : it_mem0 60 = fun _ => 0 := rfl
set_option maxRecDepth 100000 in
theorem z_61 : it_mem0 61 = fun _ => 0 := rfl
set_option maxRecDepth 100000 in
theorem z_62 : it_mem0 62 = fun _ => 0 := rfl
set_option maxRecDepth 100000 in
theorem z_63 : it_mem0 63 = fun _ => 0 := rfl
set_option maxRecDepth 100000 in
theorem z_65 : it_mem0 65 = fun _ => 0 := rfl
set_option maxRecDepth 100000 in
theorem z_68 : it_mem0 68 = fun _ => 0 := rfl
set_option maxRecDepth 100000 in
theorem z_69 : it_mem0 69 = fun _ => 0 := rfl
set_option maxRecDepth 100000 in
theorem z_70 : it_mem0 70 = fun _ => 0 := rfl
set_option maxRecDepth 100000 in
theorem z_71 : it_mem0 71 = fun _ => 0 := rfl
set_option maxRecDepth 100000 in
theorem z_72 : it_mem0 72 = fun _ => 0 := rfl
set_option maxRecDepth 100000 in
theorem z_73 : it_mem0 73 = fun _ => 0 := rfl
set_option maxRecDepth 100000 in
theorem z_74 : it_mem0 74 = fun _ => 0 := rfl
set_option maxRecDepth 100000 in
theorem z_98 : it_mem0 98 = fun _ => 0 := rfl
set_option maxRecDepth 100000 in
theorem z_99 : it_mem0 99 = fun _ => 0 := rfl
set_option maxRecDepth 100000 in
theorem z_66 (j : Nat) : it_mem0 66 j = it_sv (it_sv (fun _ _ => 0) 66 5 (-1)) 66 17 (-1) 66 j := rfl
set_option maxRecDepth 100000 in
theorem z_7 (j : Nat) : it_mem0 7 j = it_sv (fun _ _ => 0) 7 3 (-1) 7 j := rfl
set_option maxRecDepth 100000 in
theorem z_2 (w : Nat) : it_mem0 2 w = if 0 ≤ w ∧ w < 16384 then -1 else 0 := rfl
set_option maxRecDepth 100000 in
theorem z_3 (w : Nat) : it_mem0 3 w = if w < 256 then it_tab w else 0 := rfl
set_option maxRecDepth 100000 in
theorem z_67 (w : Nat) : it_mem0 67 w = if 65536 ≤ w ∧ w < 131072 then -1 else 0 := rfl
set_option maxRecDepth 100000 in
theorem z_p0 (j : Nat) : it_mem0 14 j = it_sv (fun _ _ => 0) 14 0 0 14 j := rfl
set_option maxRecDepth 100000 in
theorem z_p1 (j : Nat) : it_mem0 19 j = it_sv (fun _ _ => 0) 19 0 1 19 j := rfl
set_option maxRecDepth 100000 in
theorem z_p2 (j : Nat) : it_mem0 24 j = it_sv (fun _ _ => 0) 24 0 2 24 j := rfl
set_option maxRecDepth 100000 in
theorem z_p3 (j : Nat) : it_mem0 29 j = it_sv (fun _ _ => 0) 29 0 3 29 j := rfl
set_option maxRecDepth 100000 in
theorem z_p4 (j : Nat) : it_mem0 34 j = it_sv (fun _ _ => 0) 34 0 4 34 j := rfl
set_option maxRecDepth 100000 in
theorem z_p5 (j : Nat) : it_mem0 39 j = it_sv (fun _ _ => 0) 39 0 5 39 j := rfl
set_option maxRecDepth 100000 in
theorem z_p6 (j : Nat) : it_mem0 44 j = it_sv (fun _ _ => 0) 44 0 6 44 j := rfl
set_option maxRecDepth 100000 in
theorem z_p7 (j : Nat) : it_mem0 49 j = it_sv (fun _ _ => 0) 49 0 7 49 j := rfl
theorem z_p {i : Nat} (hi : i < 8) (j : Nat) : it_mem0 (14 + 5 * i) j = if j = 0 then nI i else 0 := by
  have : i = 0 ∨ i = 1 ∨ i = 2 ∨ i = 3 ∨ i = 4 ∨ i = 5 ∨ i = 6 ∨ i = 7 := by omega
  rcases this with rfl | rfl | rfl | rfl | rfl | rfl | rfl | rfl
  · rw [show 14 + 5 * 0 = 14 from rfl, z_p0, sv_rd]
    by_cases q : j = 0
    · rw [if_pos ⟨rfl, q⟩, if_pos q]; rfl
    · rw [if_neg (fun y => q y.2), if_neg q]
  · rw [show 14 + 5 * 1 = 19 from rfl, z_p1, sv_rd]
    by_cases q : j = 0
    · rw [if_pos ⟨rfl, q⟩, if_pos q]; rfl
    · rw [if_neg (fun y => q y.2), if_neg q]
  · rw [show 14 + 5 * 2 = 24 from rfl, z_p2, sv_rd]
    by_cases q : j = 0
    · rw [if_pos ⟨rfl, q⟩, if_pos q]; rfl
    · rw [if_neg (fun y => q y.2), if_neg q]
  · rw [show 14 + 5 * 3 = 29 from rfl, z_p3, sv_rd]
    by_cases q : j = 0
    · rw [if_pos ⟨rfl, q⟩, if_pos q]; rfl
    · rw [if_neg (fun y => q y.2), if_neg q]
  · rw [show 14 + 5 * 4 = 34 from rfl, z_p4, sv_rd]
    by_cases q : j = 0
    · rw [if_pos ⟨rfl, q⟩, if_pos q]; rfl
    · rw [if_neg (fun y => q y.2), if_neg q]
  · rw [show 14 + 5 * 5 = 39 from rfl, z_p5, sv_rd]
    by_cases q : j = 0
    · rw [if_pos ⟨rfl, q⟩, if_pos q]; rfl
    · rw [if_neg (fun y => q y.2), if_neg q]
  · rw [show 14 + 5 * 6 = 44 from rfl, z_p6, sv_rd]
    by_cases q : j = 0
    · rw [if_pos ⟨rfl, q⟩, if_pos q]; rfl
    · rw [if_neg (fun y => q y.2), if_neg q]
  · rw [show 14 + 5 * 7 = 49 from rfl, z_p7, sv_rd]
    by_cases q : j = 0
    · rw [if_pos ⟨rfl, q⟩, if_pos q]; rfl
    · rw [if_neg (fun y => q y.2), if_neg q]
theorem m0_I (B : Nat) : Inv B it_mem0 := by
  have on : it_mem0 0 10 = 0 := by rw [z_0]
  have n0 : ¬ it_mem0 0 10 = 1 := by rw [on]; decide
  refine Inv.mk ?_ ?_ (Or.inl on) (fun _ => ?_) ?_ ?_ ?_ ?_ ?_ (Or.inl ?_) (fun q => absurd q n0) ?_ (fun q => absurd q n0) (fun q => absurd q n0) (fun q => absurd q n0) (fun q => absurd q n0) (fun q => absurd q n0) (fun q => absurd q n0) (fun q => absurd q n0) (fun q => absurd q n0) (fun q => absurd q n0) (fun q => absurd q n0)
  · rw [z_0]; decide
  · intro i; rw [z_65]; exact (by decide : it_i2b 0 = 0)
  · refine ⟨by rw [z_9], by rw [z_4], fun w h1 h2 => ?_⟩
    rw [z_2, if_neg (by omega)]
  · rw [z_9]; decide
  · rw [z_5, z_4]
    show (0 : Int) ≤ 0 ∧ (0 : Int) ≤ B ∧ (0 : Int) = 0 % 200 ∧ (0 : Int) = min 0 200
    omega
  · rw [z_5, z_59]
    show (0 : Int) ≤ 0 ∧ (0 : Int) ≤ B ∧ (0 : Int) = min 0 4000
    omega
  · intro i hi; rw [z_p hi, if_pos rfl]
  · intro i hi; rw [z_3, if_pos hi]
  · rw [z_7, sv_n2 _ _ _ _ (by omega)]
  · rw [z_7, sv_same]; decide
theorem m0_R : Rel it_mem0 it_mem0 := by
  have on : it_mem0 0 10 = 0 := by rw [z_0]
  have n0 : ¬ it_mem0 0 10 = 1 := by rw [on]; decide
  have c0 : cnt it_mem0 = 0 := cnt0 (by rw [z_9])
  have nc : ∀ i, ¬ i < cnt it_mem0 := fun i hi => by rw [c0] at hi; omega
  have z66 : ∀ {j}, j ≠ 5 → j ≠ 17 → it_mem0 66 j = 0 := fun h1 h2 => by rw [z_66, sv_n2 _ _ _ _ h2, sv_n2 _ _ _ _ h1]
  refine Rel.mk ?_ ?_ ?_ ?_ ?_ ?_ ?_ ?_ ?_ ?_ ?_ ?_ ?_ ?_ ?_ ?_ ?_ (fun q => absurd q n0) (fun q => absurd q n0) (fun q => absurd q n0) (fun q => absurd q n0) (fun q => absurd q n0) (fun i hi => absurd hi (nc i)) (fun i hi => absurd hi (nc i)) (fun i hi => absurd hi (nc i)) (fun i hi => absurd hi (nc i)) (fun i hi => absurd hi (nc i)) (fun i hi => absurd hi (nc i)) (fun i hi => absurd hi (nc i)) (fun i hi => absurd hi (nc i)) (fun i hi => absurd hi (nc i)) (fun i hi => absurd hi (nc i)) (fun i hi => absurd hi (nc i)) ?_
  · rw [z66 (by omega) (by omega), z_0]
  · rw [z66 (by omega) (by omega), z_0]
  · rw [z66 (by omega) (by omega), z_7, sv_n2 _ _ _ _ (by omega)]
  · rw [z_66, sv_n2 _ _ _ _ (by omega), sv_same, z_7, sv_same]
  · rw [z66 (by omega) (by omega), z_4]
  · rw [z66 (by omega) (by omega), z_59]
  · rw [z66 (by omega) (by omega), z_9]
  · rw [z66 (by omega) (by omega), z_54]
  · rw [z_66, sv_same, z_7, sv_n2 _ _ _ _ (by omega)]; decide
  · intro i _; rw [z_68, z_65]
  · intro i _; rw [z_69, z_5]
  · intro i _; rw [z_74, z_6]
  · intro i _; rw [z_70, z_61]
  · intro i _; rw [z_71, z_59, b_0]; rfl
  · intro i _; rw [z_72, z_59, b_0]; rfl
  · intro i _; rw [z_73, z_60]
  · intro w hw _ j hj
    rw [z_67, z_2]
    by_cases q : w < 16384
    · rw [if_pos (by omega), if_pos (by omega), sbm1 hj]
    · rw [if_neg (by omega), if_neg (by omega), sb_0 hj]
  · intro i hi
    rw [z_98, z_99, z_p hi, z_p hi, if_neg (by omega), if_neg (by omega)]
    exact ⟨rfl, rfl⟩
theorem m0_l : it_mem0 7 4 = 0 := by rw [z_7, sv_n2 _ _ _ _ (by omega)]
