/-! The relation of class and reference, clause by clause. Written by wip/whole/gen_rel.py -/
def cnt (m : it_Me) : Nat := Int32.toNatClampNeg (m 9 7)
def b01 (b : Bool) : Int32 := if b = true then 1 else 0
def bkI (x : Int32) : Int32 := if x = 0 then -1 else if x = 126976 then 0 else 1
def nz (x : Int32) : Int32 := if x = 0 then -1 else x
def rsI (x : Int32) : Int32 := if x = 1 then 0 else x
/-- where CONTROL begins -/
def ctl (m : it_Me) (i : Nat) : Int32 := m (14 + 5 * i) 5 + m (14 + 5 * i) 6 - 64
/-- the words of CONTROL that the reference only writes when they are looked at -/
def excl (m : it_Me) (w : Nat) : Prop := ∃ i, i < cnt m ∧ (ctl m i).toInt ≤ 65536 + 4 * (w : Int) ∧ 65536 + 4 * (w : Int) < (ctl m i).toInt + 44
/-- the own words of the console: 0 1 of a write, 2 3 of a read -/
def undW (m : it_Me) (i : Nat) : Prop := m (14 + 5 * i + 4) 1 ≠ 0 ∧ gw m (m (14 + 5 * i + 4) 1 + 64) ≠ 0
def undR (m : it_Me) (i : Nat) : Prop := m (14 + 5 * i + 4) 1 ≠ 0 ∧ gw m (m (14 + 5 * i + 4) 1 + 72) ≠ 0
/-- fields of a process: the array of the reference, the cell and the place of the class -/
def pst : List (Nat × Nat × Nat) := [(79, 1, 1), (83, 1, 7), (89, 0, 5), (90, 0, 6), (91, 0, 7), (92, 0, 8), (94, 0, 3), (95, 0, 9), (96, 0, 10), (98, 0, 15), (99, 0, 16), (100, 0, 12), (101, 0, 11), (110, 0, 14)]
def Rl (m M : it_Me) : Nat → Prop
  | 0 => M 66 2 = m 0 9
  | 1 => M 66 3 = m 0 10
  | 2 => M 66 4 = m 7 4
  | 3 => M 66 5 = m 7 3
  | 4 => M 66 6 = m 4 0
  | 5 => M 66 10 = m 59 7
  | 6 => M 66 34 = m 9 7
  | 7 => M 66 70 = m 54 4
  | 8 => M 66 17 = bkI (m 7 2)
  | 9 => ∀ i, i < 8192 → M 68 i = m 65 i
  | 10 => ∀ i, i < 12 → M 69 i = m 5 i
  | 11 => ∀ i, i < 800 → M 74 i = m 6 i
  | 12 => ∀ i, i < 4000 → M 70 i = m 61 i
  | 13 => ∀ k, k < 4 → M 71 k = b01 (bt (m 59 4) k)
  | 14 => ∀ k, k < 4 → M 72 k = b01 (bt (m 59 5) k)
  | 15 => ∀ i, i < 2 → M 73 i = m 60 i
  | 16 => ∀ w, w < 32768 → ¬ excl m w → ∀ j, j < 4 → M 67 (65536 + 4 * w + j) = sb8 (m 2 w) j
  | 17 => m 0 10 = 1 → M 66 7 = m 54 2 ∧ M 66 8 = m 54 3 ∧ M 66 9 = m 9 8
  | 18 => m 0 10 = 1 → m 54 2 = 0 → m 54 4 ≠ -1 → M 66 71 = m 54 5
  | 19 => m 0 10 = 1 → m 54 2 = 2 → ∀ i, i < cnt m → M 106 i = m 55 i ∧ M 107 i = m 56 i
  | 20 => m 0 10 = 1 → m 54 2 = 2 → (∀ i j, i < cnt m → j < cnt m → (m 57 i < m 57 j ↔ M 108 i < M 108 j)) ∧ ∀ i, i < cnt m → 0 ≤ M 108 i ∧ M 108 i ≤ m 54 9
  | 21 => m 0 10 = 1 → M 66 69 = m 59 12
  | 22 => ∀ i, i < cnt m → undW m i → M 111 i = m 62 i + 1
  | 23 => ∀ i, i < cnt m → undR m i → M 112 i = m 63 i + 1
  | 24 => ∀ i, i < cnt m → ∀ t, t ∈ pst → M t.1 i = m (14 + 5 * i + t.2.1) t.2.2
  | 25 => ∀ i, i < cnt m → M 80 i = m (14 + 5 * i + 1) 1 + m (14 + 5 * i + 1) 3 ∧ M 81 i = m (14 + 5 * i + 1) 1 + m (14 + 5 * i + 1) 2 + m (14 + 5 * i + 1) 4 ∧ M 82 i = m (14 + 5 * i + 1) 5
  | 26 => ∀ i, i < cnt m → M 84 i = nz (m (14 + 5 * i + 1) 10) ∧ (m (14 + 5 * i + 1) 10 ≠ 0 → M 85 i = m (14 + 5 * i + 1) 11)
  | 27 => ∀ i, i < cnt m → M 86 i = nz (m (14 + 5 * i + 1) 12)
  | 28 => ∀ i, i < cnt m → M 87 i = nz (m (14 + 5 * i + 1) 13) ∧ (m (14 + 5 * i + 1) 13 ≠ 0 → M 88 i = m (14 + 5 * i + 1) 14)
  | 29 => ∀ i, i < cnt m → ∀ r, r < 32 → M 93 (32 * i + r) = m (14 + 5 * i + 2) r
  | 30 => ∀ i, i < cnt m → m (14 + 5 * i) 9 ≠ 4 → m (14 + 5 * i) 9 ≠ 5 → M 97 i = rsI (m (14 + 5 * i) 4)
  | 31 => ∀ i, i < cnt m → ∀ k : Nat, (k : Int) < 5 * (m (14 + 5 * i) 14).toInt → M 109 (50 * i + k) = m (14 + 5 * i + 3) k
  | 32 => ∀ i, i < cnt m → M 102 i = gw m (ctl m i + 24) ∧ M 103 i = gw m (ctl m i + 28) ∧ M 104 i = gw m (ctl m i + 32) ∧ M 105 i = gw m (ctl m i + 40)
  | 33 => ∀ i, i < 8 → M 98 i = m (14 + 5 * i) 15 ∧ M 99 i = m (14 + 5 * i) 16
  | _ => True
def Rel (m M : it_Me) : Prop := ∀ n, Rl m M n
theorem Rel.tapeLen {m M : it_Me} (h : Rel m M) : M 66 2 = m 0 9 := h 0
theorem Rel.on {m M : it_Me} (h : Rel m M) : M 66 3 = m 0 10 := h 1
theorem Rel.lost {m M : it_Me} (h : Rel m M) : M 66 4 = m 7 4 := h 2
theorem Rel.power {m M : it_Me} (h : Rel m M) : M 66 5 = m 7 3 := h 3
theorem Rel.time {m M : it_Me} (h : Rel m M) : M 66 6 = m 4 0 := h 4
theorem Rel.z {m M : it_Me} (h : Rel m M) : M 66 10 = m 59 7 := h 5
theorem Rel.count {m M : it_Me} (h : Rel m M) : M 66 34 = m 9 7 := h 6
theorem Rel.turn {m M : it_Me} (h : Rel m M) : M 66 70 = m 54 4 := h 7
theorem Rel.bank {m M : it_Me} (h : Rel m M) : M 66 17 = bkI (m 7 2) := h 8
theorem Rel.tape {m M : it_Me} (h : Rel m M) : ∀ i, i < 8192 → M 68 i = m 65 i := h 9
theorem Rel.counts {m M : it_Me} (h : Rel m M) : ∀ i, i < 12 → M 69 i = m 5 i := h 10
theorem Rel.events {m M : it_Me} (h : Rel m M) : ∀ i, i < 800 → M 74 i = m 6 i := h 11
theorem Rel.out {m M : it_Me} (h : Rel m M) : ∀ i, i < 4000 → M 70 i = m 61 i := h 12
theorem Rel.lamps {m M : it_Me} (h : Rel m M) : ∀ k, k < 4 → M 71 k = b01 (bt (m 59 4) k) := h 13
theorem Rel.buttons {m M : it_Me} (h : Rel m M) : ∀ k, k < 4 → M 72 k = b01 (bt (m 59 5) k) := h 14
theorem Rel.lev {m M : it_Me} (h : Rel m M) : ∀ i, i < 2 → M 73 i = m 60 i := h 15
theorem Rel.mem {m M : it_Me} (h : Rel m M) : ∀ w, w < 32768 → ¬ excl m w → ∀ j, j < 4 → M 67 (65536 + 4 * w + j) = sb8 (m 2 w) j := h 16
theorem Rel.sched {m M : it_Me} (h : Rel m M) : m 0 10 = 1 → M 66 7 = m 54 2 ∧ M 66 8 = m 54 3 ∧ M 66 9 = m 9 8 := h 17
theorem Rel.done {m M : it_Me} (h : Rel m M) : m 0 10 = 1 → m 54 2 = 0 → m 54 4 ≠ -1 → M 66 71 = m 54 5 := h 18
theorem Rel.levels {m M : it_Me} (h : Rel m M) : m 0 10 = 1 → m 54 2 = 2 → ∀ i, i < cnt m → M 106 i = m 55 i ∧ M 107 i = m 56 i := h 19
theorem Rel.places {m M : it_Me} (h : Rel m M) : m 0 10 = 1 → m 54 2 = 2 → (∀ i j, i < cnt m → j < cnt m → (m 57 i < m 57 j ↔ M 108 i < M 108 j)) ∧ ∀ i, i < cnt m → 0 ≤ M 108 i ∧ M 108 i ≤ m 54 9 := h 20
theorem Rel.asked {m M : it_Me} (h : Rel m M) : m 0 10 = 1 → M 66 69 = m 59 12 := h 21
theorem Rel.worder {m M : it_Me} (h : Rel m M) : ∀ i, i < cnt m → undW m i → M 111 i = m 62 i + 1 := h 22
theorem Rel.rorder {m M : it_Me} (h : Rel m M) : ∀ i, i < cnt m → undR m i → M 112 i = m 63 i + 1 := h 23
theorem Rel.ps {m M : it_Me} (h : Rel m M) : ∀ i, i < cnt m → ∀ t, t ∈ pst → M t.1 i = m (14 + 5 * i + t.2.1) t.2.2 := h 24
theorem Rel.app {m M : it_Me} (h : Rel m M) : ∀ i, i < cnt m → M 80 i = m (14 + 5 * i + 1) 1 + m (14 + 5 * i + 1) 3 ∧ M 81 i = m (14 + 5 * i + 1) 1 + m (14 + 5 * i + 1) 2 + m (14 + 5 * i + 1) 4 ∧ M 82 i = m (14 + 5 * i + 1) 5 := h 25
theorem Rel.name {m M : it_Me} (h : Rel m M) : ∀ i, i < cnt m → M 84 i = nz (m (14 + 5 * i + 1) 10) ∧ (m (14 + 5 * i + 1) 10 ≠ 0 → M 85 i = m (14 + 5 * i + 1) 11) := h 26
theorem Rel.number {m M : it_Me} (h : Rel m M) : ∀ i, i < cnt m → M 86 i = nz (m (14 + 5 * i + 1) 12) := h 27
theorem Rel.bits {m M : it_Me} (h : Rel m M) : ∀ i, i < cnt m → M 87 i = nz (m (14 + 5 * i + 1) 13) ∧ (m (14 + 5 * i + 1) 13 ≠ 0 → M 88 i = m (14 + 5 * i + 1) 14) := h 28
theorem Rel.regs {m M : it_Me} (h : Rel m M) : ∀ i, i < cnt m → ∀ r, r < 32 → M 93 (32 * i + r) = m (14 + 5 * i + 2) r := h 29
theorem Rel.rsv {m M : it_Me} (h : Rel m M) : ∀ i, i < cnt m → m (14 + 5 * i) 9 ≠ 4 → m (14 + 5 * i) 9 ≠ 5 → M 97 i = rsI (m (14 + 5 * i) 4) := h 30
theorem Rel.queue {m M : it_Me} (h : Rel m M) : ∀ i, i < cnt m → ∀ k : Nat, (k : Int) < 5 * (m (14 + 5 * i) 14).toInt → M 109 (50 * i + k) = m (14 + 5 * i + 3) k := h 31
theorem Rel.ctlw {m M : it_Me} (h : Rel m M) : ∀ i, i < cnt m → M 102 i = gw m (ctl m i + 24) ∧ M 103 i = gw m (ctl m i + 28) ∧ M 104 i = gw m (ctl m i + 32) ∧ M 105 i = gw m (ctl m i + 40) := h 32
theorem Rel.wt {m M : it_Me} (h : Rel m M) : ∀ i, i < 8 → M 98 i = m (14 + 5 * i) 15 ∧ M 99 i = m (14 + 5 * i) 16 := h 33
theorem Rel.mk {m M : it_Me} (h0 : M 66 2 = m 0 9) (h1 : M 66 3 = m 0 10) (h2 : M 66 4 = m 7 4) (h3 : M 66 5 = m 7 3) (h4 : M 66 6 = m 4 0) (h5 : M 66 10 = m 59 7) (h6 : M 66 34 = m 9 7) (h7 : M 66 70 = m 54 4) (h8 : M 66 17 = bkI (m 7 2)) (h9 : ∀ i, i < 8192 → M 68 i = m 65 i) (h10 : ∀ i, i < 12 → M 69 i = m 5 i) (h11 : ∀ i, i < 800 → M 74 i = m 6 i) (h12 : ∀ i, i < 4000 → M 70 i = m 61 i) (h13 : ∀ k, k < 4 → M 71 k = b01 (bt (m 59 4) k)) (h14 : ∀ k, k < 4 → M 72 k = b01 (bt (m 59 5) k)) (h15 : ∀ i, i < 2 → M 73 i = m 60 i) (h16 : ∀ w, w < 32768 → ¬ excl m w → ∀ j, j < 4 → M 67 (65536 + 4 * w + j) = sb8 (m 2 w) j) (h17 : m 0 10 = 1 → M 66 7 = m 54 2 ∧ M 66 8 = m 54 3 ∧ M 66 9 = m 9 8) (h18 : m 0 10 = 1 → m 54 2 = 0 → m 54 4 ≠ -1 → M 66 71 = m 54 5) (h19 : m 0 10 = 1 → m 54 2 = 2 → ∀ i, i < cnt m → M 106 i = m 55 i ∧ M 107 i = m 56 i) (h20 : m 0 10 = 1 → m 54 2 = 2 → (∀ i j, i < cnt m → j < cnt m → (m 57 i < m 57 j ↔ M 108 i < M 108 j)) ∧ ∀ i, i < cnt m → 0 ≤ M 108 i ∧ M 108 i ≤ m 54 9) (h21 : m 0 10 = 1 → M 66 69 = m 59 12) (h22 : ∀ i, i < cnt m → undW m i → M 111 i = m 62 i + 1) (h23 : ∀ i, i < cnt m → undR m i → M 112 i = m 63 i + 1) (h24 : ∀ i, i < cnt m → ∀ t, t ∈ pst → M t.1 i = m (14 + 5 * i + t.2.1) t.2.2) (h25 : ∀ i, i < cnt m → M 80 i = m (14 + 5 * i + 1) 1 + m (14 + 5 * i + 1) 3 ∧ M 81 i = m (14 + 5 * i + 1) 1 + m (14 + 5 * i + 1) 2 + m (14 + 5 * i + 1) 4 ∧ M 82 i = m (14 + 5 * i + 1) 5) (h26 : ∀ i, i < cnt m → M 84 i = nz (m (14 + 5 * i + 1) 10) ∧ (m (14 + 5 * i + 1) 10 ≠ 0 → M 85 i = m (14 + 5 * i + 1) 11)) (h27 : ∀ i, i < cnt m → M 86 i = nz (m (14 + 5 * i + 1) 12)) (h28 : ∀ i, i < cnt m → M 87 i = nz (m (14 + 5 * i + 1) 13) ∧ (m (14 + 5 * i + 1) 13 ≠ 0 → M 88 i = m (14 + 5 * i + 1) 14)) (h29 : ∀ i, i < cnt m → ∀ r, r < 32 → M 93 (32 * i + r) = m (14 + 5 * i + 2) r) (h30 : ∀ i, i < cnt m → m (14 + 5 * i) 9 ≠ 4 → m (14 + 5 * i) 9 ≠ 5 → M 97 i = rsI (m (14 + 5 * i) 4)) (h31 : ∀ i, i < cnt m → ∀ k : Nat, (k : Int) < 5 * (m (14 + 5 * i) 14).toInt → M 109 (50 * i + k) = m (14 + 5 * i + 3) k) (h32 : ∀ i, i < cnt m → M 102 i = gw m (ctl m i + 24) ∧ M 103 i = gw m (ctl m i + 28) ∧ M 104 i = gw m (ctl m i + 32) ∧ M 105 i = gw m (ctl m i + 40)) (h33 : ∀ i, i < 8 → M 98 i = m (14 + 5 * i) 15 ∧ M 99 i = m (14 + 5 * i) 16) : Rel m M := fun n => match n with
  | 0 => h0
  | 1 => h1
  | 2 => h2
  | 3 => h3
  | 4 => h4
  | 5 => h5
  | 6 => h6
  | 7 => h7
  | 8 => h8
  | 9 => h9
  | 10 => h10
  | 11 => h11
  | 12 => h12
  | 13 => h13
  | 14 => h14
  | 15 => h15
  | 16 => h16
  | 17 => h17
  | 18 => h18
  | 19 => h19
  | 20 => h20
  | 21 => h21
  | 22 => h22
  | 23 => h23
  | 24 => h24
  | 25 => h25
  | 26 => h26
  | 27 => h27
  | 28 => h28
  | 29 => h29
  | 30 => h30
  | 31 => h31
  | 32 => h32
  | 33 => h33
  | _ + 34 => trivial
theorem Rel.addr {m M : it_Me} (h : Rel m M) {i : Nat} (hi : i < cnt m) : M 79 i = m (14 + 5 * i + 1) 1 := h.ps i hi (79, 1, 1) (by simp [pst])
theorem Rel.ver {m M : it_Me} (h : Rel m M) {i : Nat} (hi : i < cnt m) : M 83 i = m (14 + 5 * i + 1) 7 := h.ps i hi (83, 1, 7) (by simp [pst])
theorem Rel.base {m M : it_Me} (h : Rel m M) {i : Nat} (hi : i < cnt m) : M 89 i = m (14 + 5 * i) 5 := h.ps i hi (89, 0, 5) (by simp [pst])
theorem Rel.size {m M : it_Me} (h : Rel m M) {i : Nat} (hi : i < cnt m) : M 90 i = m (14 + 5 * i) 6 := h.ps i hi (90, 0, 6) (by simp [pst])
theorem Rel.brk {m M : it_Me} (h : Rel m M) {i : Nat} (hi : i < cnt m) : M 91 i = m (14 + 5 * i) 7 := h.ps i hi (91, 0, 7) (by simp [pst])
theorem Rel.low {m M : it_Me} (h : Rel m M) {i : Nat} (hi : i < cnt m) : M 92 i = m (14 + 5 * i) 8 := h.ps i hi (92, 0, 8) (by simp [pst])
theorem Rel.pc {m M : it_Me} (h : Rel m M) {i : Nat} (hi : i < cnt m) : M 94 i = m (14 + 5 * i) 3 := h.ps i hi (94, 0, 3) (by simp [pst])
theorem Rel.state {m M : it_Me} (h : Rel m M) {i : Nat} (hi : i < cnt m) : M 95 i = m (14 + 5 * i) 9 := h.ps i hi (95, 0, 9) (by simp [pst])
theorem Rel.held {m M : it_Me} (h : Rel m M) {i : Nat} (hi : i < cnt m) : M 96 i = m (14 + 5 * i) 10 := h.ps i hi (96, 0, 10) (by simp [pst])
theorem Rel.wd {m M : it_Me} (h : Rel m M) {i : Nat} (hi : i < cnt m) : M 98 i = m (14 + 5 * i) 15 := h.ps i hi (98, 0, 15) (by simp [pst])
theorem Rel.wn {m M : it_Me} (h : Rel m M) {i : Nat} (hi : i < cnt m) : M 99 i = m (14 + 5 * i) 16 := h.ps i hi (99, 0, 16) (by simp [pst])
theorem Rel.rest {m M : it_Me} (h : Rel m M) {i : Nat} (hi : i < cnt m) : M 100 i = m (14 + 5 * i) 12 := h.ps i hi (100, 0, 12) (by simp [pst])
theorem Rel.code {m M : it_Me} (h : Rel m M) {i : Nat} (hi : i < cnt m) : M 101 i = m (14 + 5 * i) 11 := h.ps i hi (101, 0, 11) (by simp [pst])
theorem Rel.queued {m M : it_Me} (h : Rel m M) {i : Nat} (hi : i < cnt m) : M 110 i = m (14 + 5 * i) 14 := h.ps i hi (110, 0, 14) (by simp [pst])
