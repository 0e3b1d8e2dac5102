/-! What always holds of the class. Written by wip/whole/gen_inv.py -/
def sbN (d : Nat) : Nat := ([1, 3, 0, 1, 1, 1, 1, 1, 0] : List Nat).getD d 0
def rbN (d : Nat) : Nat := ([0, 2, 0, 0, 0, 1, 0, 1, 1] : List Nat).getD d 0
def wbN (d : Nat) : Nat := ([0, 2, 0, 0, 1, 1, 0, 1, 0] : List Nat).getD d 0
def owN (d : Nat) : Nat := ([3, 4, 0, 1, 0, 0, 3, 1, 0] : List Nat).getD d 0
def owA (d : Nat) : Nat := 8 * (1 + sbN d + rbN d + wbN d)
def gsz (d : Nat) : Nat := owA d + 4 * owN d
/-- the chain of grants, from an address up to CONTROL -/
def Ch (m : it_Me) (i : Nat) : Int32 → List Nat → Prop
  | a, [] => a = ctl m i
  | a, d :: ds => d < 9 ∧ d ≠ 2 ∧ m (14 + 5 * i + 4) d = a ∧ gw m a = nI d ∧ gw m (a + 4) = (if a + nI (gsz d) = ctl m i then 0 else a + nI (gsz d)) ∧ a.toInt + gsz d ≤ (ctl m i).toInt ∧ Ch m i (a + nI (gsz d)) ds
/-- a buffer is none, or lies in the RAM that the process has, or (for reading) in its app -/
def Bf (m : it_Me) (i : Nat) (a n : Int32) (w : Prop) : Prop := n = 0 ∨ 0 < n.toInt ∧ ((m (14 + 5 * i) 5).toInt ≤ a.toInt ∧ a.toInt + n.toInt ≤ (m (14 + 5 * i) 7).toInt ∨ ¬ w ∧ (m (14 + 5 * i + 1) 1).toInt ≤ a.toInt ∧ a.toInt + n.toInt ≤ (m (14 + 5 * i + 1) 1).toInt + (m (14 + 5 * i + 1) 3).toInt)
def PIc (m : it_Me) (i : Nat) : Nat → Prop
  | 0 => 131072 ≤ (m (14 + 5 * i) 5).toInt ∧ (m (14 + 5 * i) 5).toInt + (m (14 + 5 * i) 6).toInt ≤ 196608 ∧ (m (14 + 5 * i) 6).toInt ∈ ([1024, 2048, 4096, 8192, 16384] : List Int) ∧ (m (14 + 5 * i) 5).toInt % (m (14 + 5 * i) 6).toInt = 0
  | 1 => (m (14 + 5 * i) 5).toInt ≤ (m (14 + 5 * i) 7).toInt ∧ (m (14 + 5 * i) 7).toInt ≤ (m (14 + 5 * i) 8).toInt ∧ (m (14 + 5 * i) 8).toInt ≤ (ctl m i).toInt ∧ (m (14 + 5 * i) 7).toInt % 4 = 0 ∧ (m (14 + 5 * i) 8).toInt % 4 = 0
  | 2 => 65536 ≤ (m (14 + 5 * i + 1) 1).toInt ∧ (m (14 + 5 * i + 1) 1).toInt % 4 = 0 ∧ (m (14 + 5 * i + 1) 3).toInt % 4 = 0 ∧ 16 ≤ (m (14 + 5 * i + 1) 2).toInt ∧ (m (14 + 5 * i + 1) 2).toInt ≤ 512 ∧ (m (14 + 5 * i + 1) 2).toInt % 4 = 0 ∧ (m (14 + 5 * i + 1) 2).toInt ≤ (m (14 + 5 * i + 1) 3).toInt ∧ (m (14 + 5 * i + 1) 1).toInt + (m (14 + 5 * i + 1) 3).toInt ≤ 126976
  | 3 => m (14 + 5 * i + 1) 2 = gh m (m (14 + 5 * i + 1) 1 + 2)
  | 4 => 0 ≤ (m (14 + 5 * i + 1) 5).toInt ∧ (m (14 + 5 * i + 1) 5).toInt + 512 ≤ (m (14 + 5 * i) 6).toInt
  | 5 => 1 ≤ (m (14 + 5 * i) 9).toInt ∧ (m (14 + 5 * i) 9).toInt ≤ 5
  | 6 => m (14 + 5 * i) 10 = 0 ∨ m (14 + 5 * i) 10 = 1
  | 7 => 0 ≤ (m (14 + 5 * i) 14).toInt ∧ (m (14 + 5 * i) 14).toInt ≤ 10
  | 8 => ∀ k : Nat, (k : Int) < (m (14 + 5 * i) 14).toInt → ∃ d, d < 9 ∧ m (14 + 5 * i + 3) (5 * k) = nI d ∧ m (14 + 5 * i + 4) d ≠ 0 ∧ 0 ≤ (m (14 + 5 * i + 3) (5 * k + 1)).toInt ∧ (m (14 + 5 * i + 3) (5 * k + 1)).toInt < (sbN d : Nat)
  | 9 => ∃ ds : List Nat, Ch m i (m (14 + 5 * i) 8) ds ∧ ds.Nodup ∧ (∀ d, d < 9 → d ∉ ds → m (14 + 5 * i + 4) d = 0) ∧ m (14 + 5 * i) 18 = nI ds.length
  | 10 => ∀ d, d < 9 → m (14 + 5 * i + 4) d ≠ 0 → ∀ k, k < rbN d + wbN d → Bf m i (gw m (m (14 + 5 * i + 4) d + nI (8 * (1 + sbN d + k)))) (gw m (m (14 + 5 * i + 4) d + nI (8 * (1 + sbN d + k) + 4))) (rbN d ≤ k)
  | 11 => m (14 + 5 * i + 4) 1 ≠ 0 → ∀ k, k < 4 → 0 ≤ (gw m (m (14 + 5 * i + 4) 1 + nI (64 + 4 * k))).toInt ∧ (gw m (m (14 + 5 * i + 4) 1 + nI (64 + 4 * k))).toInt ≤ 65536
  | 12 => m (14 + 5 * i + 4) 6 ≠ 0 → 0 ≤ (gw m (m (14 + 5 * i + 4) 6 + 16)).toInt ∧ (gw m (m (14 + 5 * i + 4) 6 + 16)).toInt ≤ 2
  | 13 => m (14 + 5 * i) 9 = 4 ∨ m (14 + 5 * i) 9 = 5 → m (14 + 5 * i) 14 = 0 ∧ ∀ d, d < 9 → m (14 + 5 * i + 4) d ≠ 0 → ∀ k, k < owN d → gw m (m (14 + 5 * i + 4) d + nI (owA d + 4 * k)) = 0
  | 14 => m (14 + 5 * i + 1) 10 = 0 ∨ (m (14 + 5 * i + 1) 1).toInt ≤ (m (14 + 5 * i + 1) 10).toInt ∧ 1 ≤ (m (14 + 5 * i + 1) 11).toInt ∧ (m (14 + 5 * i + 1) 11).toInt ≤ 16 ∧ (m (14 + 5 * i + 1) 10).toInt + (m (14 + 5 * i + 1) 11).toInt ≤ 126976
  | 15 => m (14 + 5 * i + 1) 12 = 0 ∨ 65536 ≤ (m (14 + 5 * i + 1) 12).toInt ∧ (m (14 + 5 * i + 1) 12).toInt % 4 = 0 ∧ (m (14 + 5 * i + 1) 12).toInt + 4 ≤ 126976
  | 16 => m (14 + 5 * i + 1) 13 = 0 ∨ 65536 ≤ (m (14 + 5 * i + 1) 13).toInt ∧ (m (14 + 5 * i + 1) 13).toInt % 4 = 0 ∧ 8 ≤ (m (14 + 5 * i + 1) 14).toInt ∧ (m (14 + 5 * i + 1) 14).toInt ≤ 64 ∧ (m (14 + 5 * i + 1) 14).toInt % 8 = 0 ∧ (m (14 + 5 * i + 1) 13).toInt + (m (14 + 5 * i + 1) 14).toInt ≤ 126976
  | 17 => ∀ k, k < 5 → gw m (ctl m i + nI (44 + 4 * k)) = 0
  | 18 => (m (14 + 5 * i) 3).toInt % 2 = 0
  | 19 => ∀ d, d < 9 → m (14 + 5 * i + 4) d ≠ 0 → ∀ n, n < sbN d → (gw m (m (14 + 5 * i + 4) d + nI (8 * (1 + n)))).toInt % 2 = 0
  | 20 => m (14 + 5 * i + 2) 0 = 0
  | _ => True
def PI (m : it_Me) (i : Nat) : Prop := ∀ n, PIc m i n
theorem PI.blk {m : it_Me} {i : Nat} (h : PI m i) : 131072 ≤ (m (14 + 5 * i) 5).toInt ∧ (m (14 + 5 * i) 5).toInt + (m (14 + 5 * i) 6).toInt ≤ 196608 ∧ (m (14 + 5 * i) 6).toInt ∈ ([1024, 2048, 4096, 8192, 16384] : List Int) ∧ (m (14 + 5 * i) 5).toInt % (m (14 + 5 * i) 6).toInt = 0 := h 0
theorem PI.ord {m : it_Me} {i : Nat} (h : PI m i) : (m (14 + 5 * i) 5).toInt ≤ (m (14 + 5 * i) 7).toInt ∧ (m (14 + 5 * i) 7).toInt ≤ (m (14 + 5 * i) 8).toInt ∧ (m (14 + 5 * i) 8).toInt ≤ (ctl m i).toInt ∧ (m (14 + 5 * i) 7).toInt % 4 = 0 ∧ (m (14 + 5 * i) 8).toInt % 4 = 0 := h 1
theorem PI.app {m : it_Me} {i : Nat} (h : PI m i) : 65536 ≤ (m (14 + 5 * i + 1) 1).toInt ∧ (m (14 + 5 * i + 1) 1).toInt % 4 = 0 ∧ (m (14 + 5 * i + 1) 3).toInt % 4 = 0 ∧ 16 ≤ (m (14 + 5 * i + 1) 2).toInt ∧ (m (14 + 5 * i + 1) 2).toInt ≤ 512 ∧ (m (14 + 5 * i + 1) 2).toInt % 4 = 0 ∧ (m (14 + 5 * i + 1) 2).toInt ≤ (m (14 + 5 * i + 1) 3).toInt ∧ (m (14 + 5 * i + 1) 1).toInt + (m (14 + 5 * i + 1) 3).toInt ≤ 126976 := h 2
theorem PI.hd {m : it_Me} {i : Nat} (h : PI m i) : m (14 + 5 * i + 1) 2 = gh m (m (14 + 5 * i + 1) 1 + 2) := h 3
theorem PI.ram {m : it_Me} {i : Nat} (h : PI m i) : 0 ≤ (m (14 + 5 * i + 1) 5).toInt ∧ (m (14 + 5 * i + 1) 5).toInt + 512 ≤ (m (14 + 5 * i) 6).toInt := h 4
theorem PI.st {m : it_Me} {i : Nat} (h : PI m i) : 1 ≤ (m (14 + 5 * i) 9).toInt ∧ (m (14 + 5 * i) 9).toInt ≤ 5 := h 5
theorem PI.he {m : it_Me} {i : Nat} (h : PI m i) : m (14 + 5 * i) 10 = 0 ∨ m (14 + 5 * i) 10 = 1 := h 6
theorem PI.qn {m : it_Me} {i : Nat} (h : PI m i) : 0 ≤ (m (14 + 5 * i) 14).toInt ∧ (m (14 + 5 * i) 14).toInt ≤ 10 := h 7
theorem PI.q {m : it_Me} {i : Nat} (h : PI m i) : ∀ k : Nat, (k : Int) < (m (14 + 5 * i) 14).toInt → ∃ d, d < 9 ∧ m (14 + 5 * i + 3) (5 * k) = nI d ∧ m (14 + 5 * i + 4) d ≠ 0 ∧ 0 ≤ (m (14 + 5 * i + 3) (5 * k + 1)).toInt ∧ (m (14 + 5 * i + 3) (5 * k + 1)).toInt < (sbN d : Nat) := h 8
theorem PI.gr {m : it_Me} {i : Nat} (h : PI m i) : ∃ ds : List Nat, Ch m i (m (14 + 5 * i) 8) ds ∧ ds.Nodup ∧ (∀ d, d < 9 → d ∉ ds → m (14 + 5 * i + 4) d = 0) ∧ m (14 + 5 * i) 18 = nI ds.length := h 9
theorem PI.bf {m : it_Me} {i : Nat} (h : PI m i) : ∀ d, d < 9 → m (14 + 5 * i + 4) d ≠ 0 → ∀ k, k < rbN d + wbN d → Bf m i (gw m (m (14 + 5 * i + 4) d + nI (8 * (1 + sbN d + k)))) (gw m (m (14 + 5 * i + 4) d + nI (8 * (1 + sbN d + k) + 4))) (rbN d ≤ k) := h 10
theorem PI.ow1 {m : it_Me} {i : Nat} (h : PI m i) : m (14 + 5 * i + 4) 1 ≠ 0 → ∀ k, k < 4 → 0 ≤ (gw m (m (14 + 5 * i + 4) 1 + nI (64 + 4 * k))).toInt ∧ (gw m (m (14 + 5 * i + 4) 1 + nI (64 + 4 * k))).toInt ≤ 65536 := h 11
theorem PI.ow6 {m : it_Me} {i : Nat} (h : PI m i) : m (14 + 5 * i + 4) 6 ≠ 0 → 0 ≤ (gw m (m (14 + 5 * i + 4) 6 + 16)).toInt ∧ (gw m (m (14 + 5 * i + 4) 6 + 16)).toInt ≤ 2 := h 12
theorem PI.ovr {m : it_Me} {i : Nat} (h : PI m i) : m (14 + 5 * i) 9 = 4 ∨ m (14 + 5 * i) 9 = 5 → m (14 + 5 * i) 14 = 0 ∧ ∀ d, d < 9 → m (14 + 5 * i + 4) d ≠ 0 → ∀ k, k < owN d → gw m (m (14 + 5 * i + 4) d + nI (owA d + 4 * k)) = 0 := h 13
theorem PI.nm {m : it_Me} {i : Nat} (h : PI m i) : m (14 + 5 * i + 1) 10 = 0 ∨ (m (14 + 5 * i + 1) 1).toInt ≤ (m (14 + 5 * i + 1) 10).toInt ∧ 1 ≤ (m (14 + 5 * i + 1) 11).toInt ∧ (m (14 + 5 * i + 1) 11).toInt ≤ 16 ∧ (m (14 + 5 * i + 1) 10).toInt + (m (14 + 5 * i + 1) 11).toInt ≤ 126976 := h 14
theorem PI.so {m : it_Me} {i : Nat} (h : PI m i) : m (14 + 5 * i + 1) 12 = 0 ∨ 65536 ≤ (m (14 + 5 * i + 1) 12).toInt ∧ (m (14 + 5 * i + 1) 12).toInt % 4 = 0 ∧ (m (14 + 5 * i + 1) 12).toInt + 4 ≤ 126976 := h 15
theorem PI.pm {m : it_Me} {i : Nat} (h : PI m i) : m (14 + 5 * i + 1) 13 = 0 ∨ 65536 ≤ (m (14 + 5 * i + 1) 13).toInt ∧ (m (14 + 5 * i + 1) 13).toInt % 4 = 0 ∧ 8 ≤ (m (14 + 5 * i + 1) 14).toInt ∧ (m (14 + 5 * i + 1) 14).toInt ≤ 64 ∧ (m (14 + 5 * i + 1) 14).toInt % 8 = 0 ∧ (m (14 + 5 * i + 1) 13).toInt + (m (14 + 5 * i + 1) 14).toInt ≤ 126976 := h 16
theorem PI.cz {m : it_Me} {i : Nat} (h : PI m i) : ∀ k, k < 5 → gw m (ctl m i + nI (44 + 4 * k)) = 0 := h 17
theorem PI.pce {m : it_Me} {i : Nat} (h : PI m i) : (m (14 + 5 * i) 3).toInt % 2 = 0 := h 18
theorem PI.sfe {m : it_Me} {i : Nat} (h : PI m i) : ∀ d, d < 9 → m (14 + 5 * i + 4) d ≠ 0 → ∀ n, n < sbN d → (gw m (m (14 + 5 * i + 4) d + nI (8 * (1 + n)))).toInt % 2 = 0 := h 19
theorem PI.r0 {m : it_Me} {i : Nat} (h : PI m i) : m (14 + 5 * i + 2) 0 = 0 := h 20
theorem PI.mk {m : it_Me} {i : Nat} (h0 : 131072 ≤ (m (14 + 5 * i) 5).toInt ∧ (m (14 + 5 * i) 5).toInt + (m (14 + 5 * i) 6).toInt ≤ 196608 ∧ (m (14 + 5 * i) 6).toInt ∈ ([1024, 2048, 4096, 8192, 16384] : List Int) ∧ (m (14 + 5 * i) 5).toInt % (m (14 + 5 * i) 6).toInt = 0) (h1 : (m (14 + 5 * i) 5).toInt ≤ (m (14 + 5 * i) 7).toInt ∧ (m (14 + 5 * i) 7).toInt ≤ (m (14 + 5 * i) 8).toInt ∧ (m (14 + 5 * i) 8).toInt ≤ (ctl m i).toInt ∧ (m (14 + 5 * i) 7).toInt % 4 = 0 ∧ (m (14 + 5 * i) 8).toInt % 4 = 0) (h2 : 65536 ≤ (m (14 + 5 * i + 1) 1).toInt ∧ (m (14 + 5 * i + 1) 1).toInt % 4 = 0 ∧ (m (14 + 5 * i + 1) 3).toInt % 4 = 0 ∧ 16 ≤ (m (14 + 5 * i + 1) 2).toInt ∧ (m (14 + 5 * i + 1) 2).toInt ≤ 512 ∧ (m (14 + 5 * i + 1) 2).toInt % 4 = 0 ∧ (m (14 + 5 * i + 1) 2).toInt ≤ (m (14 + 5 * i + 1) 3).toInt ∧ (m (14 + 5 * i + 1) 1).toInt + (m (14 + 5 * i + 1) 3).toInt ≤ 126976) (h3 : m (14 + 5 * i + 1) 2 = gh m (m (14 + 5 * i + 1) 1 + 2)) (h4 : 0 ≤ (m (14 + 5 * i + 1) 5).toInt ∧ (m (14 + 5 * i + 1) 5).toInt + 512 ≤ (m (14 + 5 * i) 6).toInt) (h5 : 1 ≤ (m (14 + 5 * i) 9).toInt ∧ (m (14 + 5 * i) 9).toInt ≤ 5) (h6 : m (14 + 5 * i) 10 = 0 ∨ m (14 + 5 * i) 10 = 1) (h7 : 0 ≤ (m (14 + 5 * i) 14).toInt ∧ (m (14 + 5 * i) 14).toInt ≤ 10) (h8 : ∀ k : Nat, (k : Int) < (m (14 + 5 * i) 14).toInt → ∃ d, d < 9 ∧ m (14 + 5 * i + 3) (5 * k) = nI d ∧ m (14 + 5 * i + 4) d ≠ 0 ∧ 0 ≤ (m (14 + 5 * i + 3) (5 * k + 1)).toInt ∧ (m (14 + 5 * i + 3) (5 * k + 1)).toInt < (sbN d : Nat)) (h9 : ∃ ds : List Nat, Ch m i (m (14 + 5 * i) 8) ds ∧ ds.Nodup ∧ (∀ d, d < 9 → d ∉ ds → m (14 + 5 * i + 4) d = 0) ∧ m (14 + 5 * i) 18 = nI ds.length) (h10 : ∀ d, d < 9 → m (14 + 5 * i + 4) d ≠ 0 → ∀ k, k < rbN d + wbN d → Bf m i (gw m (m (14 + 5 * i + 4) d + nI (8 * (1 + sbN d + k)))) (gw m (m (14 + 5 * i + 4) d + nI (8 * (1 + sbN d + k) + 4))) (rbN d ≤ k)) (h11 : m (14 + 5 * i + 4) 1 ≠ 0 → ∀ k, k < 4 → 0 ≤ (gw m (m (14 + 5 * i + 4) 1 + nI (64 + 4 * k))).toInt ∧ (gw m (m (14 + 5 * i + 4) 1 + nI (64 + 4 * k))).toInt ≤ 65536) (h12 : m (14 + 5 * i + 4) 6 ≠ 0 → 0 ≤ (gw m (m (14 + 5 * i + 4) 6 + 16)).toInt ∧ (gw m (m (14 + 5 * i + 4) 6 + 16)).toInt ≤ 2) (h13 : m (14 + 5 * i) 9 = 4 ∨ m (14 + 5 * i) 9 = 5 → m (14 + 5 * i) 14 = 0 ∧ ∀ d, d < 9 → m (14 + 5 * i + 4) d ≠ 0 → ∀ k, k < owN d → gw m (m (14 + 5 * i + 4) d + nI (owA d + 4 * k)) = 0) (h14 : m (14 + 5 * i + 1) 10 = 0 ∨ (m (14 + 5 * i + 1) 1).toInt ≤ (m (14 + 5 * i + 1) 10).toInt ∧ 1 ≤ (m (14 + 5 * i + 1) 11).toInt ∧ (m (14 + 5 * i + 1) 11).toInt ≤ 16 ∧ (m (14 + 5 * i + 1) 10).toInt + (m (14 + 5 * i + 1) 11).toInt ≤ 126976) (h15 : m (14 + 5 * i + 1) 12 = 0 ∨ 65536 ≤ (m (14 + 5 * i + 1) 12).toInt ∧ (m (14 + 5 * i + 1) 12).toInt % 4 = 0 ∧ (m (14 + 5 * i + 1) 12).toInt + 4 ≤ 126976) (h16 : m (14 + 5 * i + 1) 13 = 0 ∨ 65536 ≤ (m (14 + 5 * i + 1) 13).toInt ∧ (m (14 + 5 * i + 1) 13).toInt % 4 = 0 ∧ 8 ≤ (m (14 + 5 * i + 1) 14).toInt ∧ (m (14 + 5 * i + 1) 14).toInt ≤ 64 ∧ (m (14 + 5 * i + 1) 14).toInt % 8 = 0 ∧ (m (14 + 5 * i + 1) 13).toInt + (m (14 + 5 * i + 1) 14).toInt ≤ 126976) (h17 : ∀ k, k < 5 → gw m (ctl m i + nI (44 + 4 * k)) = 0) (h18 : (m (14 + 5 * i) 3).toInt % 2 = 0) (h19 : ∀ d, d < 9 → m (14 + 5 * i + 4) d ≠ 0 → ∀ n, n < sbN d → (gw m (m (14 + 5 * i + 4) d + nI (8 * (1 + n)))).toInt % 2 = 0) (h20 : m (14 + 5 * i + 2) 0 = 0) : PI m i := fun n => match n with
  | 0 => h0
  | 1 => h1
  | 2 => h2
  | 3 => h3
  | 4 => h4
  | 5 => h5
  | 6 => h6
  | 7 => h7
  | 8 => h8
  | 9 => h9
  | 10 => h10
  | 11 => h11
  | 12 => h12
  | 13 => h13
  | 14 => h14
  | 15 => h15
  | 16 => h16
  | 17 => h17
  | 18 => h18
  | 19 => h19
  | 20 => h20
  | _ + 21 => trivial
def Inc (B : Nat) (m : it_Me) : Nat → Prop
  | 0 => 0 ≤ (m 0 9).toInt ∧ (m 0 9).toInt ≤ 8192
  | 1 => ∀ i, it_i2b (m 65 i) = m 65 i
  | 2 => m 0 10 = 0 ∨ m 0 10 = 1
  | 3 => m 0 10 = 0 → m 9 7 = 0 ∧ m 4 0 = 0 ∧ ∀ w, 16384 ≤ w → w < 32768 → m 2 w = 0
  | 4 => 0 ≤ (m 9 7).toInt ∧ (m 9 7).toInt ≤ 8
  | 5 => 0 ≤ (m 5 11).toInt ∧ (m 5 11).toInt ≤ B ∧ (m 4 3).toInt = (m 5 11).toInt % 200 ∧ (m 4 4).toInt = min (m 5 11).toInt 200
  | 6 => 0 ≤ (m 5 3).toInt ∧ (m 5 3).toInt ≤ B ∧ (m 59 9).toInt = min (m 5 3).toInt 4000
  | 7 => ∀ i, i < 8 → m (14 + 5 * i) 0 = nI i
  | 8 => ∀ i, i < 256 → m 3 i = it_tab i
  | 9 => m 7 2 = 0 ∨ m 7 2 = 126976 ∨ m 7 2 = 129024
  | 10 => m 0 10 = 1 → m 7 2 ≠ 0
  | 11 => -1 ≤ (m 7 3).toInt ∧ (m 7 3).toInt ≤ 10000
  | 12 => m 0 10 = 1 → (m 54 2 = 0 ∨ m 54 2 = 1 ∨ m 54 2 = 2) ∧ 1 ≤ (m 54 3).toInt ∧ (m 54 3).toInt ≤ 1000
  | 13 => m 0 10 = 1 → -1 ≤ (m 54 4).toInt ∧ (m 54 4).toInt < (m 9 7).toInt
  | 14 => m 0 10 = 1 → 0 ≤ (m 59 12).toInt ∧ (m 59 12).toInt ≤ B
  | 15 => m 0 10 = 1 → ∀ i, i < cnt m → undW m i → 0 ≤ (m 62 i).toInt ∧ (m 62 i).toInt < (m 59 12).toInt
  | 16 => m 0 10 = 1 → ∀ i, i < cnt m → undR m i → 0 ≤ (m 63 i).toInt ∧ (m 63 i).toInt < (m 59 12).toInt
  | 17 => m 0 10 = 1 → m 54 2 ≠ 2 → ∀ i, i < 8 → m 55 i = 0
  | 18 => m 0 10 = 1 → m 54 2 = 2 → ∀ i, i < cnt m → 0 ≤ (m 55 i).toInt ∧ (m 55 i).toInt ≤ 2 ∧ 0 ≤ (m 56 i).toInt ∧ (m 56 i).toInt ≤ B
  | 19 => m 0 10 = 1 → m 54 2 = 2 → 0 ≤ (m 54 9).toInt ∧ (m 54 9).toInt ≤ B + 7 ∧ (∀ i, i < cnt m → 0 ≤ (m 57 i).toInt ∧ (m 57 i).toInt ≤ (m 54 9).toInt) ∧ ∀ i j, i < cnt m → j < cnt m → m 57 i = m 57 j → i = j
  | 20 => m 0 10 = 1 → ∀ i, i < cnt m → PI m i
  | 21 => m 0 10 = 1 → ∀ i j, j < cnt m → i < j → (m (14 + 5 * i) 5).toInt + (m (14 + 5 * i) 6).toInt ≤ (m (14 + 5 * j) 5).toInt
  | _ => True
def Inv (B : Nat) (m : it_Me) : Prop := ∀ n, Inc B m n
theorem Inv.tl {B : Nat} {m : it_Me} (h : Inv B m) : 0 ≤ (m 0 9).toInt ∧ (m 0 9).toInt ≤ 8192 := h 0
theorem Inv.tp {B : Nat} {m : it_Me} (h : Inv B m) : ∀ i, it_i2b (m 65 i) = m 65 i := h 1
theorem Inv.on {B : Nat} {m : it_Me} (h : Inv B m) : m 0 10 = 0 ∨ m 0 10 = 1 := h 2
theorem Inv.off {B : Nat} {m : it_Me} (h : Inv B m) : m 0 10 = 0 → m 9 7 = 0 ∧ m 4 0 = 0 ∧ ∀ w, 16384 ≤ w → w < 32768 → m 2 w = 0 := h 3
theorem Inv.cn {B : Nat} {m : it_Me} (h : Inv B m) : 0 ≤ (m 9 7).toInt ∧ (m 9 7).toInt ≤ 8 := h 4
theorem Inv.ev {B : Nat} {m : it_Me} (h : Inv B m) : 0 ≤ (m 5 11).toInt ∧ (m 5 11).toInt ≤ B ∧ (m 4 3).toInt = (m 5 11).toInt % 200 ∧ (m 4 4).toInt = min (m 5 11).toInt 200 := h 5
theorem Inv.out {B : Nat} {m : it_Me} (h : Inv B m) : 0 ≤ (m 5 3).toInt ∧ (m 5 3).toInt ≤ B ∧ (m 59 9).toInt = min (m 5 3).toInt 4000 := h 6
theorem Inv.num {B : Nat} {m : it_Me} (h : Inv B m) : ∀ i, i < 8 → m (14 + 5 * i) 0 = nI i := h 7
theorem Inv.crc {B : Nat} {m : it_Me} (h : Inv B m) : ∀ i, i < 256 → m 3 i = it_tab i := h 8
theorem Inv.bk {B : Nat} {m : it_Me} (h : Inv B m) : m 7 2 = 0 ∨ m 7 2 = 126976 ∨ m 7 2 = 129024 := h 9
theorem Inv.bk1 {B : Nat} {m : it_Me} (h : Inv B m) : m 0 10 = 1 → m 7 2 ≠ 0 := h 10
theorem Inv.pw {B : Nat} {m : it_Me} (h : Inv B m) : -1 ≤ (m 7 3).toInt ∧ (m 7 3).toInt ≤ 10000 := h 11
theorem Inv.kd {B : Nat} {m : it_Me} (h : Inv B m) : m 0 10 = 1 → (m 54 2 = 0 ∨ m 54 2 = 1 ∨ m 54 2 = 2) ∧ 1 ≤ (m 54 3).toInt ∧ (m 54 3).toInt ≤ 1000 := h 12
theorem Inv.tn {B : Nat} {m : it_Me} (h : Inv B m) : m 0 10 = 1 → -1 ≤ (m 54 4).toInt ∧ (m 54 4).toInt < (m 9 7).toInt := h 13
theorem Inv.ask {B : Nat} {m : it_Me} (h : Inv B m) : m 0 10 = 1 → 0 ≤ (m 59 12).toInt ∧ (m 59 12).toInt ≤ B := h 14
theorem Inv.askW {B : Nat} {m : it_Me} (h : Inv B m) : m 0 10 = 1 → ∀ i, i < cnt m → undW m i → 0 ≤ (m 62 i).toInt ∧ (m 62 i).toInt < (m 59 12).toInt := h 15
theorem Inv.askR {B : Nat} {m : it_Me} (h : Inv B m) : m 0 10 = 1 → ∀ i, i < cnt m → undR m i → 0 ≤ (m 63 i).toInt ∧ (m 63 i).toInt < (m 59 12).toInt := h 16
theorem Inv.lv0 {B : Nat} {m : it_Me} (h : Inv B m) : m 0 10 = 1 → m 54 2 ≠ 2 → ∀ i, i < 8 → m 55 i = 0 := h 17
theorem Inv.lv2 {B : Nat} {m : it_Me} (h : Inv B m) : m 0 10 = 1 → m 54 2 = 2 → ∀ i, i < cnt m → 0 ≤ (m 55 i).toInt ∧ (m 55 i).toInt ≤ 2 ∧ 0 ≤ (m 56 i).toInt ∧ (m 56 i).toInt ≤ B := h 18
theorem Inv.pl {B : Nat} {m : it_Me} (h : Inv B m) : m 0 10 = 1 → m 54 2 = 2 → 0 ≤ (m 54 9).toInt ∧ (m 54 9).toInt ≤ B + 7 ∧ (∀ i, i < cnt m → 0 ≤ (m 57 i).toInt ∧ (m 57 i).toInt ≤ (m 54 9).toInt) ∧ ∀ i j, i < cnt m → j < cnt m → m 57 i = m 57 j → i = j := h 19
theorem Inv.pi {B : Nat} {m : it_Me} (h : Inv B m) : m 0 10 = 1 → ∀ i, i < cnt m → PI m i := h 20
theorem Inv.dis {B : Nat} {m : it_Me} (h : Inv B m) : m 0 10 = 1 → ∀ i j, j < cnt m → i < j → (m (14 + 5 * i) 5).toInt + (m (14 + 5 * i) 6).toInt ≤ (m (14 + 5 * j) 5).toInt := h 21
theorem Inv.mk {B : Nat} {m : it_Me} (h0 : 0 ≤ (m 0 9).toInt ∧ (m 0 9).toInt ≤ 8192) (h1 : ∀ i, it_i2b (m 65 i) = m 65 i) (h2 : m 0 10 = 0 ∨ m 0 10 = 1) (h3 : m 0 10 = 0 → m 9 7 = 0 ∧ m 4 0 = 0 ∧ ∀ w, 16384 ≤ w → w < 32768 → m 2 w = 0) (h4 : 0 ≤ (m 9 7).toInt ∧ (m 9 7).toInt ≤ 8) (h5 : 0 ≤ (m 5 11).toInt ∧ (m 5 11).toInt ≤ B ∧ (m 4 3).toInt = (m 5 11).toInt % 200 ∧ (m 4 4).toInt = min (m 5 11).toInt 200) (h6 : 0 ≤ (m 5 3).toInt ∧ (m 5 3).toInt ≤ B ∧ (m 59 9).toInt = min (m 5 3).toInt 4000) (h7 : ∀ i, i < 8 → m (14 + 5 * i) 0 = nI i) (h8 : ∀ i, i < 256 → m 3 i = it_tab i) (h9 : m 7 2 = 0 ∨ m 7 2 = 126976 ∨ m 7 2 = 129024) (h10 : m 0 10 = 1 → m 7 2 ≠ 0) (h11 : -1 ≤ (m 7 3).toInt ∧ (m 7 3).toInt ≤ 10000) (h12 : m 0 10 = 1 → (m 54 2 = 0 ∨ m 54 2 = 1 ∨ m 54 2 = 2) ∧ 1 ≤ (m 54 3).toInt ∧ (m 54 3).toInt ≤ 1000) (h13 : m 0 10 = 1 → -1 ≤ (m 54 4).toInt ∧ (m 54 4).toInt < (m 9 7).toInt) (h14 : m 0 10 = 1 → 0 ≤ (m 59 12).toInt ∧ (m 59 12).toInt ≤ B) (h15 : m 0 10 = 1 → ∀ i, i < cnt m → undW m i → 0 ≤ (m 62 i).toInt ∧ (m 62 i).toInt < (m 59 12).toInt) (h16 : m 0 10 = 1 → ∀ i, i < cnt m → undR m i → 0 ≤ (m 63 i).toInt ∧ (m 63 i).toInt < (m 59 12).toInt) (h17 : m 0 10 = 1 → m 54 2 ≠ 2 → ∀ i, i < 8 → m 55 i = 0) (h18 : m 0 10 = 1 → m 54 2 = 2 → ∀ i, i < cnt m → 0 ≤ (m 55 i).toInt ∧ (m 55 i).toInt ≤ 2 ∧ 0 ≤ (m 56 i).toInt ∧ (m 56 i).toInt ≤ B) (h19 : m 0 10 = 1 → m 54 2 = 2 → 0 ≤ (m 54 9).toInt ∧ (m 54 9).toInt ≤ B + 7 ∧ (∀ i, i < cnt m → 0 ≤ (m 57 i).toInt ∧ (m 57 i).toInt ≤ (m 54 9).toInt) ∧ ∀ i j, i < cnt m → j < cnt m → m 57 i = m 57 j → i = j) (h20 : m 0 10 = 1 → ∀ i, i < cnt m → PI m i) (h21 : m 0 10 = 1 → ∀ i j, j < cnt m → i < j → (m (14 + 5 * i) 5).toInt + (m (14 + 5 * i) 6).toInt ≤ (m (14 + 5 * j) 5).toInt) : Inv B m := fun n => match n with
  | 0 => h0
  | 1 => h1
  | 2 => h2
  | 3 => h3
  | 4 => h4
  | 5 => h5
  | 6 => h6
  | 7 => h7
  | 8 => h8
  | 9 => h9
  | 10 => h10
  | 11 => h11
  | 12 => h12
  | 13 => h13
  | 14 => h14
  | 15 => h15
  | 16 => h16
  | 17 => h17
  | 18 => h18
  | 19 => h19
  | 20 => h20
  | 21 => h21
  | _ + 22 => trivial
theorem cnt_eq {B : Nat} {m : it_Me} (h : Inv B m) : (cnt m : Int) = (m 9 7).toInt := by
  have := h.cn
  unfold cnt
  rw [clampI]
  omega
theorem cnt_le {B : Nat} {m : it_Me} (h : Inv B m) : cnt m ≤ 8 := by
  have := h.cn
  have := cnt_eq h
  omega
def FrC (m m' : it_Me) : Prop := ∀ k, 66 ≤ k → m' k = m k
def FrM (M M' : it_Me) : Prop := ∀ k, k < 66 → M' k = M k
theorem FrC.rfl {m : it_Me} : FrC m m := fun _ _ => Eq.refl _
theorem FrM.rfl {m : it_Me} : FrM m m := fun _ _ => Eq.refl _
theorem FrC.trans {a b c : it_Me} (h : FrC a b) (g : FrC b c) : FrC a c := fun k hk => (g k hk).trans (h k hk)
theorem FrM.trans {a b c : it_Me} (h : FrM a b) (g : FrM b c) : FrM a c := fun k hk => (g k hk).trans (h k hk)
theorem FrC.sv {a b : it_Me} (h : FrC a b) {k i : Nat} {v : Int32} (hk : k < 66) : FrC a (it_sv b k i v) := fun j hj => by rw [sv_cell _ _ _ _ (by omega)]; exact h j hj
theorem FrM.sv {a b : it_Me} (h : FrM a b) {k i : Nat} {v : Int32} (hk : 66 ≤ k) : FrM a (it_sv b k i v) := fun j hj => by rw [sv_cell _ _ _ _ (by omega)]; exact h j hj
theorem FrC.up {a b : it_Me} (h : FrC a b) {k : Nat} {f : Nat → Int32} (hk : k < 66) : FrC a (it_up b k f) := fun j hj => by rw [up_cell _ _ _ (by omega)]; exact h j hj
theorem FrM.up {a b : it_Me} (h : FrM a b) {k : Nat} {f : Nat → Int32} (hk : 66 ≤ k) : FrM a (it_up b k f) := fun j hj => by rw [up_cell _ _ _ (by omega)]; exact h j hj
