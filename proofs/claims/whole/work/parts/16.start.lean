/-! The law's start: the statics, the classes; the claim out of a run of the small machine. Written by wip/whole/gen_start.py -/
def it_kc0 (L : Nat) (xs : Nat → Int32) : it_Kc := fun j => match j with
  | 0 => (6, fun i => ([5, 6, 7, 8, 0, 9] : List Int32).getD i 0)
  | 1 => (9, fun i => ([3, 4, 0, 1, 0, 0, 3, 1, 0] : List Int32).getD i 0)
  | 2 => (9, fun i => ([1, 3, 0, 1, 1, 1, 1, 1, 0] : List Int32).getD i 0)
  | 3 => (9, fun i => ([0, 2, 0, 0, 0, 1, 0, 1, 1] : List Int32).getD i 0)
  | 4 => (9, fun i => ([0, 2, 0, 0, 1, 1, 0, 1, 0] : List Int32).getD i 0)
  | 5 => (9, fun i => ([0, 0, 4, 4, 0, 0, 2, 0, 0] : List Int32).getD i 0)
  | 6 => (9, fun i => ([110, 14, 14, 14, 2, 14, 14, 14, 2] : List Int32).getD i 0)
  | _ => (L, xs)
set_option maxRecDepth 100000 in
theorem it_stat0 {args : Array Value} {s : State} (hts : ∀ w ∈ lw_tbl, w.before args s = true) (hgv : (Jvm.Cond.and given_1 narrow_1).before args s = true) (L : Nat) (xs : Nat → Int32) : ∃ t, va_Z "GrantBoard$Journal" "COUNT_OF" "[I" (.ref t) (it_A s.heap.size) s s.heap ∧ va_T .int t (it_kc0 L xs 0).1 (fun i => .int ((it_kc0 L xs 0).2 i)) (it_A s.heap.size) s s.heap := by
  have hs := flat_of_before _ hgv
  have hA : ∀ a : Nat, a < s.heap.size → ¬ it_A s.heap.size a := fun a h q => Nat.not_le.mpr h q
  obtain ⟨t, ht, hT⟩ := va_Tof (tm := .static "GrantBoard$Journal" "COUNT_OF" "[I") (ty := .int) (N := 6) (f := fun i => .int ((it_kc0 L xs 0).2 i)) (A := it_A s.heap.size) (by decide) (hs _ (List.mem_of_getElem? (i := 41) rfl)) (va_eqt (hs _ (List.mem_of_getElem? (i := 42) rfl))) (fun i hi => by
    match i, hi with
    | 0, _ => exact va_eqt (hs _ (List.mem_of_getElem? (i := 43) rfl))
    | 1, _ => exact va_eqt (hs _ (List.mem_of_getElem? (i := 44) rfl))
    | 2, _ => exact va_eqt (hs _ (List.mem_of_getElem? (i := 45) rfl))
    | 3, _ => exact va_eqt (hs _ (List.mem_of_getElem? (i := 46) rfl))
    | 4, _ => exact va_eqt (hs _ (List.mem_of_getElem? (i := 47) rfl))
    | 5, _ => exact va_eqt (hs _ (List.mem_of_getElem? (i := 48) rfl))
    | i + 6, hi => exact absurd hi (by omega)) hA
  exact ⟨t, va_Zof (hts _ (it_seg_in 3 _ (List.mem_of_getElem? (i := 10) rfl))) (hts _ (it_seg_in 0 _ (List.mem_of_getElem? (i := 4) rfl))) ht hA, hT⟩
set_option maxRecDepth 100000 in
theorem it_stat1 {args : Array Value} {s : State} (hts : ∀ w ∈ lw_tbl, w.before args s = true) (hgv : (Jvm.Cond.and given_1 narrow_1).before args s = true) (L : Nat) (xs : Nat → Int32) : ∃ t, va_Z "GrantBoard" "OWN_WORDS" "[I" (.ref t) (it_A s.heap.size) s s.heap ∧ va_T .int t (it_kc0 L xs 1).1 (fun i => .int ((it_kc0 L xs 1).2 i)) (it_A s.heap.size) s s.heap := by
  have hs := flat_of_before _ hgv
  have hA : ∀ a : Nat, a < s.heap.size → ¬ it_A s.heap.size a := fun a h q => Nat.not_le.mpr h q
  obtain ⟨t, ht, hT⟩ := va_Tof (tm := .static "GrantBoard" "OWN_WORDS" "[I") (ty := .int) (N := 9) (f := fun i => .int ((it_kc0 L xs 1).2 i)) (A := it_A s.heap.size) (by decide) (hs _ (List.mem_of_getElem? (i := 50) rfl)) (va_eqt (hs _ (List.mem_of_getElem? (i := 51) rfl))) (fun i hi => by
    match i, hi with
    | 0, _ => exact va_eqt (hs _ (List.mem_of_getElem? (i := 52) rfl))
    | 1, _ => exact va_eqt (hs _ (List.mem_of_getElem? (i := 53) rfl))
    | 2, _ => exact va_eqt (hs _ (List.mem_of_getElem? (i := 54) rfl))
    | 3, _ => exact va_eqt (hs _ (List.mem_of_getElem? (i := 55) rfl))
    | 4, _ => exact va_eqt (hs _ (List.mem_of_getElem? (i := 56) rfl))
    | 5, _ => exact va_eqt (hs _ (List.mem_of_getElem? (i := 57) rfl))
    | 6, _ => exact va_eqt (hs _ (List.mem_of_getElem? (i := 58) rfl))
    | 7, _ => exact va_eqt (hs _ (List.mem_of_getElem? (i := 59) rfl))
    | 8, _ => exact va_eqt (hs _ (List.mem_of_getElem? (i := 60) rfl))
    | i + 9, hi => exact absurd hi (by omega)) hA
  exact ⟨t, va_Zof (hts _ (it_seg_in 4 _ (List.mem_of_getElem? (i := 67) rfl))) (hts _ (it_seg_in 0 _ (List.mem_of_getElem? (i := 1) rfl))) ht hA, hT⟩
set_option maxRecDepth 100000 in
theorem it_stat2 {args : Array Value} {s : State} (hts : ∀ w ∈ lw_tbl, w.before args s = true) (hgv : (Jvm.Cond.and given_1 narrow_1).before args s = true) (L : Nat) (xs : Nat → Int32) : ∃ t, va_Z "GrantBoard" "SUBSCRIPTIONS" "[I" (.ref t) (it_A s.heap.size) s s.heap ∧ va_T .int t (it_kc0 L xs 2).1 (fun i => .int ((it_kc0 L xs 2).2 i)) (it_A s.heap.size) s s.heap := by
  have hs := flat_of_before _ hgv
  have hA : ∀ a : Nat, a < s.heap.size → ¬ it_A s.heap.size a := fun a h q => Nat.not_le.mpr h q
  obtain ⟨t, ht, hT⟩ := va_Tof (tm := .static "GrantBoard" "SUBSCRIPTIONS" "[I") (ty := .int) (N := 9) (f := fun i => .int ((it_kc0 L xs 2).2 i)) (A := it_A s.heap.size) (by decide) (hs _ (List.mem_of_getElem? (i := 5) rfl)) (va_eqt (hs _ (List.mem_of_getElem? (i := 6) rfl))) (fun i hi => by
    match i, hi with
    | 0, _ => exact va_eqt (hs _ (List.mem_of_getElem? (i := 7) rfl))
    | 1, _ => exact va_eqt (hs _ (List.mem_of_getElem? (i := 8) rfl))
    | 2, _ => exact va_eqt (hs _ (List.mem_of_getElem? (i := 9) rfl))
    | 3, _ => exact va_eqt (hs _ (List.mem_of_getElem? (i := 10) rfl))
    | 4, _ => exact va_eqt (hs _ (List.mem_of_getElem? (i := 11) rfl))
    | 5, _ => exact va_eqt (hs _ (List.mem_of_getElem? (i := 12) rfl))
    | 6, _ => exact va_eqt (hs _ (List.mem_of_getElem? (i := 13) rfl))
    | 7, _ => exact va_eqt (hs _ (List.mem_of_getElem? (i := 14) rfl))
    | 8, _ => exact va_eqt (hs _ (List.mem_of_getElem? (i := 15) rfl))
    | i + 9, hi => exact absurd hi (by omega)) hA
  exact ⟨t, va_Zof (hts _ (it_seg_in 2 _ (List.mem_of_getElem? (i := 221) rfl))) (hts _ (it_seg_in 0 _ (List.mem_of_getElem? (i := 1) rfl))) ht hA, hT⟩
set_option maxRecDepth 100000 in
theorem it_stat3 {args : Array Value} {s : State} (hts : ∀ w ∈ lw_tbl, w.before args s = true) (hgv : (Jvm.Cond.and given_1 narrow_1).before args s = true) (L : Nat) (xs : Nat → Int32) : ∃ t, va_Z "GrantBoard" "READ_BUFFERS" "[I" (.ref t) (it_A s.heap.size) s s.heap ∧ va_T .int t (it_kc0 L xs 3).1 (fun i => .int ((it_kc0 L xs 3).2 i)) (it_A s.heap.size) s s.heap := by
  have hs := flat_of_before _ hgv
  have hA : ∀ a : Nat, a < s.heap.size → ¬ it_A s.heap.size a := fun a h q => Nat.not_le.mpr h q
  obtain ⟨t, ht, hT⟩ := va_Tof (tm := .static "GrantBoard" "READ_BUFFERS" "[I") (ty := .int) (N := 9) (f := fun i => .int ((it_kc0 L xs 3).2 i)) (A := it_A s.heap.size) (by decide) (hs _ (List.mem_of_getElem? (i := 17) rfl)) (va_eqt (hs _ (List.mem_of_getElem? (i := 18) rfl))) (fun i hi => by
    match i, hi with
    | 0, _ => exact va_eqt (hs _ (List.mem_of_getElem? (i := 19) rfl))
    | 1, _ => exact va_eqt (hs _ (List.mem_of_getElem? (i := 20) rfl))
    | 2, _ => exact va_eqt (hs _ (List.mem_of_getElem? (i := 21) rfl))
    | 3, _ => exact va_eqt (hs _ (List.mem_of_getElem? (i := 22) rfl))
    | 4, _ => exact va_eqt (hs _ (List.mem_of_getElem? (i := 23) rfl))
    | 5, _ => exact va_eqt (hs _ (List.mem_of_getElem? (i := 24) rfl))
    | 6, _ => exact va_eqt (hs _ (List.mem_of_getElem? (i := 25) rfl))
    | 7, _ => exact va_eqt (hs _ (List.mem_of_getElem? (i := 26) rfl))
    | 8, _ => exact va_eqt (hs _ (List.mem_of_getElem? (i := 27) rfl))
    | i + 9, hi => exact absurd hi (by omega)) hA
  exact ⟨t, va_Zof (hts _ (it_seg_in 2 _ (List.mem_of_getElem? (i := 223) rfl))) (hts _ (it_seg_in 0 _ (List.mem_of_getElem? (i := 1) rfl))) ht hA, hT⟩
set_option maxRecDepth 100000 in
theorem it_stat4 {args : Array Value} {s : State} (hts : ∀ w ∈ lw_tbl, w.before args s = true) (hgv : (Jvm.Cond.and given_1 narrow_1).before args s = true) (L : Nat) (xs : Nat → Int32) : ∃ t, va_Z "GrantBoard" "WRITE_BUFFERS" "[I" (.ref t) (it_A s.heap.size) s s.heap ∧ va_T .int t (it_kc0 L xs 4).1 (fun i => .int ((it_kc0 L xs 4).2 i)) (it_A s.heap.size) s s.heap := by
  have hs := flat_of_before _ hgv
  have hA : ∀ a : Nat, a < s.heap.size → ¬ it_A s.heap.size a := fun a h q => Nat.not_le.mpr h q
  obtain ⟨t, ht, hT⟩ := va_Tof (tm := .static "GrantBoard" "WRITE_BUFFERS" "[I") (ty := .int) (N := 9) (f := fun i => .int ((it_kc0 L xs 4).2 i)) (A := it_A s.heap.size) (by decide) (hs _ (List.mem_of_getElem? (i := 29) rfl)) (va_eqt (hs _ (List.mem_of_getElem? (i := 30) rfl))) (fun i hi => by
    match i, hi with
    | 0, _ => exact va_eqt (hs _ (List.mem_of_getElem? (i := 31) rfl))
    | 1, _ => exact va_eqt (hs _ (List.mem_of_getElem? (i := 32) rfl))
    | 2, _ => exact va_eqt (hs _ (List.mem_of_getElem? (i := 33) rfl))
    | 3, _ => exact va_eqt (hs _ (List.mem_of_getElem? (i := 34) rfl))
    | 4, _ => exact va_eqt (hs _ (List.mem_of_getElem? (i := 35) rfl))
    | 5, _ => exact va_eqt (hs _ (List.mem_of_getElem? (i := 36) rfl))
    | 6, _ => exact va_eqt (hs _ (List.mem_of_getElem? (i := 37) rfl))
    | 7, _ => exact va_eqt (hs _ (List.mem_of_getElem? (i := 38) rfl))
    | 8, _ => exact va_eqt (hs _ (List.mem_of_getElem? (i := 39) rfl))
    | i + 9, hi => exact absurd hi (by omega)) hA
  exact ⟨t, va_Zof (hts _ (it_seg_in 2 _ (List.mem_of_getElem? (i := 225) rfl))) (hts _ (it_seg_in 0 _ (List.mem_of_getElem? (i := 1) rfl))) ht hA, hT⟩
set_option maxRecDepth 100000 in
theorem it_stat5 {args : Array Value} {s : State} (hts : ∀ w ∈ lw_tbl, w.before args s = true) (hgv : (Jvm.Cond.and given_1 narrow_1).before args s = true) (L : Nat) (xs : Nat → Int32) : ∃ t, va_Z "GrantBoard" "HOW_MANY" "[I" (.ref t) (it_A s.heap.size) s s.heap ∧ va_T .int t (it_kc0 L xs 5).1 (fun i => .int ((it_kc0 L xs 5).2 i)) (it_A s.heap.size) s s.heap := by
  have hs := flat_of_before _ hgv
  have hA : ∀ a : Nat, a < s.heap.size → ¬ it_A s.heap.size a := fun a h q => Nat.not_le.mpr h q
  obtain ⟨t, ht, hT⟩ := va_Tof (tm := .static "GrantBoard" "HOW_MANY" "[I") (ty := .int) (N := 9) (f := fun i => .int ((it_kc0 L xs 5).2 i)) (A := it_A s.heap.size) (by decide) (hs _ (List.mem_of_getElem? (i := 62) rfl)) (va_eqt (hs _ (List.mem_of_getElem? (i := 63) rfl))) (fun i hi => by
    match i, hi with
    | 0, _ => exact va_eqt (hs _ (List.mem_of_getElem? (i := 64) rfl))
    | 1, _ => exact va_eqt (hs _ (List.mem_of_getElem? (i := 65) rfl))
    | 2, _ => exact va_eqt (hs _ (List.mem_of_getElem? (i := 66) rfl))
    | 3, _ => exact va_eqt (hs _ (List.mem_of_getElem? (i := 67) rfl))
    | 4, _ => exact va_eqt (hs _ (List.mem_of_getElem? (i := 68) rfl))
    | 5, _ => exact va_eqt (hs _ (List.mem_of_getElem? (i := 69) rfl))
    | 6, _ => exact va_eqt (hs _ (List.mem_of_getElem? (i := 70) rfl))
    | 7, _ => exact va_eqt (hs _ (List.mem_of_getElem? (i := 71) rfl))
    | 8, _ => exact va_eqt (hs _ (List.mem_of_getElem? (i := 72) rfl))
    | i + 9, hi => exact absurd hi (by omega)) hA
  exact ⟨t, va_Zof (hts _ (it_seg_in 4 _ (List.mem_of_getElem? (i := 93) rfl))) (hts _ (it_seg_in 0 _ (List.mem_of_getElem? (i := 1) rfl))) ht hA, hT⟩
set_option maxRecDepth 100000 in
theorem it_stat6 {args : Array Value} {s : State} (hts : ∀ w ∈ lw_tbl, w.before args s = true) (hgv : (Jvm.Cond.and given_1 narrow_1).before args s = true) (L : Nat) (xs : Nat → Int32) : ∃ t, va_Z "GrantBoard" "COMMANDS" "[I" (.ref t) (it_A s.heap.size) s s.heap ∧ va_T .int t (it_kc0 L xs 6).1 (fun i => .int ((it_kc0 L xs 6).2 i)) (it_A s.heap.size) s s.heap := by
  have hs := flat_of_before _ hgv
  have hA : ∀ a : Nat, a < s.heap.size → ¬ it_A s.heap.size a := fun a h q => Nat.not_le.mpr h q
  obtain ⟨t, ht, hT⟩ := va_Tof (tm := .static "GrantBoard" "COMMANDS" "[I") (ty := .int) (N := 9) (f := fun i => .int ((it_kc0 L xs 6).2 i)) (A := it_A s.heap.size) (by decide) (hs _ (List.mem_of_getElem? (i := 74) rfl)) (va_eqt (hs _ (List.mem_of_getElem? (i := 75) rfl))) (fun i hi => by
    match i, hi with
    | 0, _ => exact va_eqt (hs _ (List.mem_of_getElem? (i := 76) rfl))
    | 1, _ => exact va_eqt (hs _ (List.mem_of_getElem? (i := 77) rfl))
    | 2, _ => exact va_eqt (hs _ (List.mem_of_getElem? (i := 78) rfl))
    | 3, _ => exact va_eqt (hs _ (List.mem_of_getElem? (i := 79) rfl))
    | 4, _ => exact va_eqt (hs _ (List.mem_of_getElem? (i := 80) rfl))
    | 5, _ => exact va_eqt (hs _ (List.mem_of_getElem? (i := 81) rfl))
    | 6, _ => exact va_eqt (hs _ (List.mem_of_getElem? (i := 82) rfl))
    | 7, _ => exact va_eqt (hs _ (List.mem_of_getElem? (i := 83) rfl))
    | 8, _ => exact va_eqt (hs _ (List.mem_of_getElem? (i := 84) rfl))
    | i + 9, hi => exact absurd hi (by omega)) hA
  exact ⟨t, va_Zof (hts _ (it_seg_in 4 _ (List.mem_of_getElem? (i := 109) rfl))) (hts _ (it_seg_in 0 _ (List.mem_of_getElem? (i := 1) rfl))) ht hA, hT⟩
theorem it_tb_in {w : Cond} (h : w ∈ it_tb) : w ∈ lw_tbl := (List.mem_filter.mp h).1
theorem it_known {args : Array Value} {s : State} (hts : ∀ w ∈ lw_tbl, w.before args s = true) : ∃ D : va_G, va_K D it_cl [] s := by
  obtain ⟨c0, i0, h0⟩ := u_known (C := RX0) (T := TX0) (N := 15) (n := 15) hts (fun w h => it_tb_in (it_cw0 w h)) (hts _ (it_seg_in 0 _ (List.mem_of_getElem? (i := 118) rfl)))
  obtain ⟨c1, i1, h1⟩ := u_known (C := RX1) (T := TX1) (N := 2) (n := 2) hts (fun w h => it_tb_in (it_cw1 w h)) (hts _ (it_seg_in 0 _ (List.mem_of_getElem? (i := 26) rfl)))
  obtain ⟨c2, i2, h2⟩ := u_known (C := RX3) (T := TX3) (N := 13) (n := 13) hts (fun w h => it_tb_in (it_cw2 w h)) (hts _ (it_seg_in 1 _ (List.mem_of_getElem? (i := 143) rfl)))
  obtain ⟨c3, i3, h3⟩ := u_known (C := RX4) (T := TX4) (N := 5) (n := 5) hts (fun w h => it_tb_in (it_cw3 w h)) (hts _ (it_seg_in 0 _ (List.mem_of_getElem? (i := 48) rfl)))
  obtain ⟨c4, i4, h4⟩ := u_known (C := RX5) (T := TX5) (N := 9) (n := 9) hts (fun w h => it_tb_in (it_cw4 w h)) (hts _ (it_seg_in 0 _ (List.mem_of_getElem? (i := 110) rfl)))
  obtain ⟨c5, i5, h5⟩ := u_known (C := RX6) (T := TX6) (N := 3) (n := 3) hts (fun w h => it_tb_in (it_cw5 w h)) (hts _ (it_seg_in 1 _ (List.mem_of_getElem? (i := 125) rfl)))
  obtain ⟨c6, i6, h6⟩ := u_known (C := RX7) (T := TX7) (N := 19) (n := 19) hts (fun w h => it_tb_in (it_cw6 w h)) (hts _ (it_seg_in 0 _ (List.mem_of_getElem? (i := 183) rfl)))
  obtain ⟨c7, i7, h7⟩ := u_known (C := RX8) (T := TX8) (N := 10) (n := 10) hts (fun w h => it_tb_in (it_cw7 w h)) (hts _ (it_seg_in 1 _ (List.mem_of_getElem? (i := 86) rfl)))
  obtain ⟨c8, i8, h8⟩ := u_known (C := RX9) (T := TX9) (N := 8) (n := 8) hts (fun w h => it_tb_in (it_cw8 w h)) (hts _ (it_seg_in 0 _ (List.mem_of_getElem? (i := 76) rfl)))
  obtain ⟨c9, i9, h9⟩ := u_known (C := RX10) (T := TX10) (N := 3) (n := 3) hts (fun w h => it_tb_in (it_cw9 w h)) (hts _ (it_seg_in 1 _ (List.mem_of_getElem? (i := 192) rfl)))
  obtain ⟨c10, i10, h10⟩ := u_known (C := RX11) (T := TX11) (N := 11) (n := 11) hts (fun w h => it_tb_in (it_cw10 w h)) (hts _ (it_seg_in 0 _ (List.mem_of_getElem? (i := 18) rfl)))
  obtain ⟨c11, i11, h11⟩ := u_known (C := RX12) (T := TX12) (N := 72) (n := 72) hts (fun w h => it_tb_in (it_cw11 w h)) (hts _ (it_seg_in 5 _ (List.mem_of_getElem? (i := 187) rfl)))
  refine ⟨(fun k => ([c0, c1, c2, c3, c4, c5, c6, c7, c8, c9, c10, c11] : List ClassId).getD k 0, fun k => ([i0, i1, i2, i3, i4, i5, i6, i7, i8, i9, i10, i11] : List (Nat → Nat)).getD k (fun _ => 0)), fun k q hq => ?_, fun k q hq => by simp at hq⟩
  match k, hq with
  | 0, hq => cases hq; exact h0
  | 1, hq => cases hq; exact h1
  | 2, hq => cases hq; exact h2
  | 3, hq => cases hq; exact h3
  | 4, hq => cases hq; exact h4
  | 5, hq => cases hq; exact h5
  | 6, hq => cases hq; exact h6
  | 7, hq => cases hq; exact h7
  | 8, hq => cases hq; exact h8
  | 9, hq => cases hq; exact h9
  | 10, hq => cases hq; exact h10
  | 11, hq => cases hq; exact h11
  | k + 12, hq => simp [it_cl] at hq
/-- THE CLAIM, of the small machine: the law, from nothing, answers 1 -/
def it_Claim : Prop := ∀ (L : Nat) (xs : Nat → Int32), L ≤ 384 → ∃ n sh' mem', it_run (it_kc0 L xs) n 363 0 (it_loc0 [.ref (it_K + 7)] 4) [] [] (fun _ _ => 0) = some (some (.int 1), sh', mem') ∧ sh'.length ≤ 600000 ∧ it_sl sh' ≤ 7302250
set_option maxHeartbeats 4000000 in
set_option maxRecDepth 100000 in
theorem it_start (hcl : it_Claim) {p : Program} {e : Env} {s : State} {m : MethodId} {below : List Frame} {meth : Method} {c : Code} (l : Launch) {b L : Nat} {xs : Nat → Int32} (hL : L ≤ 384) (hx : p.tables.exec = Jvm.exec) (hb : c.code = code) (hr : meth.sig.returnType = ret) (hml : c.maxLocals = 4) (hname : meth.name = "law") (hown : s.vm.findClass "GrantBoardLaw" = some m.cls) (hts : ∀ w ∈ lw_tbl, w.before #[Value.ref b] s = true) (hX : va_X b L xs s s.heap) (hbl : b < s.heap.size) (hgv : (Jvm.Cond.and given_1 narrow_1).before #[Value.ref b] s = true) {Q : State → Prop}
    (hend : ∀ (H : Heap) (pc : Nat) (ls : Array Slot), decode code pc = .ok (.ireturn, 1) → W p l e room_1 s m #[Value.ref b] below meth c H [] 600000 7302250 Q (F0 m pc ls [.int 1])) : W p l e room_1 s m #[Value.ref b] below meth c s.heap [] 0 0 Q (entryFrame m ([Value.ref b] : List Value).toArray 4) := by
  obtain ⟨D, hK⟩ := it_known hts
  obtain ⟨t0, hZ0, hT0⟩ := it_stat0 hts hgv L xs
  obtain ⟨t1, hZ1, hT1⟩ := it_stat1 hts hgv L xs
  obtain ⟨t2, hZ2, hT2⟩ := it_stat2 hts hgv L xs
  obtain ⟨t3, hZ3, hT3⟩ := it_stat3 hts hgv L xs
  obtain ⟨t4, hZ4, hT4⟩ := it_stat4 hts hgv L xs
  obtain ⟨t5, hZ5, hT5⟩ := it_stat5 hts hgv L xs
  obtain ⟨t6, hZ6, hT6⟩ := it_stat6 hts hgv L xs
  obtain ⟨scr, x1, x2, x3, x4, x5⟩ := hX
  have hT7 : va_T .int b L (fun i => .int (xs i)) (it_A s.heap.size) s s.heap := ⟨scr, x1, x2, x3, by omega, by rw [x4], x5, fun q => Nat.not_le.mpr hbl q⟩
  let ka : Nat → Nat := fun j => ([t0, t1, t2, t3, t4, t5, t6, b] : List Nat).getD j 0
  have hKo : it_Ko s.heap.size ka (it_kc0 L xs) s s.heap := by
    refine ⟨fun j hj => ?_, fun j z hz => ?_⟩
    · match j, hj with
      | 0, _ => exact hT0
      | 1, _ => exact hT1
      | 2, _ => exact hT2
      | 3, _ => exact hT3
      | 4, _ => exact hT4
      | 5, _ => exact hT5
      | 6, _ => exact hT6
      | 7, _ => exact hT7
      | j + 8, hj => exact absurd hj (by omega)
    · match j, hz with
      | 0, hz => cases hz; exact hZ0
      | 1, hz => cases hz; exact hZ1
      | 2, hz => cases hz; exact hZ2
      | 3, hz => cases hz; exact hZ3
      | 4, hz => cases hz; exact hZ4
      | 5, hz => cases hz; exact hZ5
      | 6, hz => cases hz; exact hZ6
      | j + 7, hz => simp [it_st] at hz
  obtain ⟨n, sh', mem', hrun, hc, hs⟩ := hcl L xs hL
  rw [lg_entry_eq]
  have hM : it_mt[363]? = some ((15, ⟨"GrantBoardLaw", "law", "([I)Z"⟩), (code, 4, some Jvm.ClassFile.FieldType.boolean), 1, 14, 356) := rfl
  have hka : it_ad s.heap.size ka (it_K + 7) = b := by
    show (if it_K + 7 < it_K then _ else _) = b
    rw [if_neg (by omega), Nat.add_sub_cancel_left]
    rfl
  have hentry := it_Lo.entry (ad := it_ad s.heap.size ka) (vs := [.ref (it_K + 7)]) (n := 4) (by decide)
  have hvs : ([Value.ref (it_K + 7)] : List Value).map (it_cv (it_ad s.heap.size ka)) = [Value.ref b] := by simp only [List.map_cons, List.map_nil, it_cv, hka]
  rw [hvs] at hentry
  refine it_W it_ok n (it_kc0 L xs) s.heap.size ka 363 0 _ (it_loc0 [.ref (it_K + 7)] 4) [] [] (fun _ _ => 0) (some (.int 1)) sh' mem' hM hrun p l e room_1 s m #[Value.ref b] below meth c D hx hb hml hown (fun w h => hts w (it_tb_in h)) hname (by decide) (by decide) hK hKo s.heap [] 0 0 _ (fun _ => 0) Q ⟨fun k q h => by simp [it_w] at h, fun k x h => by simp at h, rfl, by decide, va_S.rf⟩ hentry (by simp [room_1]; exact hc) (by have : it_sl ([] : it_Sh) = 0 := rfl; rw [this]; simp [room_1]; exact hs) ?_
  intro D1 H1 locs1 cs1 pc1 lsB ins st1 hK1 hH1 hdg hrt
  refine va_forget (fun q hq => hH1.2.2.2.2.2.2 q hq) ?_
  refine W.widen (k := 600000) (n := 7302250) (by simp; exact hc) (by have : it_sl ([] : it_Sh) = 0 := rfl; rw [this]; simp; exact hs) ?_
  unfold it_rt at hrt
  split at hrt
  · cases hrt
  · rename_i h; cases h
  · split at hrt
    · cases hrt; exact hend H1 pc1 lsB hdg
    · cases hrt
  · cases hrt
  · cases hrt
  · cases hrt
