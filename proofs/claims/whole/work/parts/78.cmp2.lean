/-! Tables of the halfwords. Written by wip/whole/gen_c1.py -/
abbrev P00 (h : Int32) : Prop := h &&& 3 = 0 ∧ it_us h 13 = 0 ∧ ((rO4 h = 0 ∧ hw h = 0) ∨ (¬ rO4 h = 0 ∧ isI (hw h) 19 0 (8 + (it_us h 2 &&& 7)) 2 (rO4 h)))
set_option maxRecDepth 100000 in
theorem T00 {H : Nat} (e1 : H % 4 = 0) (e2 : H / 8192 = 0) : P00 (nI H) := tbl (q := 0) (f := 0) (by decide +kernel) e1 e2
abbrev P01 (h : Int32) : Prop := h &&& 3 = 0 ∧ it_us h 13 = 1 ∧ (hw h = 0)
set_option maxRecDepth 100000 in
theorem T01 {H : Nat} (e1 : H % 4 = 0) (e2 : H / 8192 = 1) : P01 (nI H) := tbl (q := 0) (f := 1) (by decide +kernel) e1 e2
abbrev P02 (h : Int32) : Prop := h &&& 3 = 0 ∧ it_us h 13 = 2 ∧ (isI (hw h) 3 2 (8 + (it_us h 2 &&& 7)) (8 + (it_us h 7 &&& 7)) (rO0 h))
set_option maxRecDepth 100000 in
theorem T02 {H : Nat} (e1 : H % 4 = 0) (e2 : H / 8192 = 2) : P02 (nI H) := tbl (q := 0) (f := 2) (by decide +kernel) e1 e2
abbrev P03 (h : Int32) : Prop := h &&& 3 = 0 ∧ it_us h 13 = 3 ∧ (hw h = 0)
set_option maxRecDepth 100000 in
theorem T03 {H : Nat} (e1 : H % 4 = 0) (e2 : H / 8192 = 3) : P03 (nI H) := tbl (q := 0) (f := 3) (by decide +kernel) e1 e2
abbrev P04 (h : Int32) : Prop := h &&& 3 = 0 ∧ it_us h 13 = 4 ∧ (hw h = 0)
set_option maxRecDepth 100000 in
theorem T04 {H : Nat} (e1 : H % 4 = 0) (e2 : H / 8192 = 4) : P04 (nI H) := tbl (q := 0) (f := 4) (by decide +kernel) e1 e2
abbrev P05 (h : Int32) : Prop := h &&& 3 = 0 ∧ it_us h 13 = 5 ∧ (hw h = 0)
set_option maxRecDepth 100000 in
theorem T05 {H : Nat} (e1 : H % 4 = 0) (e2 : H / 8192 = 5) : P05 (nI H) := tbl (q := 0) (f := 5) (by decide +kernel) e1 e2
abbrev P06 (h : Int32) : Prop := h &&& 3 = 0 ∧ it_us h 13 = 6 ∧ (isS (hw h) (8 + (it_us h 7 &&& 7)) (8 + (it_us h 2 &&& 7)) (rO0 h))
set_option maxRecDepth 100000 in
theorem T06 {H : Nat} (e1 : H % 4 = 0) (e2 : H / 8192 = 6) : P06 (nI H) := tbl (q := 0) (f := 6) (by decide +kernel) e1 e2
abbrev P07 (h : Int32) : Prop := h &&& 3 = 0 ∧ it_us h 13 = 7 ∧ (hw h = 0)
set_option maxRecDepth 100000 in
theorem T07 {H : Nat} (e1 : H % 4 = 0) (e2 : H / 8192 = 7) : P07 (nI H) := tbl (q := 0) (f := 7) (by decide +kernel) e1 e2
abbrev P10 (h : Int32) : Prop := h &&& 3 = 1 ∧ it_us h 13 = 0 ∧ (isI (hw h) 19 0 (it_us h 7 &&& 31) (it_us h 7 &&& 31) (rI6 h))
set_option maxRecDepth 100000 in
theorem T10 {H : Nat} (e1 : H % 4 = 1) (e2 : H / 8192 = 0) : P10 (nI H) := tbl (q := 1) (f := 0) (by decide +kernel) e1 e2
abbrev P11 (h : Int32) : Prop := h &&& 3 = 1 ∧ it_us h 13 = 1 ∧ (isJ (hw h) 1 (rJ h))
set_option maxRecDepth 100000 in
theorem T11 {H : Nat} (e1 : H % 4 = 1) (e2 : H / 8192 = 1) : P11 (nI H) := tbl (q := 1) (f := 1) (by decide +kernel) e1 e2
abbrev P12 (h : Int32) : Prop := h &&& 3 = 1 ∧ it_us h 13 = 2 ∧ (isI (hw h) 19 0 (it_us h 7 &&& 31) 0 (rI6 h))
set_option maxRecDepth 100000 in
theorem T12 {H : Nat} (e1 : H % 4 = 1) (e2 : H / 8192 = 2) : P12 (nI H) := tbl (q := 1) (f := 2) (by decide +kernel) e1 e2
abbrev P15 (h : Int32) : Prop := h &&& 3 = 1 ∧ it_us h 13 = 5 ∧ (isJ (hw h) 0 (rJ h))
set_option maxRecDepth 100000 in
theorem T15 {H : Nat} (e1 : H % 4 = 1) (e2 : H / 8192 = 5) : P15 (nI H) := tbl (q := 1) (f := 5) (by decide +kernel) e1 e2
abbrev P16 (h : Int32) : Prop := h &&& 3 = 1 ∧ it_us h 13 = 6 ∧ (isB (hw h) 0 (8 + (it_us h 7 &&& 7)) (rB h))
set_option maxRecDepth 100000 in
theorem T16 {H : Nat} (e1 : H % 4 = 1) (e2 : H / 8192 = 6) : P16 (nI H) := tbl (q := 1) (f := 6) (by decide +kernel) e1 e2
abbrev P17 (h : Int32) : Prop := h &&& 3 = 1 ∧ it_us h 13 = 7 ∧ (isB (hw h) 1 (8 + (it_us h 7 &&& 7)) (rB h))
set_option maxRecDepth 100000 in
theorem T17 {H : Nat} (e1 : H % 4 = 1) (e2 : H / 8192 = 7) : P17 (nI H) := tbl (q := 1) (f := 7) (by decide +kernel) e1 e2
abbrev P20 (h : Int32) : Prop := h &&& 3 = 2 ∧ it_us h 13 = 0 ∧ ((bn h 12 0 = 1 ∧ hw h = 0) ∨ (¬ bn h 12 0 = 1 ∧ isH (hw h) 1 (it_us h 7 &&& 31) (it_us h 7 &&& 31) 0 (it_us h 2 &&& 31)))
set_option maxRecDepth 100000 in
theorem T20 {H : Nat} (e1 : H % 4 = 2) (e2 : H / 8192 = 0) : P20 (nI H) := tbl (q := 2) (f := 0) (by decide +kernel) e1 e2
abbrev P21 (h : Int32) : Prop := h &&& 3 = 2 ∧ it_us h 13 = 1 ∧ (hw h = 0)
set_option maxRecDepth 100000 in
theorem T21 {H : Nat} (e1 : H % 4 = 2) (e2 : H / 8192 = 1) : P21 (nI H) := tbl (q := 2) (f := 1) (by decide +kernel) e1 e2
abbrev P22 (h : Int32) : Prop := h &&& 3 = 2 ∧ it_us h 13 = 2 ∧ (((it_us h 7 &&& 31) = 0 ∧ hw h = 0) ∨ (¬ (it_us h 7 &&& 31) = 0 ∧ isI (hw h) 3 2 (it_us h 7 &&& 31) 2 (rO2 h)))
set_option maxRecDepth 100000 in
theorem T22 {H : Nat} (e1 : H % 4 = 2) (e2 : H / 8192 = 2) : P22 (nI H) := tbl (q := 2) (f := 2) (by decide +kernel) e1 e2
abbrev P23 (h : Int32) : Prop := h &&& 3 = 2 ∧ it_us h 13 = 3 ∧ (hw h = 0)
set_option maxRecDepth 100000 in
theorem T23 {H : Nat} (e1 : H % 4 = 2) (e2 : H / 8192 = 3) : P23 (nI H) := tbl (q := 2) (f := 3) (by decide +kernel) e1 e2
abbrev P25 (h : Int32) : Prop := h &&& 3 = 2 ∧ it_us h 13 = 5 ∧ (hw h = 0)
set_option maxRecDepth 100000 in
theorem T25 {H : Nat} (e1 : H % 4 = 2) (e2 : H / 8192 = 5) : P25 (nI H) := tbl (q := 2) (f := 5) (by decide +kernel) e1 e2
abbrev P26 (h : Int32) : Prop := h &&& 3 = 2 ∧ it_us h 13 = 6 ∧ (isS (hw h) 2 (it_us h 2 &&& 31) (rO6 h))
set_option maxRecDepth 100000 in
theorem T26 {H : Nat} (e1 : H % 4 = 2) (e2 : H / 8192 = 6) : P26 (nI H) := tbl (q := 2) (f := 6) (by decide +kernel) e1 e2
abbrev P27 (h : Int32) : Prop := h &&& 3 = 2 ∧ it_us h 13 = 7 ∧ (hw h = 0)
set_option maxRecDepth 100000 in
theorem T27 {H : Nat} (e1 : H % 4 = 2) (e2 : H / 8192 = 7) : P27 (nI H) := tbl (q := 2) (f := 7) (by decide +kernel) e1 e2
