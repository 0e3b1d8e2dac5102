/-! Tables of the halfwords. Written by wip/whole/gen_c1.py -/
abbrev P13 (h : Int32) : Prop := h &&& 3 = 1 ∧ it_us h 13 = 3 ∧ ((rI6 h = 0 ∧ hw h = 0) ∨ (¬ rI6 h = 0 ∧ (it_us h 7 &&& 31) = 2 ∧ isI (hw h) 19 0 2 2 (rI16 h)) ∨ (¬ rI6 h = 0 ∧ ¬ (it_us h 7 &&& 31) = 2 ∧ ¬ hw h = 0 ∧ hw h &&& 127 = 55 ∧ it_us (hw h) 7 &&& 31 = (it_us h 7 &&& 31) ∧ hw h &&& (-4096) = it_shl (rI6 h) 12))
abbrev P14 (h : Int32) : Prop := h &&& 3 = 1 ∧ it_us h 13 = 4 ∧ ((it_us h 10 &&& 3 = 2 ∧ isI (hw h) 19 7 (8 + (it_us h 7 &&& 7)) (8 + (it_us h 7 &&& 7)) (rI6 h)) ∨ (¬ it_us h 10 &&& 3 = 2 ∧ bn h 12 0 = 1 ∧ hw h = 0) ∨ (it_us h 10 &&& 3 = 0 ∧ ¬ bn h 12 0 = 1 ∧ isH (hw h) 5 (8 + (it_us h 7 &&& 7)) (8 + (it_us h 7 &&& 7)) 0 (it_us h 2 &&& 31)) ∨ (it_us h 10 &&& 3 = 1 ∧ ¬ bn h 12 0 = 1 ∧ isH (hw h) 5 (8 + (it_us h 7 &&& 7)) (8 + (it_us h 7 &&& 7)) 32 (it_us h 2 &&& 31)) ∨ (it_us h 10 &&& 3 = 3 ∧ ¬ bn h 12 0 = 1 ∧ ((it_us h 5 &&& 3 = 0 ∧ isR (hw h) 0 32 (8 + (it_us h 7 &&& 7)) (8 + (it_us h 7 &&& 7)) (8 + (it_us h 2 &&& 7))) ∨ (it_us h 5 &&& 3 = 1 ∧ isR (hw h) 4 0 (8 + (it_us h 7 &&& 7)) (8 + (it_us h 7 &&& 7)) (8 + (it_us h 2 &&& 7))) ∨ (it_us h 5 &&& 3 = 2 ∧ isR (hw h) 6 0 (8 + (it_us h 7 &&& 7)) (8 + (it_us h 7 &&& 7)) (8 + (it_us h 2 &&& 7))) ∨ (it_us h 5 &&& 3 = 3 ∧ isR (hw h) 7 0 (8 + (it_us h 7 &&& 7)) (8 + (it_us h 7 &&& 7)) (8 + (it_us h 2 &&& 7))))))
abbrev P24 (h : Int32) : Prop := h &&& 3 = 2 ∧ it_us h 13 = 4 ∧ ((¬ (it_us h 2 &&& 31) = 0 ∧ ¬ bn h 12 0 = 1 ∧ isR (hw h) 0 0 (it_us h 7 &&& 31) 0 (it_us h 2 &&& 31)) ∨ (¬ (it_us h 2 &&& 31) = 0 ∧ bn h 12 0 = 1 ∧ isR (hw h) 0 0 (it_us h 7 &&& 31) (it_us h 7 &&& 31) (it_us h 2 &&& 31)) ∨ ((it_us h 2 &&& 31) = 0 ∧ ¬ (it_us h 7 &&& 31) = 0 ∧ ¬ bn h 12 0 = 1 ∧ isI (hw h) 103 0 0 (it_us h 7 &&& 31) 0) ∨ ((it_us h 2 &&& 31) = 0 ∧ ¬ (it_us h 7 &&& 31) = 0 ∧ bn h 12 0 = 1 ∧ isI (hw h) 103 0 1 (it_us h 7 &&& 31) 0) ∨ ((it_us h 2 &&& 31) = 0 ∧ (it_us h 7 &&& 31) = 0 ∧ bn h 12 0 = 1 ∧ hw h = 1048691) ∨ ((it_us h 2 &&& 31) = 0 ∧ (it_us h 7 &&& 31) = 0 ∧ ¬ bn h 12 0 = 1 ∧ hw h = 0))
set_option maxRecDepth 100000 in
theorem T13ht {H : Nat} (e1 : H % 4 = 1) (e2 : H / 8192 = 3) : (fun h : Int32 => (h &&& 3 = 1 ∧ it_us h 13 = 3)) (nI H) := tbl (P := fun h : Int32 => (h &&& 3 = 1 ∧ it_us h 13 = 3)) (q := 1) (f := 3) (by decide +kernel) e1 e2
theorem T13h {H : Nat} (e1 : H % 4 = 1) (e2 : H / 8192 = 3) : (fun h : Int32 => h &&& 3 = 1 ∧ it_us h 13 = 3) (nI H) := by
  have t := T13ht e1 e2
  exact t
set_option maxRecDepth 100000 in
theorem T13_0t {H : Nat} (e1 : H % 4 = 1) (e2 : H / 8192 = 3) : (fun h : Int32 => ¬ rI6 h = 0 ∨ (hw h = 0)) (nI H) := tbl (P := fun h : Int32 => ¬ rI6 h = 0 ∨ (hw h = 0)) (q := 1) (f := 3) (by decide +kernel) e1 e2
theorem T13_0 {H : Nat} (e1 : H % 4 = 1) (e2 : H / 8192 = 3) : (fun h : Int32 => rI6 h = 0 → hw h = 0) (nI H) := by
  have t := T13_0t e1 e2
  exact fun c0 => t.elim (fun d => absurd c0 d) (fun t => t)
set_option maxRecDepth 100000 in
theorem T13_1t {H : Nat} (e1 : H % 4 = 1) (e2 : H / 8192 = 3) : (fun h : Int32 => rI6 h = 0 ∨ ¬ (it_us h 7 &&& 31) = 2 ∨ (isI (hw h) 19 0 2 2 (rI16 h))) (nI H) := tbl (P := fun h : Int32 => rI6 h = 0 ∨ ¬ (it_us h 7 &&& 31) = 2 ∨ (isI (hw h) 19 0 2 2 (rI16 h))) (q := 1) (f := 3) (by decide +kernel) e1 e2
theorem T13_1 {H : Nat} (e1 : H % 4 = 1) (e2 : H / 8192 = 3) : (fun h : Int32 => ¬ rI6 h = 0 → (it_us h 7 &&& 31) = 2 → isI (hw h) 19 0 2 2 (rI16 h)) (nI H) := by
  have t := T13_1t e1 e2
  exact fun c0 c1 => t.elim (fun d => absurd d c0) (fun t => t.elim (fun d => absurd c1 d) (fun t => t))
set_option maxRecDepth 100000 in
theorem T13_2t {H : Nat} (e1 : H % 4 = 1) (e2 : H / 8192 = 3) : (fun h : Int32 => rI6 h = 0 ∨ (it_us h 7 &&& 31) = 2 ∨ (¬ hw h = 0 ∧ hw h &&& 127 = 55 ∧ it_us (hw h) 7 &&& 31 = (it_us h 7 &&& 31) ∧ hw h &&& (-4096) = it_shl (rI6 h) 12)) (nI H) := tbl (P := fun h : Int32 => rI6 h = 0 ∨ (it_us h 7 &&& 31) = 2 ∨ (¬ hw h = 0 ∧ hw h &&& 127 = 55 ∧ it_us (hw h) 7 &&& 31 = (it_us h 7 &&& 31) ∧ hw h &&& (-4096) = it_shl (rI6 h) 12)) (q := 1) (f := 3) (by decide +kernel) e1 e2
theorem T13_2 {H : Nat} (e1 : H % 4 = 1) (e2 : H / 8192 = 3) : (fun h : Int32 => ¬ rI6 h = 0 → ¬ (it_us h 7 &&& 31) = 2 → ¬ hw h = 0 ∧ hw h &&& 127 = 55 ∧ it_us (hw h) 7 &&& 31 = (it_us h 7 &&& 31) ∧ hw h &&& (-4096) = it_shl (rI6 h) 12) (nI H) := by
  have t := T13_2t e1 e2
  exact fun c0 c1 => t.elim (fun d => absurd d c0) (fun t => t.elim (fun d => absurd d c1) (fun t => t))
theorem T13 {H : Nat} (e1 : H % 4 = 1) (e2 : H / 8192 = 3) : P13 (nI H) := by
  refine ⟨(T13h e1 e2).1, (T13h e1 e2).2, ?_⟩
  by_cases a : rI6 (nI H) = 0
  · exact Or.inl ⟨a, T13_0 e1 e2 a⟩
  · by_cases b : it_us (nI H) 7 &&& 31 = 2
    · exact Or.inr (Or.inl ⟨a, b, T13_1 e1 e2 a b⟩)
    · exact Or.inr (Or.inr ⟨a, b, T13_2 e1 e2 a b⟩)
set_option maxRecDepth 100000 in
theorem T14ht {H : Nat} (e1 : H % 4 = 1) (e2 : H / 8192 = 4) : (fun h : Int32 => (h &&& 3 = 1 ∧ it_us h 13 = 4 ∧ (it_us h 10 &&& 3 = 0 ∨ it_us h 10 &&& 3 = 1 ∨ it_us h 10 &&& 3 = 2 ∨ it_us h 10 &&& 3 = 3) ∧ (it_us h 5 &&& 3 = 0 ∨ it_us h 5 &&& 3 = 1 ∨ it_us h 5 &&& 3 = 2 ∨ it_us h 5 &&& 3 = 3))) (nI H) := tbl (P := fun h : Int32 => (h &&& 3 = 1 ∧ it_us h 13 = 4 ∧ (it_us h 10 &&& 3 = 0 ∨ it_us h 10 &&& 3 = 1 ∨ it_us h 10 &&& 3 = 2 ∨ it_us h 10 &&& 3 = 3) ∧ (it_us h 5 &&& 3 = 0 ∨ it_us h 5 &&& 3 = 1 ∨ it_us h 5 &&& 3 = 2 ∨ it_us h 5 &&& 3 = 3))) (q := 1) (f := 4) (by decide +kernel) e1 e2
theorem T14h {H : Nat} (e1 : H % 4 = 1) (e2 : H / 8192 = 4) : (fun h : Int32 => h &&& 3 = 1 ∧ it_us h 13 = 4 ∧ (it_us h 10 &&& 3 = 0 ∨ it_us h 10 &&& 3 = 1 ∨ it_us h 10 &&& 3 = 2 ∨ it_us h 10 &&& 3 = 3) ∧ (it_us h 5 &&& 3 = 0 ∨ it_us h 5 &&& 3 = 1 ∨ it_us h 5 &&& 3 = 2 ∨ it_us h 5 &&& 3 = 3)) (nI H) := by
  have t := T14ht e1 e2
  exact t
set_option maxRecDepth 100000 in
theorem T14_0t {H : Nat} (e1 : H % 4 = 1) (e2 : H / 8192 = 4) : (fun h : Int32 => ¬ it_us h 10 &&& 3 = 2 ∨ (isI (hw h) 19 7 (8 + (it_us h 7 &&& 7)) (8 + (it_us h 7 &&& 7)) (rI6 h))) (nI H) := tbl (P := fun h : Int32 => ¬ it_us h 10 &&& 3 = 2 ∨ (isI (hw h) 19 7 (8 + (it_us h 7 &&& 7)) (8 + (it_us h 7 &&& 7)) (rI6 h))) (q := 1) (f := 4) (by decide +kernel) e1 e2
theorem T14_0 {H : Nat} (e1 : H % 4 = 1) (e2 : H / 8192 = 4) : (fun h : Int32 => it_us h 10 &&& 3 = 2 → isI (hw h) 19 7 (8 + (it_us h 7 &&& 7)) (8 + (it_us h 7 &&& 7)) (rI6 h)) (nI H) := by
  have t := T14_0t e1 e2
  exact fun c0 => t.elim (fun d => absurd c0 d) (fun t => t)
set_option maxRecDepth 100000 in
theorem T14_1t {H : Nat} (e1 : H % 4 = 1) (e2 : H / 8192 = 4) : (fun h : Int32 => it_us h 10 &&& 3 = 2 ∨ ¬ bn h 12 0 = 1 ∨ (hw h = 0)) (nI H) := tbl (P := fun h : Int32 => it_us h 10 &&& 3 = 2 ∨ ¬ bn h 12 0 = 1 ∨ (hw h = 0)) (q := 1) (f := 4) (by decide +kernel) e1 e2
theorem T14_1 {H : Nat} (e1 : H % 4 = 1) (e2 : H / 8192 = 4) : (fun h : Int32 => ¬ it_us h 10 &&& 3 = 2 → bn h 12 0 = 1 → hw h = 0) (nI H) := by
  have t := T14_1t e1 e2
  exact fun c0 c1 => t.elim (fun d => absurd d c0) (fun t => t.elim (fun d => absurd c1 d) (fun t => t))
set_option maxRecDepth 100000 in
theorem T14_2t {H : Nat} (e1 : H % 4 = 1) (e2 : H / 8192 = 4) : (fun h : Int32 => ¬ it_us h 10 &&& 3 = 0 ∨ bn h 12 0 = 1 ∨ (isH (hw h) 5 (8 + (it_us h 7 &&& 7)) (8 + (it_us h 7 &&& 7)) 0 (it_us h 2 &&& 31))) (nI H) := tbl (P := fun h : Int32 => ¬ it_us h 10 &&& 3 = 0 ∨ bn h 12 0 = 1 ∨ (isH (hw h) 5 (8 + (it_us h 7 &&& 7)) (8 + (it_us h 7 &&& 7)) 0 (it_us h 2 &&& 31))) (q := 1) (f := 4) (by decide +kernel) e1 e2
theorem T14_2 {H : Nat} (e1 : H % 4 = 1) (e2 : H / 8192 = 4) : (fun h : Int32 => it_us h 10 &&& 3 = 0 → ¬ bn h 12 0 = 1 → isH (hw h) 5 (8 + (it_us h 7 &&& 7)) (8 + (it_us h 7 &&& 7)) 0 (it_us h 2 &&& 31)) (nI H) := by
  have t := T14_2t e1 e2
  exact fun c0 c1 => t.elim (fun d => absurd c0 d) (fun t => t.elim (fun d => absurd d c1) (fun t => t))
set_option maxRecDepth 100000 in
theorem T14_3t {H : Nat} (e1 : H % 4 = 1) (e2 : H / 8192 = 4) : (fun h : Int32 => ¬ it_us h 10 &&& 3 = 1 ∨ bn h 12 0 = 1 ∨ (isH (hw h) 5 (8 + (it_us h 7 &&& 7)) (8 + (it_us h 7 &&& 7)) 32 (it_us h 2 &&& 31))) (nI H) := tbl (P := fun h : Int32 => ¬ it_us h 10 &&& 3 = 1 ∨ bn h 12 0 = 1 ∨ (isH (hw h) 5 (8 + (it_us h 7 &&& 7)) (8 + (it_us h 7 &&& 7)) 32 (it_us h 2 &&& 31))) (q := 1) (f := 4) (by decide +kernel) e1 e2
theorem T14_3 {H : Nat} (e1 : H % 4 = 1) (e2 : H / 8192 = 4) : (fun h : Int32 => it_us h 10 &&& 3 = 1 → ¬ bn h 12 0 = 1 → isH (hw h) 5 (8 + (it_us h 7 &&& 7)) (8 + (it_us h 7 &&& 7)) 32 (it_us h 2 &&& 31)) (nI H) := by
  have t := T14_3t e1 e2
  exact fun c0 c1 => t.elim (fun d => absurd c0 d) (fun t => t.elim (fun d => absurd d c1) (fun t => t))
set_option maxRecDepth 100000 in
theorem T14_4t {H : Nat} (e1 : H % 4 = 1) (e2 : H / 8192 = 4) : (fun h : Int32 => ¬ it_us h 10 &&& 3 = 3 ∨ bn h 12 0 = 1 ∨ ¬ it_us h 5 &&& 3 = 0 ∨ (isR (hw h) 0 32 (8 + (it_us h 7 &&& 7)) (8 + (it_us h 7 &&& 7)) (8 + (it_us h 2 &&& 7)))) (nI H) := tbl (P := fun h : Int32 => ¬ it_us h 10 &&& 3 = 3 ∨ bn h 12 0 = 1 ∨ ¬ it_us h 5 &&& 3 = 0 ∨ (isR (hw h) 0 32 (8 + (it_us h 7 &&& 7)) (8 + (it_us h 7 &&& 7)) (8 + (it_us h 2 &&& 7)))) (q := 1) (f := 4) (by decide +kernel) e1 e2
theorem T14_4 {H : Nat} (e1 : H % 4 = 1) (e2 : H / 8192 = 4) : (fun h : Int32 => it_us h 10 &&& 3 = 3 → ¬ bn h 12 0 = 1 → it_us h 5 &&& 3 = 0 → isR (hw h) 0 32 (8 + (it_us h 7 &&& 7)) (8 + (it_us h 7 &&& 7)) (8 + (it_us h 2 &&& 7))) (nI H) := by
  have t := T14_4t e1 e2
  exact fun c0 c1 c2 => t.elim (fun d => absurd c0 d) (fun t => t.elim (fun d => absurd d c1) (fun t => t.elim (fun d => absurd c2 d) (fun t => t)))
set_option maxRecDepth 100000 in
theorem T14_5t {H : Nat} (e1 : H % 4 = 1) (e2 : H / 8192 = 4) : (fun h : Int32 => ¬ it_us h 10 &&& 3 = 3 ∨ bn h 12 0 = 1 ∨ ¬ it_us h 5 &&& 3 = 1 ∨ (isR (hw h) 4 0 (8 + (it_us h 7 &&& 7)) (8 + (it_us h 7 &&& 7)) (8 + (it_us h 2 &&& 7)))) (nI H) := tbl (P := fun h : Int32 => ¬ it_us h 10 &&& 3 = 3 ∨ bn h 12 0 = 1 ∨ ¬ it_us h 5 &&& 3 = 1 ∨ (isR (hw h) 4 0 (8 + (it_us h 7 &&& 7)) (8 + (it_us h 7 &&& 7)) (8 + (it_us h 2 &&& 7)))) (q := 1) (f := 4) (by decide +kernel) e1 e2
theorem T14_5 {H : Nat} (e1 : H % 4 = 1) (e2 : H / 8192 = 4) : (fun h : Int32 => it_us h 10 &&& 3 = 3 → ¬ bn h 12 0 = 1 → it_us h 5 &&& 3 = 1 → isR (hw h) 4 0 (8 + (it_us h 7 &&& 7)) (8 + (it_us h 7 &&& 7)) (8 + (it_us h 2 &&& 7))) (nI H) := by
  have t := T14_5t e1 e2
  exact fun c0 c1 c2 => t.elim (fun d => absurd c0 d) (fun t => t.elim (fun d => absurd d c1) (fun t => t.elim (fun d => absurd c2 d) (fun t => t)))
set_option maxRecDepth 100000 in
theorem T14_6t {H : Nat} (e1 : H % 4 = 1) (e2 : H / 8192 = 4) : (fun h : Int32 => ¬ it_us h 10 &&& 3 = 3 ∨ bn h 12 0 = 1 ∨ ¬ it_us h 5 &&& 3 = 2 ∨ (isR (hw h) 6 0 (8 + (it_us h 7 &&& 7)) (8 + (it_us h 7 &&& 7)) (8 + (it_us h 2 &&& 7)))) (nI H) := tbl (P := fun h : Int32 => ¬ it_us h 10 &&& 3 = 3 ∨ bn h 12 0 = 1 ∨ ¬ it_us h 5 &&& 3 = 2 ∨ (isR (hw h) 6 0 (8 + (it_us h 7 &&& 7)) (8 + (it_us h 7 &&& 7)) (8 + (it_us h 2 &&& 7)))) (q := 1) (f := 4) (by decide +kernel) e1 e2
theorem T14_6 {H : Nat} (e1 : H % 4 = 1) (e2 : H / 8192 = 4) : (fun h : Int32 => it_us h 10 &&& 3 = 3 → ¬ bn h 12 0 = 1 → it_us h 5 &&& 3 = 2 → isR (hw h) 6 0 (8 + (it_us h 7 &&& 7)) (8 + (it_us h 7 &&& 7)) (8 + (it_us h 2 &&& 7))) (nI H) := by
  have t := T14_6t e1 e2
  exact fun c0 c1 c2 => t.elim (fun d => absurd c0 d) (fun t => t.elim (fun d => absurd d c1) (fun t => t.elim (fun d => absurd c2 d) (fun t => t)))
set_option maxRecDepth 100000 in
theorem T14_7t {H : Nat} (e1 : H % 4 = 1) (e2 : H / 8192 = 4) : (fun h : Int32 => ¬ it_us h 10 &&& 3 = 3 ∨ bn h 12 0 = 1 ∨ ¬ it_us h 5 &&& 3 = 3 ∨ (isR (hw h) 7 0 (8 + (it_us h 7 &&& 7)) (8 + (it_us h 7 &&& 7)) (8 + (it_us h 2 &&& 7)))) (nI H) := tbl (P := fun h : Int32 => ¬ it_us h 10 &&& 3 = 3 ∨ bn h 12 0 = 1 ∨ ¬ it_us h 5 &&& 3 = 3 ∨ (isR (hw h) 7 0 (8 + (it_us h 7 &&& 7)) (8 + (it_us h 7 &&& 7)) (8 + (it_us h 2 &&& 7)))) (q := 1) (f := 4) (by decide +kernel) e1 e2
theorem T14_7 {H : Nat} (e1 : H % 4 = 1) (e2 : H / 8192 = 4) : (fun h : Int32 => it_us h 10 &&& 3 = 3 → ¬ bn h 12 0 = 1 → it_us h 5 &&& 3 = 3 → isR (hw h) 7 0 (8 + (it_us h 7 &&& 7)) (8 + (it_us h 7 &&& 7)) (8 + (it_us h 2 &&& 7))) (nI H) := by
  have t := T14_7t e1 e2
  exact fun c0 c1 c2 => t.elim (fun d => absurd c0 d) (fun t => t.elim (fun d => absurd d c1) (fun t => t.elim (fun d => absurd c2 d) (fun t => t)))
theorem T14 {H : Nat} (e1 : H % 4 = 1) (e2 : H / 8192 = 4) : P14 (nI H) := by
  obtain ⟨a1, a2, a3, a4⟩ := T14h e1 e2
  refine ⟨a1, a2, ?_⟩
  by_cases a : it_us (nI H) 10 &&& 3 = 2
  · exact Or.inl ⟨a, T14_0 e1 e2 a⟩
  · by_cases b : bn (nI H) 12 0 = 1
    · exact Or.inr (Or.inl ⟨a, b, T14_1 e1 e2 a b⟩)
    · rcases a3 with c | c | c | c
      · exact Or.inr (Or.inr (Or.inl ⟨c, b, T14_2 e1 e2 c b⟩))
      · exact Or.inr (Or.inr (Or.inr (Or.inl ⟨c, b, T14_3 e1 e2 c b⟩)))
      · exact absurd c a
      · refine Or.inr (Or.inr (Or.inr (Or.inr ⟨c, b, ?_⟩)))
        rcases a4 with d | d | d | d
        · exact Or.inl ⟨d, T14_4 e1 e2 c b d⟩
        · exact Or.inr (Or.inl ⟨d, T14_5 e1 e2 c b d⟩)
        · exact Or.inr (Or.inr (Or.inl ⟨d, T14_6 e1 e2 c b d⟩))
        · exact Or.inr (Or.inr (Or.inr ⟨d, T14_7 e1 e2 c b d⟩))
set_option maxRecDepth 100000 in
theorem T24ht {H : Nat} (e1 : H % 4 = 2) (e2 : H / 8192 = 4) : (fun h : Int32 => (h &&& 3 = 2 ∧ it_us h 13 = 4)) (nI H) := tbl (P := fun h : Int32 => (h &&& 3 = 2 ∧ it_us h 13 = 4)) (q := 2) (f := 4) (by decide +kernel) e1 e2
theorem T24h {H : Nat} (e1 : H % 4 = 2) (e2 : H / 8192 = 4) : (fun h : Int32 => h &&& 3 = 2 ∧ it_us h 13 = 4) (nI H) := by
  have t := T24ht e1 e2
  exact t
set_option maxRecDepth 100000 in
theorem T24_0t {H : Nat} (e1 : H % 4 = 2) (e2 : H / 8192 = 4) : (fun h : Int32 => (it_us h 2 &&& 31) = 0 ∨ bn h 12 0 = 1 ∨ (isR (hw h) 0 0 (it_us h 7 &&& 31) 0 (it_us h 2 &&& 31))) (nI H) := tbl (P := fun h : Int32 => (it_us h 2 &&& 31) = 0 ∨ bn h 12 0 = 1 ∨ (isR (hw h) 0 0 (it_us h 7 &&& 31) 0 (it_us h 2 &&& 31))) (q := 2) (f := 4) (by decide +kernel) e1 e2
theorem T24_0 {H : Nat} (e1 : H % 4 = 2) (e2 : H / 8192 = 4) : (fun h : Int32 => ¬ (it_us h 2 &&& 31) = 0 → ¬ bn h 12 0 = 1 → isR (hw h) 0 0 (it_us h 7 &&& 31) 0 (it_us h 2 &&& 31)) (nI H) := by
  have t := T24_0t e1 e2
  exact fun c0 c1 => t.elim (fun d => absurd d c0) (fun t => t.elim (fun d => absurd d c1) (fun t => t))
set_option maxRecDepth 100000 in
theorem T24_1t {H : Nat} (e1 : H % 4 = 2) (e2 : H / 8192 = 4) : (fun h : Int32 => (it_us h 2 &&& 31) = 0 ∨ ¬ bn h 12 0 = 1 ∨ (isR (hw h) 0 0 (it_us h 7 &&& 31) (it_us h 7 &&& 31) (it_us h 2 &&& 31))) (nI H) := tbl (P := fun h : Int32 => (it_us h 2 &&& 31) = 0 ∨ ¬ bn h 12 0 = 1 ∨ (isR (hw h) 0 0 (it_us h 7 &&& 31) (it_us h 7 &&& 31) (it_us h 2 &&& 31))) (q := 2) (f := 4) (by decide +kernel) e1 e2
theorem T24_1 {H : Nat} (e1 : H % 4 = 2) (e2 : H / 8192 = 4) : (fun h : Int32 => ¬ (it_us h 2 &&& 31) = 0 → bn h 12 0 = 1 → isR (hw h) 0 0 (it_us h 7 &&& 31) (it_us h 7 &&& 31) (it_us h 2 &&& 31)) (nI H) := by
  have t := T24_1t e1 e2
  exact fun c0 c1 => t.elim (fun d => absurd d c0) (fun t => t.elim (fun d => absurd c1 d) (fun t => t))
set_option maxRecDepth 100000 in
theorem T24_2t {H : Nat} (e1 : H % 4 = 2) (e2 : H / 8192 = 4) : (fun h : Int32 => ¬ (it_us h 2 &&& 31) = 0 ∨ (it_us h 7 &&& 31) = 0 ∨ bn h 12 0 = 1 ∨ (isI (hw h) 103 0 0 (it_us h 7 &&& 31) 0)) (nI H) := tbl (P := fun h : Int32 => ¬ (it_us h 2 &&& 31) = 0 ∨ (it_us h 7 &&& 31) = 0 ∨ bn h 12 0 = 1 ∨ (isI (hw h) 103 0 0 (it_us h 7 &&& 31) 0)) (q := 2) (f := 4) (by decide +kernel) e1 e2
theorem T24_2 {H : Nat} (e1 : H % 4 = 2) (e2 : H / 8192 = 4) : (fun h : Int32 => (it_us h 2 &&& 31) = 0 → ¬ (it_us h 7 &&& 31) = 0 → ¬ bn h 12 0 = 1 → isI (hw h) 103 0 0 (it_us h 7 &&& 31) 0) (nI H) := by
  have t := T24_2t e1 e2
  exact fun c0 c1 c2 => t.elim (fun d => absurd c0 d) (fun t => t.elim (fun d => absurd d c1) (fun t => t.elim (fun d => absurd d c2) (fun t => t)))
set_option maxRecDepth 100000 in
theorem T24_3t {H : Nat} (e1 : H % 4 = 2) (e2 : H / 8192 = 4) : (fun h : Int32 => ¬ (it_us h 2 &&& 31) = 0 ∨ (it_us h 7 &&& 31) = 0 ∨ ¬ bn h 12 0 = 1 ∨ (isI (hw h) 103 0 1 (it_us h 7 &&& 31) 0)) (nI H) := tbl (P := fun h : Int32 => ¬ (it_us h 2 &&& 31) = 0 ∨ (it_us h 7 &&& 31) = 0 ∨ ¬ bn h 12 0 = 1 ∨ (isI (hw h) 103 0 1 (it_us h 7 &&& 31) 0)) (q := 2) (f := 4) (by decide +kernel) e1 e2
theorem T24_3 {H : Nat} (e1 : H % 4 = 2) (e2 : H / 8192 = 4) : (fun h : Int32 => (it_us h 2 &&& 31) = 0 → ¬ (it_us h 7 &&& 31) = 0 → bn h 12 0 = 1 → isI (hw h) 103 0 1 (it_us h 7 &&& 31) 0) (nI H) := by
  have t := T24_3t e1 e2
  exact fun c0 c1 c2 => t.elim (fun d => absurd c0 d) (fun t => t.elim (fun d => absurd d c1) (fun t => t.elim (fun d => absurd c2 d) (fun t => t)))
set_option maxRecDepth 100000 in
theorem T24_4t {H : Nat} (e1 : H % 4 = 2) (e2 : H / 8192 = 4) : (fun h : Int32 => ¬ (it_us h 2 &&& 31) = 0 ∨ ¬ (it_us h 7 &&& 31) = 0 ∨ ¬ bn h 12 0 = 1 ∨ (hw h = 1048691)) (nI H) := tbl (P := fun h : Int32 => ¬ (it_us h 2 &&& 31) = 0 ∨ ¬ (it_us h 7 &&& 31) = 0 ∨ ¬ bn h 12 0 = 1 ∨ (hw h = 1048691)) (q := 2) (f := 4) (by decide +kernel) e1 e2
theorem T24_4 {H : Nat} (e1 : H % 4 = 2) (e2 : H / 8192 = 4) : (fun h : Int32 => (it_us h 2 &&& 31) = 0 → (it_us h 7 &&& 31) = 0 → bn h 12 0 = 1 → hw h = 1048691) (nI H) := by
  have t := T24_4t e1 e2
  exact fun c0 c1 c2 => t.elim (fun d => absurd c0 d) (fun t => t.elim (fun d => absurd c1 d) (fun t => t.elim (fun d => absurd c2 d) (fun t => t)))
set_option maxRecDepth 100000 in
theorem T24_5t {H : Nat} (e1 : H % 4 = 2) (e2 : H / 8192 = 4) : (fun h : Int32 => ¬ (it_us h 2 &&& 31) = 0 ∨ ¬ (it_us h 7 &&& 31) = 0 ∨ bn h 12 0 = 1 ∨ (hw h = 0)) (nI H) := tbl (P := fun h : Int32 => ¬ (it_us h 2 &&& 31) = 0 ∨ ¬ (it_us h 7 &&& 31) = 0 ∨ bn h 12 0 = 1 ∨ (hw h = 0)) (q := 2) (f := 4) (by decide +kernel) e1 e2
theorem T24_5 {H : Nat} (e1 : H % 4 = 2) (e2 : H / 8192 = 4) : (fun h : Int32 => (it_us h 2 &&& 31) = 0 → (it_us h 7 &&& 31) = 0 → ¬ bn h 12 0 = 1 → hw h = 0) (nI H) := by
  have t := T24_5t e1 e2
  exact fun c0 c1 c2 => t.elim (fun d => absurd c0 d) (fun t => t.elim (fun d => absurd c1 d) (fun t => t.elim (fun d => absurd d c2) (fun t => t)))
theorem T24 {H : Nat} (e1 : H % 4 = 2) (e2 : H / 8192 = 4) : P24 (nI H) := by
  refine ⟨(T24h e1 e2).1, (T24h e1 e2).2, ?_⟩
  by_cases a : it_us (nI H) 2 &&& 31 = 0
  · by_cases c : it_us (nI H) 7 &&& 31 = 0
    · by_cases b : bn (nI H) 12 0 = 1
      · exact Or.inr (Or.inr (Or.inr (Or.inr (Or.inl ⟨a, c, b, T24_4 e1 e2 a c b⟩))))
      · exact Or.inr (Or.inr (Or.inr (Or.inr (Or.inr ⟨a, c, b, T24_5 e1 e2 a c b⟩))))
    · by_cases b : bn (nI H) 12 0 = 1
      · exact Or.inr (Or.inr (Or.inr (Or.inl ⟨a, c, b, T24_3 e1 e2 a c b⟩)))
      · exact Or.inr (Or.inr (Or.inl ⟨a, c, b, T24_2 e1 e2 a c b⟩))
  · by_cases b : bn (nI H) 12 0 = 1
    · exact Or.inr (Or.inl ⟨a, b, T24_1 e1 e2 a b⟩)
    · exact Or.inl ⟨a, b, T24_0 e1 e2 a b⟩
