/-! The code lists are the code: by decode. Written by wip/whole/gen_ok.py -/
def it_swb (pc : Nat) (d : Int) : List (Int × Int) → Bool
  | [] => decide (0 ≤ (pc : Int) + d)
  | (k, o) :: r => decide ((Int32.ofInt k).toInt = k) && (decide (0 ≤ (pc : Int) + o) && it_swb pc d r)
theorem it_swb_ok {pc : Nat} {d : Int} : ∀ {l : List (Int × Int)}, it_swb pc d l = true → it_swok pc d l
  | [], h => by
    simp only [it_swb, decide_eq_true_eq] at h
    exact h
  | (k, o) :: r, h => by
    simp only [it_swb, Bool.and_eq_true, decide_eq_true_eq] at h
    exact ⟨h.1, h.2.1, it_swb_ok h.2.2⟩
/-- the links of an instruction, by my lists -/
def it_lkb (o pc : Nat) (ins : Instr) (a b : Nat) : Bool := match ins with
  | .ldc i => it_IT.contains (o, i, b)
  | .ldc_w i => it_IT.contains (o, i, b)
  | .ldc2_w i => it_LT.contains (o, i, b)
  | .goto f => decide ((pc : Int) + f = (a : Int))
  | .ifCond _ f => decide ((pc : Int) + f = (a : Int))
  | .if_icmp _ f => decide ((pc : Int) + f = (a : Int))
  | .ifnull f => decide ((pc : Int) + f = (a : Int))
  | .ifnonnull f => decide ((pc : Int) + f = (a : Int))
  | .if_acmp _ f => decide ((pc : Int) + f = (a : Int))
  | .tableswitch d lo hi offs => decide (hi + 1 = lo + (offs.size : Int)) && it_swb pc d (it_pairs lo offs.toList)
  | .lookupswitch d ps => (ps.toList.zip (ps.toList.drop 1)).all (fun (a, next) => a.1 < next.1) && it_swb pc d ps.toList
  | .getfield i => it_FT.contains (o, i, a, b)
  | .putfield i => it_FT.contains (o, i, a, b)
  | .getstatic i => it_ST.contains (o, i, a, b)
  | .new i => it_CT.contains (o, i, a)
  | .newarray t => (it_tag t).isSome
  | .anewarray i => a == 6 && it_CT.contains (o, i, a)
  | .invokespecial i => it_MT.contains (o, i, a, b) && (a == 9998 || it_kd.getD a 9 == 2)
  | .invokestatic i => it_MT.contains (o, i, a, b) && (a == 9999 || (a == 9996 || (a == 9997 || it_kd.getD a 9 == 0)))
  | .invokevirtual i => it_MT.contains (o, i, a, b) && (a != 9998 && (a != 9999 && it_kd.getD a 9 == 1))
  | _ => true
def it_chk (M : it_Mt) (pc : Nat) (e : it_En) : Bool := (match decode M.2.1.1 pc with
  | .ok (i, len) => decide (i = e.2.1) && (it_len e.2.1 == 0 || len == it_len e.2.1)
  | _ => false) && ((e.1 == 2 || it_len e.2.1 != 0) && (it_lkb M.1.1 pc e.2.1 e.2.2.1 e.2.2.2 && (e.1 != 5 || (decide (e.2.2.1 < 9000) && (e.2.2.1 != 9999 && decide (it_kd.getD e.2.2.1 9 < 3))))))
def it_chkR (M : it_Mt) (pc : Nat) : List (Option it_En) → Bool
  | [] => true
  | none :: r => it_chkR M (pc + 1) r
  | some e :: r => it_chk M pc e && it_chkR M (pc + 1) r
def it_chkC (M : it_Mt) (pc : Nat) : List (List (Option it_En)) → Bool
  | [] => true
  | r :: c => it_chkR M pc r && it_chkC M (pc + 16) c
def it_chkM (y : Nat) : Bool := match it_cds[y]?, it_mt[y]? with
  | some c, some M => it_chkC M 0 c
  | _, _ => true
theorem it_chkR_at {M : it_Mt} : ∀ {r : List (Option it_En)} {pc : Nat}, it_chkR M pc r = true → ∀ (i : Nat) (e : it_En), r[i]? = some (some e) → it_chk M (pc + i) e = true
  | [], _, _, i, e, h => by simp at h
  | none :: r, pc, h, i, e, hi => by
    cases i with
    | zero => simp at hi
    | succ i => rw [show pc + (i + 1) = pc + 1 + i by omega]; exact it_chkR_at (r := r) h i e (by simpa using hi)
  | some x :: r, pc, h, i, e, hi => by
    simp only [it_chkR, Bool.and_eq_true] at h
    cases i with
    | zero => simp at hi; subst hi; exact h.1
    | succ i => rw [show pc + (i + 1) = pc + 1 + i by omega]; exact it_chkR_at (r := r) h.2 i e (by simpa using hi)
theorem it_chkC_at {M : it_Mt} : ∀ {c : List (List (Option it_En))} {pc : Nat}, it_chkC M pc c = true → ∀ (i j : Nat) (r : List (Option it_En)) (e : it_En), c[i]? = some r → r[j]? = some (some e) → it_chk M (pc + 16 * i + j) e = true
  | [], _, _, i, j, r, e, h, _ => by simp at h
  | x :: c, pc, h, i, j, r, e, hi, hj => by
    simp only [it_chkC, Bool.and_eq_true] at h
    cases i with
    | zero => simp at hi; subst hi; exact it_chkR_at h.1 j e hj
    | succ i => rw [show pc + 16 * (i + 1) + j = pc + 16 + 16 * i + j by omega]; exact it_chkC_at (c := c) h.2 i j r e (by simpa using hi) hj
theorem it_chkC_cut {M : it_Mt} (k : Nat) : ∀ {c : List (List (Option it_En))} {pc : Nat}, it_chkC M pc (c.take k) = true → it_chkC M (pc + 16 * k) (c.drop k) = true → it_chkC M pc c = true := by
  induction k with
  | zero => intro c pc _ h; simpa using h
  | succ k ih =>
    intro c pc h1 h2
    match c, h1, h2 with
    | [], _, _ => rfl
    | r :: c, h1, h2 =>
      simp only [List.take_succ_cons, it_chkC, Bool.and_eq_true] at h1
      simp only [List.drop_succ_cons] at h2
      simp only [it_chkC, Bool.and_eq_true]
      exact ⟨h1.1, ih h1.2 (by rw [show pc + 16 + 16 * k = pc + 16 * (k + 1) by omega]; exact h2)⟩
set_option maxRecDepth 100000 in
theorem it_q0 : it_chkM 0 = true := by decide +kernel
set_option maxRecDepth 100000 in
theorem it_q1 : it_chkM 1 = true := by decide +kernel
set_option maxRecDepth 100000 in
theorem it_q2 : it_chkM 2 = true := by decide +kernel
set_option maxRecDepth 100000 in
theorem it_q3 : it_chkM 3 = true := by decide +kernel
set_option maxRecDepth 100000 in
theorem it_q4 : it_chkM 4 = true := by decide +kernel
set_option maxRecDepth 100000 in
theorem it_q5 : it_chkM 5 = true := by decide +kernel
set_option maxRecDepth 100000 in
theorem it_q6 : it_chkM 6 = true := by decide +kernel
set_option maxRecDepth 100000 in
theorem it_q7 : it_chkM 7 = true := by decide +kernel
set_option maxRecDepth 100000 in
theorem it_q8 : it_chkM 8 = true := by decide +kernel
set_option maxRecDepth 100000 in
theorem it_q9 : it_chkM 9 = true := by decide +kernel
set_option maxRecDepth 100000 in
theorem it_q10 : it_chkM 10 = true := by decide +kernel
set_option maxRecDepth 100000 in
theorem it_q11 : it_chkM 11 = true := by decide +kernel
set_option maxRecDepth 100000 in
theorem it_q12 : it_chkM 12 = true := by decide +kernel
set_option maxRecDepth 100000 in
theorem it_q13 : it_chkM 13 = true := by decide +kernel
set_option maxRecDepth 100000 in
theorem it_q14 : it_chkM 14 = true := by decide +kernel
set_option maxRecDepth 100000 in
theorem it_q15 : it_chkM 15 = true := by decide +kernel
set_option maxRecDepth 100000 in
theorem it_q16 : it_chkM 16 = true := by decide +kernel
set_option maxRecDepth 100000 in
theorem it_q17 : it_chkM 17 = true := by decide +kernel
set_option maxRecDepth 100000 in
theorem it_q18 : it_chkM 18 = true := by decide +kernel
set_option maxRecDepth 100000 in
theorem it_q19 : it_chkM 19 = true := by decide +kernel
set_option maxRecDepth 100000 in
theorem it_q20 : it_chkM 20 = true := by decide +kernel
set_option maxRecDepth 100000 in
theorem it_q21 : it_chkM 21 = true := by decide +kernel
set_option maxRecDepth 100000 in
theorem it_q22 : it_chkM 22 = true := by decide +kernel
set_option maxRecDepth 100000 in
theorem it_q23 : it_chkM 23 = true := by decide +kernel
set_option maxRecDepth 100000 in
theorem it_q24 : it_chkM 24 = true := by decide +kernel
set_option maxRecDepth 100000 in
theorem it_q25 : it_chkM 25 = true := by decide +kernel
set_option maxRecDepth 100000 in
theorem it_q26 : it_chkM 26 = true := by decide +kernel
set_option maxRecDepth 100000 in
theorem it_q27 : it_chkM 27 = true := by decide +kernel
set_option maxRecDepth 100000 in
theorem it_q28 : it_chkM 28 = true := by decide +kernel
set_option maxRecDepth 100000 in
theorem it_q29 : it_chkM 29 = true := by decide +kernel
set_option maxRecDepth 100000 in
theorem it_q30 : it_chkM 30 = true := by decide +kernel
set_option maxRecDepth 100000 in
theorem it_q31 : it_chkM 31 = true := by decide +kernel
set_option maxRecDepth 100000 in
theorem it_q32 : it_chkM 32 = true := by decide +kernel
set_option maxRecDepth 100000 in
theorem it_q33 : it_chkM 33 = true := by decide +kernel
set_option maxRecDepth 100000 in
theorem it_q34 : it_chkM 34 = true := by decide +kernel
set_option maxRecDepth 100000 in
theorem it_q35 : it_chkM 35 = true := by decide +kernel
set_option maxRecDepth 100000 in
theorem it_q36 : it_chkM 36 = true := by decide +kernel
set_option maxRecDepth 100000 in
theorem it_q37 : it_chkM 37 = true := by decide +kernel
set_option maxRecDepth 100000 in
theorem it_q38 : it_chkM 38 = true := by decide +kernel
set_option maxRecDepth 100000 in
theorem it_q39 : it_chkM 39 = true := by decide +kernel
set_option maxRecDepth 100000 in
theorem it_q40 : it_chkM 40 = true := by decide +kernel
set_option maxRecDepth 100000 in
theorem it_q41 : it_chkM 41 = true := by decide +kernel
set_option maxRecDepth 100000 in
theorem it_q42 : it_chkM 42 = true := by decide +kernel
set_option maxRecDepth 100000 in
theorem it_q43 : it_chkM 43 = true := by decide +kernel
set_option maxRecDepth 100000 in
theorem it_q44 : it_chkM 44 = true := by decide +kernel
set_option maxRecDepth 100000 in
theorem it_q45 : it_chkM 45 = true := by decide +kernel
set_option maxRecDepth 100000 in
theorem it_q46 : it_chkM 46 = true := by decide +kernel
set_option maxRecDepth 100000 in
theorem it_q47 : it_chkM 47 = true := by decide +kernel
set_option maxRecDepth 100000 in
theorem it_q48 : it_chkM 48 = true := by decide +kernel
set_option maxRecDepth 100000 in
theorem it_q49 : it_chkM 49 = true := by decide +kernel
set_option maxRecDepth 100000 in
theorem it_q50 : it_chkM 50 = true := by decide +kernel
set_option maxRecDepth 100000 in
theorem it_q51 : it_chkM 51 = true := by decide +kernel
set_option maxRecDepth 100000 in
theorem it_q52 : it_chkM 52 = true := by decide +kernel
set_option maxRecDepth 100000 in
theorem it_q53 : it_chkM 53 = true := by decide +kernel
set_option maxRecDepth 100000 in
theorem it_q54 : it_chkM 54 = true := by decide +kernel
set_option maxRecDepth 100000 in
theorem it_q55 : it_chkM 55 = true := by decide +kernel
set_option maxRecDepth 100000 in
theorem it_q56 : it_chkM 56 = true := by decide +kernel
set_option maxRecDepth 100000 in
theorem it_q57 : it_chkM 57 = true := by decide +kernel
set_option maxRecDepth 100000 in
theorem it_q58 : it_chkM 58 = true := by decide +kernel
set_option maxRecDepth 100000 in
theorem it_q59 : it_chkM 59 = true := by decide +kernel
set_option maxRecDepth 100000 in
theorem it_q60 : it_chkM 60 = true := by decide +kernel
set_option maxRecDepth 100000 in
theorem it_q61 : it_chkM 61 = true := by decide +kernel
set_option maxRecDepth 100000 in
theorem it_q62 : it_chkM 62 = true := by decide +kernel
set_option maxRecDepth 100000 in
theorem it_q63 : it_chkM 63 = true := by decide +kernel
set_option maxRecDepth 100000 in
theorem it_q64 : it_chkM 64 = true := by decide +kernel
set_option maxRecDepth 100000 in
theorem it_q65 : it_chkM 65 = true := by decide +kernel
set_option maxRecDepth 100000 in
theorem it_q66 : it_chkM 66 = true := by decide +kernel
set_option maxRecDepth 100000 in
theorem it_q67 : it_chkM 67 = true := by decide +kernel
set_option maxRecDepth 100000 in
theorem it_q68 : it_chkM 68 = true := by decide +kernel
set_option maxRecDepth 100000 in
theorem it_q69 : it_chkM 69 = true := by decide +kernel
set_option maxRecDepth 100000 in
theorem it_q70 : it_chkM 70 = true := by decide +kernel
set_option maxRecDepth 100000 in
theorem it_q71 : it_chkM 71 = true := by decide +kernel
set_option maxRecDepth 100000 in
theorem it_q72 : it_chkM 72 = true := by decide +kernel
set_option maxRecDepth 100000 in
theorem it_q73 : it_chkM 73 = true := by decide +kernel
set_option maxRecDepth 100000 in
theorem it_q74 : it_chkM 74 = true := by decide +kernel
set_option maxRecDepth 100000 in
theorem it_q75 : it_chkM 75 = true := by decide +kernel
set_option maxRecDepth 100000 in
theorem it_q76 : it_chkM 76 = true := by decide +kernel
set_option maxRecDepth 100000 in
theorem it_q77 : it_chkM 77 = true := by decide +kernel
set_option maxRecDepth 100000 in
theorem it_q78 : it_chkM 78 = true := by decide +kernel
set_option maxRecDepth 100000 in
theorem it_q79 : it_chkM 79 = true := by decide +kernel
set_option maxRecDepth 100000 in
theorem it_q80 : it_chkM 80 = true := by decide +kernel
set_option maxRecDepth 100000 in
theorem it_q81 : it_chkM 81 = true := by decide +kernel
set_option maxRecDepth 100000 in
theorem it_q82 : it_chkM 82 = true := by decide +kernel
set_option maxRecDepth 100000 in
theorem it_q83 : it_chkM 83 = true := by decide +kernel
set_option maxRecDepth 100000 in
theorem it_q84 : it_chkM 84 = true := by decide +kernel
set_option maxRecDepth 100000 in
theorem it_q85 : it_chkM 85 = true := by decide +kernel
set_option maxRecDepth 100000 in
theorem it_q86 : it_chkM 86 = true := by decide +kernel
set_option maxRecDepth 100000 in
theorem it_q87 : it_chkM 87 = true := by decide +kernel
set_option maxRecDepth 100000 in
theorem it_q88 : it_chkM 88 = true := by decide +kernel
set_option maxRecDepth 100000 in
theorem it_q89 : it_chkM 89 = true := by decide +kernel
set_option maxRecDepth 100000 in
theorem it_q90 : it_chkM 90 = true := by decide +kernel
set_option maxRecDepth 100000 in
theorem it_q91 : it_chkM 91 = true := by decide +kernel
set_option maxRecDepth 100000 in
theorem it_q92 : it_chkM 92 = true := by decide +kernel
set_option maxRecDepth 100000 in
theorem it_q93 : it_chkM 93 = true := by decide +kernel
set_option maxRecDepth 100000 in
theorem it_q94 : it_chkM 94 = true := by decide +kernel
set_option maxRecDepth 100000 in
theorem it_q95 : it_chkM 95 = true := by decide +kernel
set_option maxRecDepth 100000 in
theorem it_q96 : it_chkM 96 = true := by decide +kernel
set_option maxRecDepth 100000 in
theorem it_q97 : it_chkM 97 = true := by decide +kernel
set_option maxRecDepth 100000 in
theorem it_q98 : it_chkM 98 = true := by decide +kernel
set_option maxRecDepth 100000 in
theorem it_q99 : it_chkM 99 = true := by decide +kernel
set_option maxRecDepth 100000 in
theorem it_q100 : it_chkM 100 = true := by decide +kernel
set_option maxRecDepth 100000 in
theorem it_q101 : it_chkM 101 = true := by decide +kernel
set_option maxRecDepth 100000 in
theorem it_q102 : it_chkM 102 = true := by decide +kernel
set_option maxRecDepth 100000 in
theorem it_q103 : it_chkM 103 = true := by decide +kernel
set_option maxRecDepth 100000 in
theorem it_q104 : it_chkM 104 = true := by decide +kernel
set_option maxRecDepth 100000 in
theorem it_q105 : it_chkM 105 = true := by decide +kernel
set_option maxRecDepth 100000 in
theorem it_q106 : it_chkM 106 = true := by decide +kernel
set_option maxRecDepth 100000 in
theorem it_q107 : it_chkM 107 = true := by decide +kernel
set_option maxRecDepth 100000 in
theorem it_q108 : it_chkM 108 = true := by decide +kernel
set_option maxRecDepth 100000 in
theorem it_q109 : it_chkM 109 = true := by decide +kernel
set_option maxRecDepth 100000 in
theorem it_q110 : it_chkM 110 = true := by decide +kernel
set_option maxRecDepth 100000 in
theorem it_q111 : it_chkM 111 = true := by decide +kernel
set_option maxRecDepth 100000 in
theorem it_q112 : it_chkM 112 = true := by decide +kernel
set_option maxRecDepth 100000 in
theorem it_q113 : it_chkM 113 = true := by decide +kernel
set_option maxRecDepth 100000 in
theorem it_q114 : it_chkM 114 = true := by decide +kernel
set_option maxRecDepth 100000 in
theorem it_q115 : it_chkM 115 = true := by decide +kernel
set_option maxRecDepth 100000 in
theorem it_q116 : it_chkM 116 = true := by decide +kernel
set_option maxRecDepth 100000 in
theorem it_q117 : it_chkM 117 = true := by decide +kernel
set_option maxRecDepth 100000 in
theorem it_q118 : it_chkM 118 = true := by decide +kernel
set_option maxRecDepth 100000 in
theorem it_q119 : it_chkM 119 = true := by decide +kernel
set_option maxRecDepth 100000 in
theorem it_q120 : it_chkM 120 = true := by decide +kernel
set_option maxRecDepth 100000 in
theorem it_q121 : it_chkM 121 = true := by decide +kernel
set_option maxRecDepth 100000 in
theorem it_q122 : it_chkM 122 = true := by decide +kernel
set_option maxRecDepth 100000 in
theorem it_q123 : it_chkM 123 = true := by decide +kernel
set_option maxRecDepth 100000 in
theorem it_q124 : it_chkM 124 = true := by decide +kernel
set_option maxRecDepth 100000 in
theorem it_q125 : it_chkM 125 = true := by decide +kernel
set_option maxRecDepth 100000 in
theorem it_q126 : it_chkM 126 = true := by decide +kernel
set_option maxRecDepth 100000 in
theorem it_q127 : it_chkM 127 = true := by decide +kernel
set_option maxRecDepth 100000 in
theorem it_q128 : it_chkM 128 = true := by decide +kernel
set_option maxRecDepth 100000 in
theorem it_q129 : it_chkM 129 = true := by decide +kernel
set_option maxRecDepth 100000 in
theorem it_q130 : it_chkM 130 = true := by decide +kernel
set_option maxRecDepth 100000 in
theorem it_q131 : it_chkM 131 = true := by decide +kernel
set_option maxRecDepth 100000 in
theorem it_q132 : it_chkM 132 = true := by decide +kernel
set_option maxRecDepth 100000 in
theorem it_q133 : it_chkM 133 = true := by decide +kernel
set_option maxRecDepth 100000 in
theorem it_q134 : it_chkM 134 = true := by decide +kernel
set_option maxRecDepth 100000 in
theorem it_q135 : it_chkM 135 = true := by decide +kernel
set_option maxRecDepth 100000 in
theorem it_q136 : it_chkM 136 = true := by decide +kernel
set_option maxRecDepth 100000 in
theorem it_q137 : it_chkM 137 = true := by decide +kernel
set_option maxRecDepth 100000 in
theorem it_q138 : it_chkM 138 = true := by decide +kernel
set_option maxRecDepth 100000 in
theorem it_q139 : it_chkM 139 = true := by decide +kernel
set_option maxRecDepth 100000 in
theorem it_q140 : it_chkM 140 = true := by decide +kernel
set_option maxRecDepth 100000 in
theorem it_q141 : it_chkM 141 = true := by decide +kernel
set_option maxRecDepth 100000 in
theorem it_q142 : it_chkM 142 = true := by decide +kernel
set_option maxRecDepth 100000 in
theorem it_q143 : it_chkM 143 = true := by decide +kernel
set_option maxRecDepth 100000 in
theorem it_q144 : it_chkM 144 = true := by decide +kernel
set_option maxRecDepth 100000 in
theorem it_q145 : it_chkM 145 = true := by decide +kernel
set_option maxRecDepth 100000 in
theorem it_q146 : it_chkM 146 = true := by decide +kernel
set_option maxRecDepth 100000 in
theorem it_q147 : it_chkM 147 = true := by decide +kernel
set_option maxRecDepth 100000 in
theorem it_q148 : it_chkM 148 = true := by decide +kernel
set_option maxRecDepth 100000 in
theorem it_q149 : it_chkM 149 = true := by decide +kernel
set_option maxRecDepth 100000 in
theorem it_q150 : it_chkM 150 = true := by decide +kernel
set_option maxRecDepth 100000 in
theorem it_q151 : it_chkM 151 = true := by decide +kernel
set_option maxRecDepth 100000 in
theorem it_q152 : it_chkM 152 = true := by decide +kernel
set_option maxRecDepth 100000 in
theorem it_q153 : it_chkM 153 = true := by decide +kernel
set_option maxRecDepth 100000 in
theorem it_q154 : it_chkM 154 = true := by decide +kernel
set_option maxRecDepth 100000 in
theorem it_q155 : it_chkM 155 = true := by decide +kernel
set_option maxRecDepth 100000 in
theorem it_q156 : it_chkM 156 = true := by decide +kernel
set_option maxRecDepth 100000 in
theorem it_q157 : it_chkM 157 = true := by decide +kernel
set_option maxRecDepth 100000 in
theorem it_q158 : it_chkM 158 = true := by decide +kernel
set_option maxRecDepth 100000 in
theorem it_q159 : it_chkM 159 = true := by decide +kernel
set_option maxRecDepth 100000 in
theorem it_q160 : it_chkM 160 = true := by decide +kernel
set_option maxRecDepth 100000 in
theorem it_q161 : it_chkM 161 = true := by decide +kernel
set_option maxRecDepth 100000 in
theorem it_q162 : it_chkM 162 = true := by decide +kernel
set_option maxRecDepth 100000 in
theorem it_q163 : it_chkM 163 = true := by decide +kernel
set_option maxRecDepth 100000 in
theorem it_q164 : it_chkM 164 = true := by decide +kernel
set_option maxRecDepth 100000 in
theorem it_q165 : it_chkM 165 = true := by decide +kernel
set_option maxRecDepth 100000 in
theorem it_q166 : it_chkM 166 = true := by decide +kernel
set_option maxRecDepth 100000 in
theorem it_q167 : it_chkM 167 = true := by decide +kernel
set_option maxRecDepth 100000 in
theorem it_q168 : it_chkM 168 = true := by decide +kernel
set_option maxRecDepth 100000 in
theorem it_q169 : it_chkM 169 = true := by decide +kernel
set_option maxRecDepth 100000 in
theorem it_q170 : it_chkM 170 = true := by decide +kernel
set_option maxRecDepth 100000 in
theorem it_q171 : it_chkM 171 = true := by decide +kernel
set_option maxRecDepth 100000 in
theorem it_q172 : it_chkM 172 = true := by decide +kernel
set_option maxRecDepth 100000 in
theorem it_q173 : it_chkM 173 = true := by decide +kernel
set_option maxRecDepth 100000 in
theorem it_q174 : it_chkM 174 = true := by decide +kernel
set_option maxRecDepth 100000 in
theorem it_q175 : it_chkM 175 = true := by decide +kernel
set_option maxRecDepth 100000 in
theorem it_q176 : it_chkM 176 = true := by decide +kernel
set_option maxRecDepth 100000 in
theorem it_q177 : it_chkM 177 = true := by decide +kernel
set_option maxRecDepth 100000 in
theorem it_q178 : it_chkM 178 = true := by decide +kernel
set_option maxRecDepth 100000 in
theorem it_q179 : it_chkM 179 = true := by decide +kernel
set_option maxRecDepth 100000 in
theorem it_q180 : it_chkM 180 = true := by decide +kernel
set_option maxRecDepth 100000 in
theorem it_q181 : it_chkM 181 = true := by decide +kernel
set_option maxRecDepth 100000 in
theorem it_q182 : it_chkM 182 = true := by decide +kernel
set_option maxRecDepth 100000 in
theorem it_q183 : it_chkM 183 = true := by decide +kernel
set_option maxRecDepth 100000 in
theorem it_q184 : it_chkM 184 = true := by decide +kernel
set_option maxRecDepth 100000 in
theorem it_q185 : it_chkM 185 = true := by decide +kernel
set_option maxRecDepth 100000 in
theorem it_q186 : it_chkM 186 = true := by decide +kernel
set_option maxRecDepth 100000 in
theorem it_q187 : it_chkM 187 = true := by decide +kernel
set_option maxRecDepth 100000 in
theorem it_q188 : it_chkM 188 = true := by decide +kernel
set_option maxRecDepth 100000 in
theorem it_q189 : it_chkM 189 = true := by decide +kernel
set_option maxRecDepth 100000 in
theorem it_q190 : it_chkM 190 = true := by decide +kernel
set_option maxRecDepth 100000 in
theorem it_q191 : it_chkM 191 = true := by decide +kernel
set_option maxRecDepth 100000 in
theorem it_q192 : it_chkM 192 = true := by decide +kernel
set_option maxRecDepth 100000 in
theorem it_q193 : it_chkM 193 = true := by decide +kernel
set_option maxRecDepth 100000 in
theorem it_q194 : it_chkM 194 = true := by decide +kernel
set_option maxRecDepth 100000 in
theorem it_q195 : it_chkM 195 = true := by decide +kernel
set_option maxRecDepth 100000 in
theorem it_q196 : it_chkM 196 = true := by decide +kernel
set_option maxRecDepth 100000 in
theorem it_q197 : it_chkM 197 = true := by decide +kernel
set_option maxRecDepth 100000 in
theorem it_q198 : it_chkM 198 = true := by decide +kernel
set_option maxRecDepth 100000 in
theorem it_q199 : it_chkM 199 = true := by decide +kernel
set_option maxRecDepth 100000 in
theorem it_q200 : it_chkM 200 = true := by decide +kernel
set_option maxRecDepth 100000 in
theorem it_q201 : it_chkM 201 = true := by decide +kernel
set_option maxRecDepth 100000 in
theorem it_q202 : it_chkM 202 = true := by decide +kernel
set_option maxRecDepth 100000 in
theorem it_q203 : it_chkM 203 = true := by decide +kernel
set_option maxRecDepth 100000 in
theorem it_q204 : it_chkM 204 = true := by decide +kernel
set_option maxRecDepth 100000 in
theorem it_q205 : it_chkM 205 = true := by decide +kernel
set_option maxRecDepth 100000 in
theorem it_q206 : it_chkM 206 = true := by decide +kernel
set_option maxRecDepth 100000 in
theorem it_q207 : it_chkM 207 = true := by decide +kernel
set_option maxRecDepth 100000 in
theorem it_q208 : it_chkM 208 = true := by decide +kernel
set_option maxRecDepth 100000 in
theorem it_q209 : it_chkM 209 = true := by decide +kernel
set_option maxRecDepth 100000 in
theorem it_q210 : it_chkM 210 = true := by decide +kernel
set_option maxRecDepth 100000 in
theorem it_q211 : it_chkM 211 = true := by decide +kernel
set_option maxRecDepth 100000 in
theorem it_q212 : it_chkM 212 = true := by decide +kernel
set_option maxRecDepth 100000 in
theorem it_q213 : it_chkM 213 = true := by decide +kernel
set_option maxRecDepth 100000 in
theorem it_q214 : it_chkM 214 = true := by decide +kernel
set_option maxRecDepth 100000 in
theorem it_q215 : it_chkM 215 = true := by decide +kernel
set_option maxRecDepth 100000 in
theorem it_q216 : it_chkM 216 = true := by decide +kernel
set_option maxRecDepth 100000 in
theorem it_q217 : it_chkM 217 = true := by decide +kernel
set_option maxRecDepth 100000 in
theorem it_q218 : it_chkM 218 = true := by decide +kernel
set_option maxRecDepth 100000 in
theorem it_q219 : it_chkM 219 = true := by decide +kernel
set_option maxRecDepth 100000 in
theorem it_q220 : it_chkM 220 = true := by decide +kernel
set_option maxRecDepth 100000 in
theorem it_q221 : it_chkM 221 = true := by decide +kernel
set_option maxRecDepth 100000 in
theorem it_q222 : it_chkM 222 = true := by decide +kernel
set_option maxRecDepth 100000 in
theorem it_q223 : it_chkM 223 = true := by decide +kernel
set_option maxRecDepth 100000 in
theorem it_q224 : it_chkM 224 = true := by decide +kernel
set_option maxRecDepth 100000 in
theorem it_q225 : it_chkM 225 = true := by decide +kernel
set_option maxRecDepth 100000 in
theorem it_q226 : it_chkM 226 = true := by decide +kernel
set_option maxRecDepth 100000 in
theorem it_q227 : it_chkM 227 = true := by decide +kernel
set_option maxRecDepth 100000 in
theorem it_q228 : it_chkM 228 = true := by decide +kernel
set_option maxRecDepth 100000 in
theorem it_q229 : it_chkM 229 = true := by decide +kernel
set_option maxRecDepth 100000 in
theorem it_q230 : it_chkM 230 = true := by decide +kernel
set_option maxRecDepth 100000 in
theorem it_q231 : it_chkM 231 = true := by decide +kernel
set_option maxRecDepth 100000 in
theorem it_q232 : it_chkM 232 = true := by decide +kernel
set_option maxRecDepth 100000 in
theorem it_q233 : it_chkM 233 = true := by decide +kernel
set_option maxRecDepth 100000 in
theorem it_q234 : it_chkM 234 = true := by decide +kernel
set_option maxRecDepth 100000 in
theorem it_q235 : it_chkM 235 = true := by decide +kernel
set_option maxRecDepth 100000 in
theorem it_q236 : it_chkM 236 = true := by decide +kernel
set_option maxRecDepth 100000 in
theorem it_q237 : it_chkM 237 = true := by decide +kernel
set_option maxRecDepth 100000 in
theorem it_q238 : it_chkM 238 = true := by decide +kernel
set_option maxRecDepth 100000 in
theorem it_q239 : it_chkM 239 = true := by decide +kernel
set_option maxRecDepth 100000 in
theorem it_q240 : it_chkM 240 = true := by decide +kernel
set_option maxRecDepth 100000 in
theorem it_q241 : it_chkM 241 = true := by decide +kernel
set_option maxRecDepth 100000 in
theorem it_q242 : it_chkM 242 = true := by decide +kernel
set_option maxRecDepth 100000 in
theorem it_q243 : it_chkM 243 = true := by decide +kernel
set_option maxRecDepth 100000 in
theorem it_q244 : it_chkM 244 = true := by decide +kernel
set_option maxRecDepth 100000 in
theorem it_q245 : it_chkM 245 = true := by decide +kernel
set_option maxRecDepth 100000 in
theorem it_q246 : it_chkM 246 = true := by decide +kernel
set_option maxRecDepth 100000 in
theorem it_q247 : it_chkM 247 = true := by decide +kernel
set_option maxRecDepth 100000 in
theorem it_q248 : it_chkM 248 = true := by decide +kernel
set_option maxRecDepth 100000 in
theorem it_q249 : it_chkM 249 = true := by decide +kernel
set_option maxRecDepth 100000 in
theorem it_q250 : it_chkM 250 = true := by decide +kernel
set_option maxRecDepth 100000 in
theorem it_q251 : it_chkM 251 = true := by decide +kernel
set_option maxRecDepth 100000 in
theorem it_q252 : it_chkM 252 = true := by decide +kernel
set_option maxRecDepth 100000 in
theorem it_q253 : it_chkM 253 = true := by decide +kernel
set_option maxRecDepth 100000 in
theorem it_q254 : it_chkM 254 = true := by decide +kernel
set_option maxRecDepth 100000 in
theorem it_q255 : it_chkM 255 = true := by decide +kernel
set_option maxRecDepth 100000 in
theorem it_q256 : it_chkM 256 = true := by decide +kernel
set_option maxRecDepth 100000 in
theorem it_q257 : it_chkM 257 = true := by decide +kernel
set_option maxRecDepth 100000 in
theorem it_q258 : it_chkM 258 = true := by decide +kernel
set_option maxRecDepth 100000 in
theorem it_q259 : it_chkM 259 = true := by decide +kernel
set_option maxRecDepth 100000 in
theorem it_q260 : it_chkM 260 = true := by decide +kernel
set_option maxRecDepth 100000 in
theorem it_q261 : it_chkM 261 = true := by decide +kernel
set_option maxRecDepth 100000 in
theorem it_q262 : it_chkM 262 = true := by decide +kernel
set_option maxRecDepth 100000 in
theorem it_q263 : it_chkM 263 = true := by decide +kernel
set_option maxRecDepth 100000 in
theorem it_q264 : it_chkM 264 = true := by decide +kernel
set_option maxRecDepth 100000 in
theorem it_q265 : it_chkM 265 = true := by decide +kernel
set_option maxRecDepth 100000 in
theorem it_q266 : it_chkM 266 = true := by decide +kernel
set_option maxRecDepth 100000 in
theorem it_q267 : it_chkM 267 = true := by decide +kernel
set_option maxRecDepth 100000 in
theorem it_q268 : it_chkM 268 = true := by decide +kernel
set_option maxRecDepth 100000 in
theorem it_q269 : it_chkM 269 = true := by decide +kernel
set_option maxRecDepth 100000 in
theorem it_q270 : it_chkM 270 = true := by decide +kernel
set_option maxRecDepth 100000 in
theorem it_q271 : it_chkM 271 = true := by decide +kernel
set_option maxRecDepth 100000 in
theorem it_q272 : it_chkM 272 = true := by decide +kernel
set_option maxRecDepth 100000 in
theorem it_q273 : it_chkM 273 = true := by decide +kernel
set_option maxRecDepth 100000 in
theorem it_q274 : it_chkM 274 = true := by decide +kernel
set_option maxRecDepth 100000 in
theorem it_q275 : it_chkM 275 = true := by decide +kernel
set_option maxRecDepth 100000 in
theorem it_q276 : it_chkM 276 = true := by decide +kernel
set_option maxRecDepth 100000 in
theorem it_q277 : it_chkM 277 = true := by decide +kernel
set_option maxRecDepth 100000 in
theorem it_q278 : it_chkM 278 = true := by decide +kernel
set_option maxRecDepth 100000 in
theorem it_q279 : it_chkM 279 = true := by decide +kernel
set_option maxRecDepth 100000 in
theorem it_q280 : it_chkM 280 = true := by decide +kernel
set_option maxRecDepth 100000 in
theorem it_q281 : it_chkM 281 = true := by decide +kernel
set_option maxRecDepth 100000 in
theorem it_q282 : it_chkM 282 = true := by decide +kernel
set_option maxRecDepth 100000 in
theorem it_q283 : it_chkM 283 = true := by decide +kernel
set_option maxRecDepth 100000 in
theorem it_q284 : it_chkM 284 = true := by decide +kernel
set_option maxRecDepth 100000 in
theorem it_q285 : it_chkM 285 = true := by decide +kernel
set_option maxRecDepth 100000 in
theorem it_q286 : it_chkM 286 = true := by decide +kernel
set_option maxRecDepth 100000 in
theorem it_q287 : it_chkM 287 = true := by decide +kernel
set_option maxRecDepth 100000 in
theorem it_q288 : it_chkM 288 = true := by decide +kernel
set_option maxRecDepth 100000 in
theorem it_q289 : it_chkM 289 = true := by decide +kernel
set_option maxRecDepth 100000 in
theorem it_q290 : it_chkM 290 = true := by decide +kernel
set_option maxRecDepth 100000 in
theorem it_q291 : it_chkM 291 = true := by decide +kernel
set_option maxRecDepth 100000 in
theorem it_q292 : it_chkM 292 = true := by decide +kernel
set_option maxRecDepth 100000 in
theorem it_q293 : it_chkM 293 = true := by decide +kernel
set_option maxRecDepth 100000 in
theorem it_q294 : it_chkM 294 = true := by decide +kernel
set_option maxRecDepth 100000 in
theorem it_q295 : it_chkM 295 = true := by decide +kernel
set_option maxRecDepth 100000 in
theorem it_q296 : it_chkM 296 = true := by decide +kernel
set_option maxRecDepth 100000 in
theorem it_q297 : it_chkM 297 = true := by decide +kernel
set_option maxRecDepth 100000 in
theorem it_q298 : it_chkM 298 = true := by decide +kernel
set_option maxRecDepth 100000 in
theorem it_q299 : it_chkM 299 = true := by decide +kernel
set_option maxRecDepth 100000 in
theorem it_q300 : it_chkM 300 = true := by decide +kernel
set_option maxRecDepth 100000 in
theorem it_q301 : it_chkM 301 = true := by decide +kernel
set_option maxRecDepth 100000 in
theorem it_q302 : it_chkM 302 = true := by decide +kernel
set_option maxRecDepth 100000 in
theorem it_q303 : it_chkM 303 = true := by decide +kernel
set_option maxRecDepth 100000 in
theorem it_q304 : it_chkM 304 = true := by decide +kernel
set_option maxRecDepth 100000 in
theorem it_q305 : it_chkM 305 = true := by decide +kernel
set_option maxRecDepth 100000 in
theorem it_q306 : it_chkM 306 = true := by decide +kernel
set_option maxRecDepth 100000 in
theorem it_q307 : it_chkM 307 = true := by decide +kernel
set_option maxRecDepth 100000 in
theorem it_q308 : it_chkM 308 = true := by decide +kernel
set_option maxRecDepth 100000 in
theorem it_q309 : it_chkM 309 = true := by decide +kernel
set_option maxRecDepth 100000 in
theorem it_q310 : it_chkM 310 = true := by decide +kernel
set_option maxRecDepth 100000 in
theorem it_q311 : it_chkM 311 = true := by decide +kernel
set_option maxRecDepth 100000 in
theorem it_q312 : it_chkM 312 = true := by decide +kernel
set_option maxRecDepth 100000 in
theorem it_q313 : it_chkM 313 = true := by decide +kernel
set_option maxRecDepth 100000 in
theorem it_q314 : it_chkM 314 = true := by decide +kernel
set_option maxRecDepth 100000 in
theorem it_q315 : it_chkM 315 = true := by decide +kernel
set_option maxRecDepth 100000 in
theorem it_q316 : it_chkM 316 = true := by decide +kernel
set_option maxRecDepth 100000 in
theorem it_q317 : it_chkM 317 = true := by decide +kernel
set_option maxRecDepth 100000 in
theorem it_q318 : it_chkM 318 = true := by decide +kernel
set_option maxRecDepth 100000 in
theorem it_q319 : it_chkM 319 = true := by decide +kernel
set_option maxRecDepth 100000 in
theorem it_q320 : it_chkM 320 = true := by decide +kernel
set_option maxRecDepth 100000 in
theorem it_q321 : it_chkM 321 = true := by decide +kernel
set_option maxRecDepth 100000 in
theorem it_q322 : it_chkM 322 = true := by decide +kernel
set_option maxRecDepth 100000 in
theorem it_q323 : it_chkM 323 = true := by decide +kernel
set_option maxRecDepth 100000 in
theorem it_q324 : it_chkM 324 = true := by decide +kernel
set_option maxRecDepth 100000 in
theorem it_q325 : it_chkM 325 = true := by decide +kernel
set_option maxRecDepth 100000 in
theorem it_q326 : it_chkM 326 = true := by decide +kernel
set_option maxRecDepth 100000 in
theorem it_q327 : it_chkM 327 = true := by decide +kernel
set_option maxRecDepth 100000 in
theorem it_q328 : it_chkM 328 = true := by decide +kernel
set_option maxRecDepth 100000 in
theorem it_q329 : it_chkM 329 = true := by decide +kernel
set_option maxRecDepth 100000 in
theorem it_q330 : it_chkM 330 = true := by decide +kernel
set_option maxRecDepth 100000 in
theorem it_q331 : it_chkM 331 = true := by decide +kernel
set_option maxRecDepth 100000 in
theorem it_q332 : it_chkM 332 = true := by decide +kernel
set_option maxRecDepth 100000 in
theorem it_q333 : it_chkM 333 = true := by decide +kernel
set_option maxRecDepth 100000 in
theorem it_q334 : it_chkM 334 = true := by decide +kernel
set_option maxRecDepth 100000 in
theorem it_q335 : it_chkM 335 = true := by decide +kernel
set_option maxRecDepth 100000 in
theorem it_q336 : it_chkM 336 = true := by decide +kernel
set_option maxRecDepth 100000 in
theorem it_q337 : it_chkM 337 = true := by decide +kernel
set_option maxRecDepth 100000 in
theorem it_q338 : it_chkM 338 = true := by decide +kernel
set_option maxRecDepth 100000 in
theorem it_q339 : it_chkM 339 = true := by decide +kernel
set_option maxRecDepth 100000 in
theorem it_q340 : it_chkM 340 = true := by decide +kernel
set_option maxRecDepth 100000 in
theorem it_q341 : it_chkM 341 = true := by decide +kernel
set_option maxRecDepth 100000 in
theorem it_q342 : it_chkM 342 = true := by decide +kernel
set_option maxRecDepth 100000 in
theorem it_q343 : it_chkM 343 = true := by decide +kernel
set_option maxRecDepth 100000 in
theorem it_q344 : it_chkM 344 = true := by decide +kernel
set_option maxRecDepth 100000 in
theorem it_q345 : it_chkM 345 = true := by decide +kernel
set_option maxRecDepth 100000 in
theorem it_q346 : it_chkM 346 = true := by decide +kernel
set_option maxRecDepth 100000 in
theorem it_q347 : it_chkM 347 = true := by decide +kernel
set_option maxRecDepth 100000 in
theorem it_q348 : it_chkM 348 = true := by decide +kernel
set_option maxRecDepth 100000 in
theorem it_q349 : it_chkM 349 = true := by decide +kernel
set_option maxRecDepth 100000 in
theorem it_q350 : it_chkM 350 = true := by decide +kernel
set_option maxRecDepth 100000 in
theorem it_q351 : it_chkM 351 = true := by decide +kernel
set_option maxRecDepth 100000 in
theorem it_q352 : it_chkM 352 = true := by decide +kernel
set_option maxRecDepth 100000 in
theorem it_q353 : it_chkM 353 = true := by decide +kernel
set_option maxRecDepth 100000 in
theorem it_q354 : it_chkM 354 = true := by decide +kernel
set_option maxRecDepth 100000 in
theorem it_q355 : it_chkM 355 = true := by decide +kernel
set_option maxRecDepth 100000 in
theorem it_q356 : it_chkM 356 = true := by decide +kernel
set_option maxRecDepth 100000 in
theorem it_q357 : it_chkM 357 = true := by decide +kernel
set_option maxRecDepth 100000 in
theorem it_q358 : it_chkM 358 = true := by decide +kernel
set_option maxRecDepth 100000 in
theorem it_q359 : it_chkM 359 = true := by decide +kernel
set_option maxRecDepth 100000 in
theorem it_q360 : it_chkM 360 = true := by decide +kernel
set_option maxRecDepth 100000 in
theorem it_q361 : it_chkM 361 = true := by decide +kernel
set_option maxRecDepth 100000 in
theorem it_q362 : it_chkM 362 = true := by decide +kernel
