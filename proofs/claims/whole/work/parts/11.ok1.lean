/-! What my lists say is so in the tables: by places. Written by wip/whole/gen_ok.py -/
def it_seg (k : Nat) : List Cond := match k with
  | 0 => tables_1_1
  | 1 => tables_1_2
  | 2 => tables_1_3
  | 3 => tables_1_4
  | 4 => tables_1_5
  | 5 => tables_1_6
  | 6 => tables_1_7
  | 7 => tables_1_8
  | 8 => tables_1_9
  | 9 => tables_1_10
  | 10 => k2_sels lw_privs_1
  | 11 => k2_sels lw_privs_2
  | 12 => k2_sels lw_privs_3
  | 13 => k2_sels lw_privs_4
  | 14 => k2_sels lw_privs_5
  | 15 => k2_sels lw_privs_6
  | 16 => k2_sels lw_privs_7
  | 17 => k2_sels lw_privs_8
  | 18 => k2_sels lw_privs_9
  | 19 => k2_sels lw_privs_10
  | 20 => k2_sels lw_privs_11
  | 21 => k2_sels lw_privs_12
  | _ => []
theorem it_tables {w : Cond} (h : w ∈ tables_1) : w ∈ lw_tbl := List.mem_append_right _ h
theorem it_sels {w : Cond} {l : List (MethodName × Nat)} (hl : ∀ q ∈ l, q ∈ lw_privs) (h : w ∈ k2_sels l) : w ∈ lw_tbl := by
  obtain ⟨q, hq, rfl⟩ := List.mem_map.mp h
  exact List.mem_append_left _ (List.mem_map.mpr ⟨q, hl q hq, rfl⟩)
theorem it_seg_in : ∀ (k : Nat) (w : Cond), w ∈ it_seg k → w ∈ lw_tbl := by
  intro k w h
  match k, h with
  | 0, h => exact it_tables (by unfold tables_1; simp only [List.mem_append]; simp only [it_seg] at h; simp [h])
  | 1, h => exact it_tables (by unfold tables_1; simp only [List.mem_append]; simp only [it_seg] at h; simp [h])
  | 2, h => exact it_tables (by unfold tables_1; simp only [List.mem_append]; simp only [it_seg] at h; simp [h])
  | 3, h => exact it_tables (by unfold tables_1; simp only [List.mem_append]; simp only [it_seg] at h; simp [h])
  | 4, h => exact it_tables (by unfold tables_1; simp only [List.mem_append]; simp only [it_seg] at h; simp [h])
  | 5, h => exact it_tables (by unfold tables_1; simp only [List.mem_append]; simp only [it_seg] at h; simp [h])
  | 6, h => exact it_tables (by unfold tables_1; simp only [List.mem_append]; simp only [it_seg] at h; simp [h])
  | 7, h => exact it_tables (by unfold tables_1; simp only [List.mem_append]; simp only [it_seg] at h; simp [h])
  | 8, h => exact it_tables (by unfold tables_1; simp only [List.mem_append]; simp only [it_seg] at h; simp [h])
  | 9, h => exact it_tables (by unfold tables_1; simp only [List.mem_append]; simp only [it_seg] at h; simp [h])
  | 10, h => exact it_sels (fun q hq => by unfold lw_privs; simp only [List.mem_append]; simp [hq]) h
  | 11, h => exact it_sels (fun q hq => by unfold lw_privs; simp only [List.mem_append]; simp [hq]) h
  | 12, h => exact it_sels (fun q hq => by unfold lw_privs; simp only [List.mem_append]; simp [hq]) h
  | 13, h => exact it_sels (fun q hq => by unfold lw_privs; simp only [List.mem_append]; simp [hq]) h
  | 14, h => exact it_sels (fun q hq => by unfold lw_privs; simp only [List.mem_append]; simp [hq]) h
  | 15, h => exact it_sels (fun q hq => by unfold lw_privs; simp only [List.mem_append]; simp [hq]) h
  | 16, h => exact it_sels (fun q hq => by unfold lw_privs; simp only [List.mem_append]; simp [hq]) h
  | 17, h => exact it_sels (fun q hq => by unfold lw_privs; simp only [List.mem_append]; simp [hq]) h
  | 18, h => exact it_sels (fun q hq => by unfold lw_privs; simp only [List.mem_append]; simp [hq]) h
  | 19, h => exact it_sels (fun q hq => by unfold lw_privs; simp only [List.mem_append]; simp [hq]) h
  | 20, h => exact it_sels (fun q hq => by unfold lw_privs; simp only [List.mem_append]; simp [hq]) h
  | 21, h => exact it_sels (fun q hq => by unfold lw_privs; simp only [List.mem_append]; simp [hq]) h
  | n + 22, h => cases h
theorem it_mem (k i : Nat) {w : Cond} (h : (it_seg k)[i]? = some w) (hk : it_keep w = true) : w ∈ it_tb := List.mem_filter.mpr ⟨it_seg_in _ _ (List.mem_of_getElem? h), hk⟩
def it_fwP (e : Nat × Nat × Nat × Nat) : Prop := ∃ own q, it_cn[e.1]? = some own ∧ it_cl[e.2.2.1]? = some q ∧ e.2.2.2 < q.2.2 ∧ (q.2.1 e.2.2.2).1 = q.1 ∧ Cond.fieldLink own e.2.1 q.1 (q.2.1 e.2.2.2).2.1 (q.2.1 e.2.2.2).2.2.1 ∈ it_tb
def it_swP (e : Nat × Nat × Nat × Nat) : Prop := ∃ own z, it_cn[e.1]? = some own ∧ it_st[e.2.2.1]? = some z ∧ (Cond.fieldLink own e.2.1 z.1 z.2.1 z.2.2 ∈ it_tb ∨ Cond.fieldLinkNest own e.2.1 z.1 z.2.1 z.2.2 "GrantBoard" ∈ it_tb)
def it_iwP (e : Nat × Nat × Nat) : Prop := ∃ own, it_cn[e.1]? = some own ∧ Cond.constant own e.2.1 (Int32.ofNat e.2.2) ∈ it_tb
def it_lwP (e : Nat × Nat × Nat) : Prop := ∃ own, it_cn[e.1]? = some own ∧ Cond.constantLong own e.2.1 (Int64.ofNat e.2.2) ∈ it_tb
def it_cwP (e : Nat × Nat × Nat) : Prop := ∃ own q, it_cn[e.1]? = some own ∧ it_cl[e.2.2]? = some q ∧ Cond.classLink own e.2.1 q.1 ∈ it_tb ∧ Cond.instantiable q.1 q.2.2 ∈ it_tb ∧ Cond.initialized q.1 ∈ it_tb
def it_mnm (a : Nat) : Option MethodName := if a = 9998 then some Lib.objectInit else if a = 9999 then some arraycopyName else if a = 9996 then some Lib.Math.max.name else if a = 9997 then some Lib.Math.min.name else match it_mt[a]? with
  | some M => some M.1.2
  | none => none
def it_mwP (e : Nat × Nat × Nat × Nat) : Prop := ∃ own y, it_cn[e.1]? = some own ∧ it_mnm e.2.2.1 = some y ∧ it_ml own e.2.1 y ∧ (9996 ≤ e.2.2.1 → Cond.methodLink own e.2.1 y ∈ it_tb)
/-- a method's kind: 0 static, 1 virtual, 2 a constructor, 3 the law -/
def it_kP (M : it_Mt) (k : Nat) : Prop := plainName M.1.2.cls = true ∧ Cond.initialized M.1.2.cls ∈ it_tb ∧ (M.1.2.cls ≠ "java/lang/invoke/MethodHandle" ∧ M.1.2.cls ≠ "java/lang/invoke/VarHandle") ∧ (parseMethodDescriptor M.1.2.desc).map (fun d => d.parameters.length) = some M.2.2.1 ∧ it_cn[M.1.1]? = some M.1.2.cls ∧ (k < 3 → Cond.code M.1.2 M.2.1.1 M.2.1.2.1 M.2.1.2.2 ∈ it_tb) ∧ (match k with
  | 0 => Cond.static M.1.2 ∈ it_tb
  | 1 => Cond.instanceMethod M.1.2 ∈ it_tb ∧ Cond.selects M.1.2.cls M.1.2 M.1.2 ∈ it_tb ∧ ∃ q, it_cl[M.1.1]? = some q ∧ q.1 = M.1.2.cls
  | 2 => Cond.instanceMethod M.1.2 ∈ it_tb ∧ M.1.2.name = "<init>" ∧ M.2.1.2.2 = none
  | _ => True)
theorem it_FT_0 : it_fwP (0, 11, 0, 0) := ⟨_, _, rfl, rfl, by decide, rfl, (it_mem 0 123 rfl rfl)⟩
theorem it_FT_1 : it_fwP (0, 16, 0, 1) := ⟨_, _, rfl, rfl, by decide, rfl, (it_mem 0 124 rfl rfl)⟩
theorem it_FT_2 : it_fwP (0, 26, 0, 2) := ⟨_, _, rfl, rfl, by decide, rfl, (it_mem 0 128 rfl rfl)⟩
theorem it_FT_3 : it_fwP (0, 32, 0, 3) := ⟨_, _, rfl, rfl, by decide, rfl, (it_mem 0 130 rfl rfl)⟩
theorem it_FT_4 : it_fwP (0, 39, 0, 9) := ⟨_, _, rfl, rfl, by decide, rfl, (it_mem 0 142 rfl rfl)⟩
theorem it_FT_5 : it_fwP (0, 42, 0, 8) := ⟨_, _, rfl, rfl, by decide, rfl, (it_mem 0 141 rfl rfl)⟩
theorem it_FT_6 : it_fwP (0, 45, 0, 4) := ⟨_, _, rfl, rfl, by decide, rfl, (it_mem 0 134 rfl rfl)⟩
theorem it_FT_7 : it_fwP (0, 48, 0, 5) := ⟨_, _, rfl, rfl, by decide, rfl, (it_mem 0 137 rfl rfl)⟩
theorem it_FT_8 : it_fwP (0, 51, 0, 6) := ⟨_, _, rfl, rfl, by decide, rfl, (it_mem 0 138 rfl rfl)⟩
theorem it_FT_9 : it_fwP (0, 54, 0, 7) := ⟨_, _, rfl, rfl, by decide, rfl, (it_mem 0 139 rfl rfl)⟩
theorem it_FT_10 : it_fwP (0, 57, 0, 10) := ⟨_, _, rfl, rfl, by decide, rfl, (it_mem 0 144 rfl rfl)⟩
theorem it_FT_11 : it_fwP (0, 60, 0, 12) := ⟨_, _, rfl, rfl, by decide, rfl, (it_mem 0 147 rfl rfl)⟩
theorem it_FT_12 : it_fwP (0, 63, 0, 13) := ⟨_, _, rfl, rfl, by decide, rfl, (it_mem 0 150 rfl rfl)⟩
theorem it_FT_13 : it_fwP (0, 73, 0, 11) := ⟨_, _, rfl, rfl, by decide, rfl, (it_mem 0 146 rfl rfl)⟩
theorem it_FT_14 : it_fwP (0, 76, 0, 14) := ⟨_, _, rfl, rfl, by decide, rfl, (it_mem 0 151 rfl rfl)⟩
theorem it_FT_15 : it_fwP (1, 10, 1, 0) := ⟨_, _, rfl, rfl, by decide, rfl, (it_mem 0 39 rfl rfl)⟩
theorem it_FT_16 : it_fwP (1, 16, 1, 1) := ⟨_, _, rfl, rfl, by decide, rfl, (it_mem 0 40 rfl rfl)⟩
theorem it_FT_17 : it_fwP (2, 9, 2, 6) := ⟨_, _, rfl, rfl, by decide, rfl, (it_mem 1 155 rfl rfl)⟩
theorem it_FT_18 : it_fwP (2, 15, 2, 8) := ⟨_, _, rfl, rfl, by decide, rfl, (it_mem 1 158 rfl rfl)⟩
theorem it_FT_19 : it_fwP (2, 21, 2, 10) := ⟨_, _, rfl, rfl, by decide, rfl, (it_mem 1 160 rfl rfl)⟩
theorem it_FT_20 : it_fwP (2, 24, 2, 11) := ⟨_, _, rfl, rfl, by decide, rfl, (it_mem 1 161 rfl rfl)⟩
theorem it_FT_21 : it_fwP (2, 27, 2, 0) := ⟨_, _, rfl, rfl, by decide, rfl, (it_mem 1 148 rfl rfl)⟩
theorem it_FT_22 : it_fwP (2, 31, 2, 1) := ⟨_, _, rfl, rfl, by decide, rfl, (it_mem 1 149 rfl rfl)⟩
theorem it_FT_23 : it_fwP (2, 35, 2, 2) := ⟨_, _, rfl, rfl, by decide, rfl, (it_mem 1 150 rfl rfl)⟩
theorem it_FT_24 : it_fwP (2, 39, 2, 3) := ⟨_, _, rfl, rfl, by decide, rfl, (it_mem 1 151 rfl rfl)⟩
theorem it_FT_25 : it_fwP (2, 43, 2, 4) := ⟨_, _, rfl, rfl, by decide, rfl, (it_mem 1 152 rfl rfl)⟩
theorem it_FT_26 : it_fwP (2, 47, 2, 7) := ⟨_, _, rfl, rfl, by decide, rfl, (it_mem 1 157 rfl rfl)⟩
theorem it_FT_27 : it_fwP (2, 50, 2, 12) := ⟨_, _, rfl, rfl, by decide, rfl, (it_mem 1 162 rfl rfl)⟩
theorem it_FT_28 : it_fwP (2, 53, 6, 2) := ⟨_, _, rfl, rfl, by decide, rfl, (it_mem 0 200 rfl rfl)⟩
theorem it_FT_29 : it_fwP (2, 88, 2, 9) := ⟨_, _, rfl, rfl, by decide, rfl, (it_mem 1 159 rfl rfl)⟩
theorem it_FT_30 : it_fwP (2, 94, 3, 0) := ⟨_, _, rfl, rfl, by decide, rfl, (it_mem 0 54 rfl rfl)⟩
theorem it_FT_31 : it_fwP (2, 105, 4, 7) := ⟨_, _, rfl, rfl, by decide, rfl, (it_mem 1 63 rfl rfl)⟩
theorem it_FT_32 : it_fwP (2, 108, 4, 2) := ⟨_, _, rfl, rfl, by decide, rfl, (it_mem 1 52 rfl rfl)⟩
theorem it_FT_33 : it_fwP (2, 112, 6, 17) := ⟨_, _, rfl, rfl, by decide, rfl, (it_mem 1 4 rfl rfl)⟩
theorem it_FT_34 : it_fwP (2, 174, 6, 0) := ⟨_, _, rfl, rfl, by decide, rfl, (it_mem 0 192 rfl rfl)⟩
theorem it_FT_35 : it_fwP (2, 187, 3, 1) := ⟨_, _, rfl, rfl, by decide, rfl, (it_mem 0 59 rfl rfl)⟩
theorem it_FT_36 : it_fwP (2, 193, 2, 5) := ⟨_, _, rfl, rfl, by decide, rfl, (it_mem 1 154 rfl rfl)⟩
theorem it_FT_37 : it_fwP (2, 198, 6, 1) := ⟨_, _, rfl, rfl, by decide, rfl, (it_mem 0 197 rfl rfl)⟩
theorem it_FT_38 : it_fwP (2, 202, 0, 12) := ⟨_, _, rfl, rfl, by decide, rfl, (it_mem 0 149 rfl rfl)⟩
theorem it_FT_39 : it_fwP (2, 232, 8, 4) := ⟨_, _, rfl, rfl, by decide, rfl, (it_mem 0 88 rfl rfl)⟩
theorem it_FT_40 : it_fwP (3, 9, 3, 1) := ⟨_, _, rfl, rfl, by decide, rfl, (it_mem 0 57 rfl rfl)⟩
theorem it_FT_41 : it_fwP (3, 15, 3, 2) := ⟨_, _, rfl, rfl, by decide, rfl, (it_mem 0 61 rfl rfl)⟩
theorem it_FT_42 : it_fwP (3, 18, 3, 3) := ⟨_, _, rfl, rfl, by decide, rfl, (it_mem 0 62 rfl rfl)⟩
theorem it_FT_43 : it_fwP (3, 22, 3, 0) := ⟨_, _, rfl, rfl, by decide, rfl, (it_mem 0 53 rfl rfl)⟩
theorem it_FT_44 : it_fwP (3, 25, 3, 4) := ⟨_, _, rfl, rfl, by decide, rfl, (it_mem 0 63 rfl rfl)⟩
theorem it_FT_45 : it_fwP (4, 13, 4, 2) := ⟨_, _, rfl, rfl, by decide, rfl, (it_mem 1 50 rfl rfl)⟩
theorem it_FT_46 : it_fwP (4, 17, 4, 4) := ⟨_, _, rfl, rfl, by decide, rfl, (it_mem 1 55 rfl rfl)⟩
theorem it_FT_47 : it_fwP (4, 21, 4, 5) := ⟨_, _, rfl, rfl, by decide, rfl, (it_mem 1 57 rfl rfl)⟩
theorem it_FT_48 : it_fwP (4, 24, 4, 0) := ⟨_, _, rfl, rfl, by decide, rfl, (it_mem 1 48 rfl rfl)⟩
theorem it_FT_49 : it_fwP (4, 28, 4, 1) := ⟨_, _, rfl, rfl, by decide, rfl, (it_mem 1 49 rfl rfl)⟩
theorem it_FT_50 : it_fwP (4, 37, 4, 3) := ⟨_, _, rfl, rfl, by decide, rfl, (it_mem 1 54 rfl rfl)⟩
theorem it_FT_51 : it_fwP (4, 44, 4, 7) := ⟨_, _, rfl, rfl, by decide, rfl, (it_mem 1 60 rfl rfl)⟩
theorem it_FT_52 : it_fwP (4, 50, 6, 1) := ⟨_, _, rfl, rfl, by decide, rfl, (it_mem 0 195 rfl rfl)⟩
theorem it_FT_53 : it_fwP (4, 57, 0, 3) := ⟨_, _, rfl, rfl, by decide, rfl, (it_mem 0 131 rfl rfl)⟩
theorem it_FT_54 : it_fwP (4, 85, 0, 10) := ⟨_, _, rfl, rfl, by decide, rfl, (it_mem 0 143 rfl rfl)⟩
theorem it_FT_55 : it_fwP (4, 88, 0, 11) := ⟨_, _, rfl, rfl, by decide, rfl, (it_mem 0 145 rfl rfl)⟩
theorem it_FT_56 : it_fwP (4, 99, 6, 5) := ⟨_, _, rfl, rfl, by decide, rfl, (it_mem 0 213 rfl rfl)⟩
theorem it_FT_57 : it_fwP (4, 102, 6, 6) := ⟨_, _, rfl, rfl, by decide, rfl, (it_mem 0 216 rfl rfl)⟩
theorem it_FT_58 : it_fwP (4, 114, 6, 12) := ⟨_, _, rfl, rfl, by decide, rfl, (it_mem 0 231 rfl rfl)⟩
theorem it_FT_59 : it_fwP (4, 117, 6, 0) := ⟨_, _, rfl, rfl, by decide, rfl, (it_mem 0 190 rfl rfl)⟩
theorem it_FT_60 : it_fwP (4, 131, 6, 3) := ⟨_, _, rfl, rfl, by decide, rfl, (it_mem 0 206 rfl rfl)⟩
theorem it_FT_61 : it_fwP (4, 134, 4, 8) := ⟨_, _, rfl, rfl, by decide, rfl, (it_mem 1 65 rfl rfl)⟩
theorem it_FT_62 : it_fwP (4, 144, 6, 11) := ⟨_, _, rfl, rfl, by decide, rfl, (it_mem 0 229 rfl rfl)⟩
theorem it_FT_63 : it_fwP (4, 147, 6, 9) := ⟨_, _, rfl, rfl, by decide, rfl, (it_mem 0 225 rfl rfl)⟩
theorem it_FT_64 : it_fwP (4, 150, 6, 14) := ⟨_, _, rfl, rfl, by decide, rfl, (it_mem 0 237 rfl rfl)⟩
theorem it_FT_65 : it_fwP (4, 163, 6, 15) := ⟨_, _, rfl, rfl, by decide, rfl, (it_mem 1 0 rfl rfl)⟩
theorem it_FT_66 : it_fwP (4, 166, 6, 16) := ⟨_, _, rfl, rfl, by decide, rfl, (it_mem 1 2 rfl rfl)⟩
theorem it_FT_67 : it_fwP (4, 189, 6, 13) := ⟨_, _, rfl, rfl, by decide, rfl, (it_mem 0 233 rfl rfl)⟩
theorem it_FT_68 : it_fwP (4, 199, 6, 2) := ⟨_, _, rfl, rfl, by decide, rfl, (it_mem 0 202 rfl rfl)⟩
theorem it_FT_69 : it_fwP (4, 202, 6, 4) := ⟨_, _, rfl, rfl, by decide, rfl, (it_mem 0 210 rfl rfl)⟩
theorem it_FT_70 : it_fwP (4, 205, 6, 17) := ⟨_, _, rfl, rfl, by decide, rfl, (it_mem 1 5 rfl rfl)⟩
theorem it_FT_71 : it_fwP (4, 211, 6, 8) := ⟨_, _, rfl, rfl, by decide, rfl, (it_mem 0 222 rfl rfl)⟩
theorem it_FT_72 : it_fwP (4, 214, 6, 7) := ⟨_, _, rfl, rfl, by decide, rfl, (it_mem 0 219 rfl rfl)⟩
theorem it_FT_73 : it_fwP (4, 217, 6, 18) := ⟨_, _, rfl, rfl, by decide, rfl, (it_mem 1 8 rfl rfl)⟩
theorem it_FT_74 : it_fwP (4, 238, 0, 1) := ⟨_, _, rfl, rfl, by decide, rfl, (it_mem 0 127 rfl rfl)⟩
theorem it_FT_75 : it_fwP (4, 262, 4, 6) := ⟨_, _, rfl, rfl, by decide, rfl, (it_mem 1 59 rfl rfl)⟩
theorem it_FT_76 : it_fwP (5, 7, 5, 0) := ⟨_, _, rfl, rfl, by decide, rfl, (it_mem 1 130 rfl rfl)⟩
theorem it_FT_77 : it_fwP (5, 13, 6, 3) := ⟨_, _, rfl, rfl, by decide, rfl, (it_mem 0 204 rfl rfl)⟩
theorem it_FT_78 : it_fwP (5, 42, 5, 1) := ⟨_, _, rfl, rfl, by decide, rfl, (it_mem 1 131 rfl rfl)⟩
theorem it_FT_79 : it_fwP (5, 45, 5, 2) := ⟨_, _, rfl, rfl, by decide, rfl, (it_mem 1 133 rfl rfl)⟩
theorem it_FT_80 : it_fwP (5, 82, 6, 2) := ⟨_, _, rfl, rfl, by decide, rfl, (it_mem 0 201 rfl rfl)⟩
theorem it_FT_81 : it_fwP (5, 135, 6, 4) := ⟨_, _, rfl, rfl, by decide, rfl, (it_mem 0 211 rfl rfl)⟩
theorem it_FT_82 : it_fwP (6, 9, 6, 2) := ⟨_, _, rfl, rfl, by decide, rfl, (it_mem 0 198 rfl rfl)⟩
theorem it_FT_83 : it_fwP (6, 15, 6, 13) := ⟨_, _, rfl, rfl, by decide, rfl, (it_mem 0 232 rfl rfl)⟩
theorem it_FT_84 : it_fwP (6, 18, 6, 17) := ⟨_, _, rfl, rfl, by decide, rfl, (it_mem 1 3 rfl rfl)⟩
theorem it_FT_85 : it_fwP (6, 21, 6, 0) := ⟨_, _, rfl, rfl, by decide, rfl, (it_mem 0 188 rfl rfl)⟩
theorem it_FT_86 : it_fwP (6, 25, 6, 1) := ⟨_, _, rfl, rfl, by decide, rfl, (it_mem 0 194 rfl rfl)⟩
theorem it_FT_87 : it_fwP (6, 29, 6, 5) := ⟨_, _, rfl, rfl, by decide, rfl, (it_mem 0 212 rfl rfl)⟩
theorem it_FT_88 : it_fwP (6, 32, 6, 6) := ⟨_, _, rfl, rfl, by decide, rfl, (it_mem 0 215 rfl rfl)⟩
theorem it_FT_89 : it_fwP (6, 35, 6, 10) := ⟨_, _, rfl, rfl, by decide, rfl, (it_mem 0 226 rfl rfl)⟩
theorem it_FT_90 : it_fwP (6, 39, 6, 12) := ⟨_, _, rfl, rfl, by decide, rfl, (it_mem 0 230 rfl rfl)⟩
theorem it_FT_91 : it_fwP (6, 42, 0, 5) := ⟨_, _, rfl, rfl, by decide, rfl, (it_mem 0 136 rfl rfl)⟩
theorem it_FT_92 : it_fwP (6, 51, 6, 7) := ⟨_, _, rfl, rfl, by decide, rfl, (it_mem 0 217 rfl rfl)⟩
theorem it_FT_93 : it_fwP (6, 58, 6, 8) := ⟨_, _, rfl, rfl, by decide, rfl, (it_mem 0 220 rfl rfl)⟩
theorem it_FT_94 : it_fwP (6, 67, 6, 18) := ⟨_, _, rfl, rfl, by decide, rfl, (it_mem 1 7 rfl rfl)⟩
theorem it_FT_95 : it_fwP (6, 70, 6, 14) := ⟨_, _, rfl, rfl, by decide, rfl, (it_mem 0 235 rfl rfl)⟩
theorem it_FT_96 : it_fwP (6, 73, 0, 1) := ⟨_, _, rfl, rfl, by decide, rfl, (it_mem 0 125 rfl rfl)⟩
theorem it_FT_97 : it_fwP (6, 76, 0, 2) := ⟨_, _, rfl, rfl, by decide, rfl, (it_mem 0 129 rfl rfl)⟩
theorem it_FT_98 : it_fwP (6, 77, 0, 4) := ⟨_, _, rfl, rfl, by decide, rfl, (it_mem 0 135 rfl rfl)⟩
theorem it_FT_99 : it_fwP (6, 80, 6, 3) := ⟨_, _, rfl, rfl, by decide, rfl, (it_mem 0 205 rfl rfl)⟩
theorem it_FT_100 : it_fwP (6, 83, 6, 4) := ⟨_, _, rfl, rfl, by decide, rfl, (it_mem 0 208 rfl rfl)⟩
theorem it_FT_101 : it_fwP (6, 86, 6, 9) := ⟨_, _, rfl, rfl, by decide, rfl, (it_mem 0 223 rfl rfl)⟩
theorem it_FT_102 : it_fwP (6, 89, 6, 11) := ⟨_, _, rfl, rfl, by decide, rfl, (it_mem 0 228 rfl rfl)⟩
theorem it_FT_103 : it_fwP (6, 92, 0, 3) := ⟨_, _, rfl, rfl, by decide, rfl, (it_mem 0 132 rfl rfl)⟩
theorem it_FT_104 : it_fwP (6, 98, 0, 7) := ⟨_, _, rfl, rfl, by decide, rfl, (it_mem 0 140 rfl rfl)⟩
theorem it_FT_105 : it_fwP (7, 11, 7, 6) := ⟨_, _, rfl, rfl, by decide, rfl, (it_mem 1 98 rfl rfl)⟩
theorem it_FT_106 : it_fwP (7, 17, 7, 7) := ⟨_, _, rfl, rfl, by decide, rfl, (it_mem 1 100 rfl rfl)⟩
theorem it_FT_107 : it_fwP (7, 20, 7, 8) := ⟨_, _, rfl, rfl, by decide, rfl, (it_mem 1 101 rfl rfl)⟩
theorem it_FT_108 : it_fwP (7, 23, 7, 0) := ⟨_, _, rfl, rfl, by decide, rfl, (it_mem 1 91 rfl rfl)⟩
theorem it_FT_109 : it_fwP (7, 27, 7, 1) := ⟨_, _, rfl, rfl, by decide, rfl, (it_mem 1 92 rfl rfl)⟩
theorem it_FT_110 : it_fwP (7, 31, 7, 2) := ⟨_, _, rfl, rfl, by decide, rfl, (it_mem 1 93 rfl rfl)⟩
theorem it_FT_111 : it_fwP (7, 35, 7, 3) := ⟨_, _, rfl, rfl, by decide, rfl, (it_mem 1 94 rfl rfl)⟩
theorem it_FT_112 : it_fwP (7, 41, 7, 4) := ⟨_, _, rfl, rfl, by decide, rfl, (it_mem 1 95 rfl rfl)⟩
theorem it_FT_113 : it_fwP (7, 44, 7, 5) := ⟨_, _, rfl, rfl, by decide, rfl, (it_mem 1 97 rfl rfl)⟩
theorem it_FT_114 : it_fwP (7, 47, 7, 9) := ⟨_, _, rfl, rfl, by decide, rfl, (it_mem 1 102 rfl rfl)⟩
theorem it_FT_115 : it_fwP (7, 70, 4, 7) := ⟨_, _, rfl, rfl, by decide, rfl, (it_mem 1 61 rfl rfl)⟩
theorem it_FT_116 : it_fwP (7, 73, 4, 2) := ⟨_, _, rfl, rfl, by decide, rfl, (it_mem 1 51 rfl rfl)⟩
theorem it_FT_117 : it_fwP (7, 81, 6, 0) := ⟨_, _, rfl, rfl, by decide, rfl, (it_mem 0 191 rfl rfl)⟩
theorem it_FT_118 : it_fwP (7, 84, 3, 0) := ⟨_, _, rfl, rfl, by decide, rfl, (it_mem 0 55 rfl rfl)⟩
theorem it_FT_119 : it_fwP (7, 113, 6, 4) := ⟨_, _, rfl, rfl, by decide, rfl, (it_mem 0 209 rfl rfl)⟩
theorem it_FT_120 : it_fwP (8, 9, 8, 3) := ⟨_, _, rfl, rfl, by decide, rfl, (it_mem 0 84 rfl rfl)⟩
theorem it_FT_121 : it_fwP (8, 15, 8, 5) := ⟨_, _, rfl, rfl, by decide, rfl, (it_mem 0 89 rfl rfl)⟩
theorem it_FT_122 : it_fwP (8, 19, 8, 0) := ⟨_, _, rfl, rfl, by decide, rfl, (it_mem 0 81 rfl rfl)⟩
theorem it_FT_123 : it_fwP (8, 23, 8, 1) := ⟨_, _, rfl, rfl, by decide, rfl, (it_mem 0 82 rfl rfl)⟩
theorem it_FT_124 : it_fwP (8, 38, 8, 2) := ⟨_, _, rfl, rfl, by decide, rfl, (it_mem 0 83 rfl rfl)⟩
theorem it_FT_125 : it_fwP (8, 66, 8, 6) := ⟨_, _, rfl, rfl, by decide, rfl, (it_mem 0 90 rfl rfl)⟩
theorem it_FT_126 : it_fwP (8, 72, 8, 7) := ⟨_, _, rfl, rfl, by decide, rfl, (it_mem 0 91 rfl rfl)⟩
theorem it_FT_127 : it_fwP (8, 86, 8, 4) := ⟨_, _, rfl, rfl, by decide, rfl, (it_mem 0 87 rfl rfl)⟩
theorem it_FT_128 : it_fwP (8, 96, 3, 1) := ⟨_, _, rfl, rfl, by decide, rfl, (it_mem 0 60 rfl rfl)⟩
theorem it_FT_129 : it_fwP (9, 9, 9, 0) := ⟨_, _, rfl, rfl, by decide, rfl, (it_mem 1 197 rfl rfl)⟩
theorem it_FT_130 : it_fwP (9, 15, 9, 1) := ⟨_, _, rfl, rfl, by decide, rfl, (it_mem 1 198 rfl rfl)⟩
theorem it_FT_131 : it_fwP (9, 19, 9, 2) := ⟨_, _, rfl, rfl, by decide, rfl, (it_mem 1 199 rfl rfl)⟩
theorem it_FT_132 : it_fwP (9, 23, 6, 2) := ⟨_, _, rfl, rfl, by decide, rfl, (it_mem 0 199 rfl rfl)⟩
theorem it_FT_133 : it_fwP (9, 29, 6, 0) := ⟨_, _, rfl, rfl, by decide, rfl, (it_mem 0 189 rfl rfl)⟩
theorem it_FT_134 : it_fwP (9, 39, 6, 4) := ⟨_, _, rfl, rfl, by decide, rfl, (it_mem 0 207 rfl rfl)⟩
theorem it_FT_135 : it_fwP (9, 70, 6, 14) := ⟨_, _, rfl, rfl, by decide, rfl, (it_mem 0 236 rfl rfl)⟩
theorem it_FT_136 : it_fwP (9, 78, 6, 9) := ⟨_, _, rfl, rfl, by decide, rfl, (it_mem 0 224 rfl rfl)⟩
theorem it_FT_137 : it_fwP (9, 103, 6, 15) := ⟨_, _, rfl, rfl, by decide, rfl, (it_mem 0 239 rfl rfl)⟩
theorem it_FT_138 : it_fwP (9, 106, 6, 16) := ⟨_, _, rfl, rfl, by decide, rfl, (it_mem 1 1 rfl rfl)⟩
theorem it_FT_139 : it_fwP (9, 165, 6, 1) := ⟨_, _, rfl, rfl, by decide, rfl, (it_mem 0 196 rfl rfl)⟩
theorem it_FT_140 : it_fwP (9, 190, 0, 12) := ⟨_, _, rfl, rfl, by decide, rfl, (it_mem 0 148 rfl rfl)⟩
theorem it_FT_141 : it_fwP (9, 202, 6, 7) := ⟨_, _, rfl, rfl, by decide, rfl, (it_mem 0 218 rfl rfl)⟩
theorem it_FT_142 : it_fwP (9, 205, 0, 1) := ⟨_, _, rfl, rfl, by decide, rfl, (it_mem 0 126 rfl rfl)⟩
theorem it_FT_143 : it_fwP (9, 208, 0, 3) := ⟨_, _, rfl, rfl, by decide, rfl, (it_mem 0 133 rfl rfl)⟩
theorem it_FT_144 : it_fwP (9, 211, 6, 5) := ⟨_, _, rfl, rfl, by decide, rfl, (it_mem 0 214 rfl rfl)⟩
theorem it_FT_145 : it_fwP (9, 214, 6, 8) := ⟨_, _, rfl, rfl, by decide, rfl, (it_mem 0 221 rfl rfl)⟩
theorem it_FT_146 : it_fwP (10, 10, 10, 0) := ⟨_, _, rfl, rfl, by decide, rfl, (it_mem 1 207 rfl rfl)⟩
theorem it_FT_147 : it_fwP (10, 19, 10, 1) := ⟨_, _, rfl, rfl, by decide, rfl, (it_mem 1 208 rfl rfl)⟩
theorem it_FT_148 : it_fwP (10, 28, 10, 2) := ⟨_, _, rfl, rfl, by decide, rfl, (it_mem 1 209 rfl rfl)⟩
theorem it_FT_149 : it_fwP (10, 35, 10, 3) := ⟨_, _, rfl, rfl, by decide, rfl, (it_mem 1 210 rfl rfl)⟩
theorem it_FT_150 : it_fwP (10, 44, 10, 4) := ⟨_, _, rfl, rfl, by decide, rfl, (it_mem 1 211 rfl rfl)⟩
theorem it_FT_151 : it_fwP (10, 53, 10, 5) := ⟨_, _, rfl, rfl, by decide, rfl, (it_mem 1 212 rfl rfl)⟩
theorem it_FT_152 : it_fwP (10, 62, 10, 6) := ⟨_, _, rfl, rfl, by decide, rfl, (it_mem 1 213 rfl rfl)⟩
theorem it_FT_153 : it_fwP (10, 71, 10, 7) := ⟨_, _, rfl, rfl, by decide, rfl, (it_mem 1 214 rfl rfl)⟩
theorem it_FT_154 : it_fwP (10, 75, 10, 8) := ⟨_, _, rfl, rfl, by decide, rfl, (it_mem 1 215 rfl rfl)⟩
theorem it_FT_155 : it_fwP (10, 79, 10, 9) := ⟨_, _, rfl, rfl, by decide, rfl, (it_mem 1 216 rfl rfl)⟩
theorem it_FT_156 : it_fwP (10, 87, 10, 10) := ⟨_, _, rfl, rfl, by decide, rfl, (it_mem 1 217 rfl rfl)⟩
theorem it_FT_157 : it_fwP (10, 103, 8, 4) := ⟨_, _, rfl, rfl, by decide, rfl, (it_mem 0 86 rfl rfl)⟩
theorem it_FT_158 : it_fwP (10, 112, 4, 8) := ⟨_, _, rfl, rfl, by decide, rfl, (it_mem 1 64 rfl rfl)⟩
theorem it_FT_159 : it_fwP (10, 119, 4, 7) := ⟨_, _, rfl, rfl, by decide, rfl, (it_mem 1 62 rfl rfl)⟩
theorem it_FT_160 : it_fwP (10, 122, 8, 3) := ⟨_, _, rfl, rfl, by decide, rfl, (it_mem 0 85 rfl rfl)⟩
theorem it_FT_161 : it_fwP (10, 125, 3, 0) := ⟨_, _, rfl, rfl, by decide, rfl, (it_mem 0 56 rfl rfl)⟩
theorem it_FT_162 : it_fwP (10, 135, 3, 1) := ⟨_, _, rfl, rfl, by decide, rfl, (it_mem 0 58 rfl rfl)⟩
theorem it_FT_163 : it_fwP (10, 150, 5, 1) := ⟨_, _, rfl, rfl, by decide, rfl, (it_mem 1 132 rfl rfl)⟩
theorem it_FT_164 : it_fwP (10, 153, 5, 2) := ⟨_, _, rfl, rfl, by decide, rfl, (it_mem 1 134 rfl rfl)⟩
theorem it_FT_165 : it_fwP (10, 168, 2, 6) := ⟨_, _, rfl, rfl, by decide, rfl, (it_mem 1 156 rfl rfl)⟩
theorem it_FT_166 : it_fwP (10, 175, 6, 10) := ⟨_, _, rfl, rfl, by decide, rfl, (it_mem 0 227 rfl rfl)⟩
theorem it_FT_167 : it_fwP (10, 184, 7, 6) := ⟨_, _, rfl, rfl, by decide, rfl, (it_mem 1 99 rfl rfl)⟩
theorem it_FT_168 : it_fwP (10, 185, 6, 0) := ⟨_, _, rfl, rfl, by decide, rfl, (it_mem 0 193 rfl rfl)⟩
theorem it_FT_169 : it_fwP (10, 188, 7, 4) := ⟨_, _, rfl, rfl, by decide, rfl, (it_mem 1 96 rfl rfl)⟩
theorem it_FT_170 : it_fwP (10, 195, 6, 2) := ⟨_, _, rfl, rfl, by decide, rfl, (it_mem 0 203 rfl rfl)⟩
theorem it_FT_171 : it_fwP (10, 208, 4, 4) := ⟨_, _, rfl, rfl, by decide, rfl, (it_mem 1 56 rfl rfl)⟩
theorem it_FT_172 : it_fwP (10, 211, 4, 5) := ⟨_, _, rfl, rfl, by decide, rfl, (it_mem 1 58 rfl rfl)⟩
theorem it_FT_173 : it_fwP (10, 214, 6, 14) := ⟨_, _, rfl, rfl, by decide, rfl, (it_mem 0 238 rfl rfl)⟩
theorem it_FT_174 : it_fwP (10, 217, 6, 13) := ⟨_, _, rfl, rfl, by decide, rfl, (it_mem 0 234 rfl rfl)⟩
theorem it_FT_175 : it_fwP (10, 220, 6, 17) := ⟨_, _, rfl, rfl, by decide, rfl, (it_mem 1 6 rfl rfl)⟩
theorem it_FT_176 : it_fwP (10, 226, 2, 4) := ⟨_, _, rfl, rfl, by decide, rfl, (it_mem 1 153 rfl rfl)⟩
theorem it_FT_177 : it_fwP (10, 235, 4, 2) := ⟨_, _, rfl, rfl, by decide, rfl, (it_mem 1 53 rfl rfl)⟩
theorem it_FT_178 : it_fwP (11, 8, 11, 0) := ⟨_, _, rfl, rfl, by decide, rfl, (it_mem 5 195 rfl rfl)⟩
theorem it_FT_179 : it_fwP (11, 14, 11, 1) := ⟨_, _, rfl, rfl, by decide, rfl, (it_mem 5 196 rfl rfl)⟩
theorem it_FT_180 : it_fwP (11, 17, 11, 5) := ⟨_, _, rfl, rfl, by decide, rfl, (it_mem 5 200 rfl rfl)⟩
theorem it_FT_181 : it_fwP (11, 21, 11, 11) := ⟨_, _, rfl, rfl, by decide, rfl, (it_mem 5 206 rfl rfl)⟩
theorem it_FT_182 : it_fwP (11, 25, 11, 12) := ⟨_, _, rfl, rfl, by decide, rfl, (it_mem 5 207 rfl rfl)⟩
theorem it_FT_183 : it_fwP (11, 28, 11, 13) := ⟨_, _, rfl, rfl, by decide, rfl, (it_mem 5 208 rfl rfl)⟩
theorem it_FT_184 : it_fwP (11, 32, 11, 14) := ⟨_, _, rfl, rfl, by decide, rfl, (it_mem 5 209 rfl rfl)⟩
theorem it_FT_185 : it_fwP (11, 35, 11, 15) := ⟨_, _, rfl, rfl, by decide, rfl, (it_mem 5 210 rfl rfl)⟩
theorem it_FT_186 : it_fwP (11, 38, 11, 16) := ⟨_, _, rfl, rfl, by decide, rfl, (it_mem 5 211 rfl rfl)⟩
theorem it_FT_187 : it_fwP (11, 41, 11, 17) := ⟨_, _, rfl, rfl, by decide, rfl, (it_mem 5 212 rfl rfl)⟩
theorem it_FT_188 : it_fwP (11, 44, 11, 29) := ⟨_, _, rfl, rfl, by decide, rfl, (it_mem 5 224 rfl rfl)⟩
theorem it_FT_189 : it_fwP (11, 47, 11, 30) := ⟨_, _, rfl, rfl, by decide, rfl, (it_mem 5 225 rfl rfl)⟩
theorem it_FT_190 : it_fwP (11, 50, 11, 31) := ⟨_, _, rfl, rfl, by decide, rfl, (it_mem 5 226 rfl rfl)⟩
theorem it_FT_191 : it_fwP (11, 53, 11, 32) := ⟨_, _, rfl, rfl, by decide, rfl, (it_mem 5 227 rfl rfl)⟩
theorem it_FT_192 : it_fwP (11, 56, 11, 35) := ⟨_, _, rfl, rfl, by decide, rfl, (it_mem 5 230 rfl rfl)⟩
theorem it_FT_193 : it_fwP (11, 59, 11, 36) := ⟨_, _, rfl, rfl, by decide, rfl, (it_mem 5 231 rfl rfl)⟩
theorem it_FT_194 : it_fwP (11, 62, 11, 37) := ⟨_, _, rfl, rfl, by decide, rfl, (it_mem 5 232 rfl rfl)⟩
theorem it_FT_195 : it_fwP (11, 65, 11, 38) := ⟨_, _, rfl, rfl, by decide, rfl, (it_mem 5 233 rfl rfl)⟩
theorem it_FT_196 : it_fwP (11, 68, 11, 39) := ⟨_, _, rfl, rfl, by decide, rfl, (it_mem 5 234 rfl rfl)⟩
theorem it_FT_197 : it_fwP (11, 71, 11, 40) := ⟨_, _, rfl, rfl, by decide, rfl, (it_mem 5 235 rfl rfl)⟩
theorem it_FT_198 : it_fwP (11, 74, 11, 41) := ⟨_, _, rfl, rfl, by decide, rfl, (it_mem 5 236 rfl rfl)⟩
theorem it_FT_199 : it_fwP (11, 77, 11, 42) := ⟨_, _, rfl, rfl, by decide, rfl, (it_mem 5 237 rfl rfl)⟩
theorem it_FT_200 : it_fwP (11, 80, 11, 43) := ⟨_, _, rfl, rfl, by decide, rfl, (it_mem 5 238 rfl rfl)⟩
theorem it_FT_201 : it_fwP (11, 83, 11, 44) := ⟨_, _, rfl, rfl, by decide, rfl, (it_mem 5 239 rfl rfl)⟩
theorem it_FT_202 : it_fwP (11, 86, 11, 45) := ⟨_, _, rfl, rfl, by decide, rfl, (it_mem 6 0 rfl rfl)⟩
theorem it_FT_203 : it_fwP (11, 89, 11, 46) := ⟨_, _, rfl, rfl, by decide, rfl, (it_mem 6 1 rfl rfl)⟩
theorem it_FT_204 : it_fwP (11, 92, 11, 47) := ⟨_, _, rfl, rfl, by decide, rfl, (it_mem 6 2 rfl rfl)⟩
theorem it_FT_205 : it_fwP (11, 95, 11, 48) := ⟨_, _, rfl, rfl, by decide, rfl, (it_mem 6 3 rfl rfl)⟩
theorem it_FT_206 : it_fwP (11, 98, 11, 49) := ⟨_, _, rfl, rfl, by decide, rfl, (it_mem 6 4 rfl rfl)⟩
theorem it_FT_207 : it_fwP (11, 101, 11, 50) := ⟨_, _, rfl, rfl, by decide, rfl, (it_mem 6 5 rfl rfl)⟩
theorem it_FT_208 : it_fwP (11, 104, 11, 51) := ⟨_, _, rfl, rfl, by decide, rfl, (it_mem 6 6 rfl rfl)⟩
theorem it_FT_209 : it_fwP (11, 107, 11, 52) := ⟨_, _, rfl, rfl, by decide, rfl, (it_mem 6 7 rfl rfl)⟩
theorem it_FT_210 : it_fwP (11, 110, 11, 53) := ⟨_, _, rfl, rfl, by decide, rfl, (it_mem 6 8 rfl rfl)⟩
theorem it_FT_211 : it_fwP (11, 113, 11, 54) := ⟨_, _, rfl, rfl, by decide, rfl, (it_mem 6 9 rfl rfl)⟩
theorem it_FT_212 : it_fwP (11, 116, 11, 55) := ⟨_, _, rfl, rfl, by decide, rfl, (it_mem 6 10 rfl rfl)⟩
theorem it_FT_213 : it_fwP (11, 119, 11, 56) := ⟨_, _, rfl, rfl, by decide, rfl, (it_mem 6 11 rfl rfl)⟩
theorem it_FT_214 : it_fwP (11, 122, 11, 57) := ⟨_, _, rfl, rfl, by decide, rfl, (it_mem 6 12 rfl rfl)⟩
theorem it_FT_215 : it_fwP (11, 125, 11, 58) := ⟨_, _, rfl, rfl, by decide, rfl, (it_mem 6 13 rfl rfl)⟩
theorem it_FT_216 : it_fwP (11, 128, 11, 59) := ⟨_, _, rfl, rfl, by decide, rfl, (it_mem 6 14 rfl rfl)⟩
theorem it_FT_217 : it_fwP (11, 131, 11, 60) := ⟨_, _, rfl, rfl, by decide, rfl, (it_mem 6 15 rfl rfl)⟩
theorem it_FT_218 : it_fwP (11, 134, 11, 61) := ⟨_, _, rfl, rfl, by decide, rfl, (it_mem 6 16 rfl rfl)⟩
theorem it_FT_219 : it_fwP (11, 137, 11, 62) := ⟨_, _, rfl, rfl, by decide, rfl, (it_mem 6 17 rfl rfl)⟩
theorem it_FT_220 : it_fwP (11, 140, 11, 63) := ⟨_, _, rfl, rfl, by decide, rfl, (it_mem 6 18 rfl rfl)⟩
theorem it_FT_221 : it_fwP (11, 143, 11, 64) := ⟨_, _, rfl, rfl, by decide, rfl, (it_mem 6 19 rfl rfl)⟩
theorem it_FT_222 : it_fwP (11, 146, 11, 65) := ⟨_, _, rfl, rfl, by decide, rfl, (it_mem 6 20 rfl rfl)⟩
theorem it_FT_223 : it_fwP (11, 149, 11, 66) := ⟨_, _, rfl, rfl, by decide, rfl, (it_mem 6 21 rfl rfl)⟩
theorem it_FT_224 : it_fwP (11, 152, 11, 67) := ⟨_, _, rfl, rfl, by decide, rfl, (it_mem 6 22 rfl rfl)⟩
theorem it_FT_225 : it_fwP (11, 155, 11, 68) := ⟨_, _, rfl, rfl, by decide, rfl, (it_mem 6 23 rfl rfl)⟩
theorem it_FT_226 : it_fwP (11, 168, 11, 2) := ⟨_, _, rfl, rfl, by decide, rfl, (it_mem 5 197 rfl rfl)⟩
theorem it_FT_227 : it_fwP (11, 175, 11, 3) := ⟨_, _, rfl, rfl, by decide, rfl, (it_mem 5 198 rfl rfl)⟩
theorem it_FT_228 : it_fwP (11, 182, 11, 6) := ⟨_, _, rfl, rfl, by decide, rfl, (it_mem 5 201 rfl rfl)⟩
theorem it_FT_229 : it_fwP (11, 185, 11, 34) := ⟨_, _, rfl, rfl, by decide, rfl, (it_mem 5 229 rfl rfl)⟩
theorem it_FT_230 : it_fwP (11, 188, 11, 4) := ⟨_, _, rfl, rfl, by decide, rfl, (it_mem 5 199 rfl rfl)⟩
theorem it_FT_231 : it_fwP (11, 247, 11, 18) := ⟨_, _, rfl, rfl, by decide, rfl, (it_mem 5 213 rfl rfl)⟩
theorem it_FT_232 : it_fwP (11, 254, 11, 19) := ⟨_, _, rfl, rfl, by decide, rfl, (it_mem 5 214 rfl rfl)⟩
theorem it_FT_233 : it_fwP (11, 257, 11, 24) := ⟨_, _, rfl, rfl, by decide, rfl, (it_mem 5 219 rfl rfl)⟩
theorem it_FT_234 : it_fwP (11, 260, 11, 25) := ⟨_, _, rfl, rfl, by decide, rfl, (it_mem 5 220 rfl rfl)⟩
theorem it_FT_235 : it_fwP (11, 263, 11, 26) := ⟨_, _, rfl, rfl, by decide, rfl, (it_mem 5 221 rfl rfl)⟩
theorem it_FT_236 : it_fwP (11, 266, 11, 27) := ⟨_, _, rfl, rfl, by decide, rfl, (it_mem 5 222 rfl rfl)⟩
theorem it_FT_237 : it_fwP (11, 269, 11, 28) := ⟨_, _, rfl, rfl, by decide, rfl, (it_mem 5 223 rfl rfl)⟩
theorem it_FT_238 : it_fwP (11, 272, 11, 20) := ⟨_, _, rfl, rfl, by decide, rfl, (it_mem 5 215 rfl rfl)⟩
theorem it_FT_239 : it_fwP (11, 275, 11, 21) := ⟨_, _, rfl, rfl, by decide, rfl, (it_mem 5 216 rfl rfl)⟩
theorem it_FT_240 : it_fwP (11, 278, 11, 22) := ⟨_, _, rfl, rfl, by decide, rfl, (it_mem 5 217 rfl rfl)⟩
theorem it_FT_241 : it_fwP (11, 281, 11, 23) := ⟨_, _, rfl, rfl, by decide, rfl, (it_mem 5 218 rfl rfl)⟩
theorem it_FT_242 : it_fwP (11, 287, 11, 33) := ⟨_, _, rfl, rfl, by decide, rfl, (it_mem 5 228 rfl rfl)⟩
theorem it_FT_243 : it_fwP (11, 312, 11, 7) := ⟨_, _, rfl, rfl, by decide, rfl, (it_mem 5 202 rfl rfl)⟩
theorem it_FT_244 : it_fwP (11, 315, 11, 8) := ⟨_, _, rfl, rfl, by decide, rfl, (it_mem 5 203 rfl rfl)⟩
theorem it_FT_245 : it_fwP (11, 318, 11, 9) := ⟨_, _, rfl, rfl, by decide, rfl, (it_mem 5 204 rfl rfl)⟩
theorem it_FT_246 : it_fwP (11, 321, 11, 10) := ⟨_, _, rfl, rfl, by decide, rfl, (it_mem 5 205 rfl rfl)⟩
theorem it_FT_247 : it_fwP (11, 330, 11, 70) := ⟨_, _, rfl, rfl, by decide, rfl, (it_mem 6 25 rfl rfl)⟩
theorem it_FT_248 : it_fwP (11, 333, 11, 71) := ⟨_, _, rfl, rfl, by decide, rfl, (it_mem 6 26 rfl rfl)⟩
theorem it_FT_249 : it_fwP (11, 336, 11, 69) := ⟨_, _, rfl, rfl, by decide, rfl, (it_mem 6 24 rfl rfl)⟩
set_option maxRecDepth 100000 in
theorem it_FT_ok : ∀ e ∈ it_FT, it_fwP e := List.forall_mem_cons.mpr ⟨it_FT_0, List.forall_mem_cons.mpr ⟨it_FT_1, List.forall_mem_cons.mpr ⟨it_FT_2, List.forall_mem_cons.mpr ⟨it_FT_3, List.forall_mem_cons.mpr ⟨it_FT_4, List.forall_mem_cons.mpr ⟨it_FT_5, List.forall_mem_cons.mpr ⟨it_FT_6, List.forall_mem_cons.mpr ⟨it_FT_7, List.forall_mem_cons.mpr ⟨it_FT_8, List.forall_mem_cons.mpr ⟨it_FT_9, List.forall_mem_cons.mpr ⟨it_FT_10, List.forall_mem_cons.mpr ⟨it_FT_11, List.forall_mem_cons.mpr ⟨it_FT_12, List.forall_mem_cons.mpr ⟨it_FT_13, List.forall_mem_cons.mpr ⟨it_FT_14, List.forall_mem_cons.mpr ⟨it_FT_15, List.forall_mem_cons.mpr ⟨it_FT_16, List.forall_mem_cons.mpr ⟨it_FT_17, List.forall_mem_cons.mpr ⟨it_FT_18, List.forall_mem_cons.mpr ⟨it_FT_19, List.forall_mem_cons.mpr ⟨it_FT_20, List.forall_mem_cons.mpr ⟨it_FT_21, List.forall_mem_cons.mpr ⟨it_FT_22, List.forall_mem_cons.mpr ⟨it_FT_23, List.forall_mem_cons.mpr ⟨it_FT_24, List.forall_mem_cons.mpr ⟨it_FT_25, List.forall_mem_cons.mpr ⟨it_FT_26, List.forall_mem_cons.mpr ⟨it_FT_27, List.forall_mem_cons.mpr ⟨it_FT_28, List.forall_mem_cons.mpr ⟨it_FT_29, List.forall_mem_cons.mpr ⟨it_FT_30, List.forall_mem_cons.mpr ⟨it_FT_31, List.forall_mem_cons.mpr ⟨it_FT_32, List.forall_mem_cons.mpr ⟨it_FT_33, List.forall_mem_cons.mpr ⟨it_FT_34, List.forall_mem_cons.mpr ⟨it_FT_35, List.forall_mem_cons.mpr ⟨it_FT_36, List.forall_mem_cons.mpr ⟨it_FT_37, List.forall_mem_cons.mpr ⟨it_FT_38, List.forall_mem_cons.mpr ⟨it_FT_39, List.forall_mem_cons.mpr ⟨it_FT_40, List.forall_mem_cons.mpr ⟨it_FT_41, List.forall_mem_cons.mpr ⟨it_FT_42, List.forall_mem_cons.mpr ⟨it_FT_43, List.forall_mem_cons.mpr ⟨it_FT_44, List.forall_mem_cons.mpr ⟨it_FT_45, List.forall_mem_cons.mpr ⟨it_FT_46, List.forall_mem_cons.mpr ⟨it_FT_47, List.forall_mem_cons.mpr ⟨it_FT_48, List.forall_mem_cons.mpr ⟨it_FT_49, List.forall_mem_cons.mpr ⟨it_FT_50, List.forall_mem_cons.mpr ⟨it_FT_51, List.forall_mem_cons.mpr ⟨it_FT_52, List.forall_mem_cons.mpr ⟨it_FT_53, List.forall_mem_cons.mpr ⟨it_FT_54, List.forall_mem_cons.mpr ⟨it_FT_55, List.forall_mem_cons.mpr ⟨it_FT_56, List.forall_mem_cons.mpr ⟨it_FT_57, List.forall_mem_cons.mpr ⟨it_FT_58, List.forall_mem_cons.mpr ⟨it_FT_59, List.forall_mem_cons.mpr ⟨it_FT_60, List.forall_mem_cons.mpr ⟨it_FT_61, List.forall_mem_cons.mpr ⟨it_FT_62, List.forall_mem_cons.mpr ⟨it_FT_63, List.forall_mem_cons.mpr ⟨it_FT_64, List.forall_mem_cons.mpr ⟨it_FT_65, List.forall_mem_cons.mpr ⟨it_FT_66, List.forall_mem_cons.mpr ⟨it_FT_67, List.forall_mem_cons.mpr ⟨it_FT_68, List.forall_mem_cons.mpr ⟨it_FT_69, List.forall_mem_cons.mpr ⟨it_FT_70, List.forall_mem_cons.mpr ⟨it_FT_71, List.forall_mem_cons.mpr ⟨it_FT_72, List.forall_mem_cons.mpr ⟨it_FT_73, List.forall_mem_cons.mpr ⟨it_FT_74, List.forall_mem_cons.mpr ⟨it_FT_75, List.forall_mem_cons.mpr ⟨it_FT_76, List.forall_mem_cons.mpr ⟨it_FT_77, List.forall_mem_cons.mpr ⟨it_FT_78, List.forall_mem_cons.mpr ⟨it_FT_79, List.forall_mem_cons.mpr ⟨it_FT_80, List.forall_mem_cons.mpr ⟨it_FT_81, List.forall_mem_cons.mpr ⟨it_FT_82, List.forall_mem_cons.mpr ⟨it_FT_83, List.forall_mem_cons.mpr ⟨it_FT_84, List.forall_mem_cons.mpr ⟨it_FT_85, List.forall_mem_cons.mpr ⟨it_FT_86, List.forall_mem_cons.mpr ⟨it_FT_87, List.forall_mem_cons.mpr ⟨it_FT_88, List.forall_mem_cons.mpr ⟨it_FT_89, List.forall_mem_cons.mpr ⟨it_FT_90, List.forall_mem_cons.mpr ⟨it_FT_91, List.forall_mem_cons.mpr ⟨it_FT_92, List.forall_mem_cons.mpr ⟨it_FT_93, List.forall_mem_cons.mpr ⟨it_FT_94, List.forall_mem_cons.mpr ⟨it_FT_95, List.forall_mem_cons.mpr ⟨it_FT_96, List.forall_mem_cons.mpr ⟨it_FT_97, List.forall_mem_cons.mpr ⟨it_FT_98, List.forall_mem_cons.mpr ⟨it_FT_99, List.forall_mem_cons.mpr ⟨it_FT_100, List.forall_mem_cons.mpr ⟨it_FT_101, List.forall_mem_cons.mpr ⟨it_FT_102, List.forall_mem_cons.mpr ⟨it_FT_103, List.forall_mem_cons.mpr ⟨it_FT_104, List.forall_mem_cons.mpr ⟨it_FT_105, List.forall_mem_cons.mpr ⟨it_FT_106, List.forall_mem_cons.mpr ⟨it_FT_107, List.forall_mem_cons.mpr ⟨it_FT_108, List.forall_mem_cons.mpr ⟨it_FT_109, List.forall_mem_cons.mpr ⟨it_FT_110, List.forall_mem_cons.mpr ⟨it_FT_111, List.forall_mem_cons.mpr ⟨it_FT_112, List.forall_mem_cons.mpr ⟨it_FT_113, List.forall_mem_cons.mpr ⟨it_FT_114, List.forall_mem_cons.mpr ⟨it_FT_115, List.forall_mem_cons.mpr ⟨it_FT_116, List.forall_mem_cons.mpr ⟨it_FT_117, List.forall_mem_cons.mpr ⟨it_FT_118, List.forall_mem_cons.mpr ⟨it_FT_119, List.forall_mem_cons.mpr ⟨it_FT_120, List.forall_mem_cons.mpr ⟨it_FT_121, List.forall_mem_cons.mpr ⟨it_FT_122, List.forall_mem_cons.mpr ⟨it_FT_123, List.forall_mem_cons.mpr ⟨it_FT_124, List.forall_mem_cons.mpr ⟨it_FT_125, List.forall_mem_cons.mpr ⟨it_FT_126, List.forall_mem_cons.mpr ⟨it_FT_127, List.forall_mem_cons.mpr ⟨it_FT_128, List.forall_mem_cons.mpr ⟨it_FT_129, List.forall_mem_cons.mpr ⟨it_FT_130, List.forall_mem_cons.mpr ⟨it_FT_131, List.forall_mem_cons.mpr ⟨it_FT_132, List.forall_mem_cons.mpr ⟨it_FT_133, List.forall_mem_cons.mpr ⟨it_FT_134, List.forall_mem_cons.mpr ⟨it_FT_135, List.forall_mem_cons.mpr ⟨it_FT_136, List.forall_mem_cons.mpr ⟨it_FT_137, List.forall_mem_cons.mpr ⟨it_FT_138, List.forall_mem_cons.mpr ⟨it_FT_139, List.forall_mem_cons.mpr ⟨it_FT_140, List.forall_mem_cons.mpr ⟨it_FT_141, List.forall_mem_cons.mpr ⟨it_FT_142, List.forall_mem_cons.mpr ⟨it_FT_143, List.forall_mem_cons.mpr ⟨it_FT_144, List.forall_mem_cons.mpr ⟨it_FT_145, List.forall_mem_cons.mpr ⟨it_FT_146, List.forall_mem_cons.mpr ⟨it_FT_147, List.forall_mem_cons.mpr ⟨it_FT_148, List.forall_mem_cons.mpr ⟨it_FT_149, List.forall_mem_cons.mpr ⟨it_FT_150, List.forall_mem_cons.mpr ⟨it_FT_151, List.forall_mem_cons.mpr ⟨it_FT_152, List.forall_mem_cons.mpr ⟨it_FT_153, List.forall_mem_cons.mpr ⟨it_FT_154, List.forall_mem_cons.mpr ⟨it_FT_155, List.forall_mem_cons.mpr ⟨it_FT_156, List.forall_mem_cons.mpr ⟨it_FT_157, List.forall_mem_cons.mpr ⟨it_FT_158, List.forall_mem_cons.mpr ⟨it_FT_159, List.forall_mem_cons.mpr ⟨it_FT_160, List.forall_mem_cons.mpr ⟨it_FT_161, List.forall_mem_cons.mpr ⟨it_FT_162, List.forall_mem_cons.mpr ⟨it_FT_163, List.forall_mem_cons.mpr ⟨it_FT_164, List.forall_mem_cons.mpr ⟨it_FT_165, List.forall_mem_cons.mpr ⟨it_FT_166, List.forall_mem_cons.mpr ⟨it_FT_167, List.forall_mem_cons.mpr ⟨it_FT_168, List.forall_mem_cons.mpr ⟨it_FT_169, List.forall_mem_cons.mpr ⟨it_FT_170, List.forall_mem_cons.mpr ⟨it_FT_171, List.forall_mem_cons.mpr ⟨it_FT_172, List.forall_mem_cons.mpr ⟨it_FT_173, List.forall_mem_cons.mpr ⟨it_FT_174, List.forall_mem_cons.mpr ⟨it_FT_175, List.forall_mem_cons.mpr ⟨it_FT_176, List.forall_mem_cons.mpr ⟨it_FT_177, List.forall_mem_cons.mpr ⟨it_FT_178, List.forall_mem_cons.mpr ⟨it_FT_179, List.forall_mem_cons.mpr ⟨it_FT_180, List.forall_mem_cons.mpr ⟨it_FT_181, List.forall_mem_cons.mpr ⟨it_FT_182, List.forall_mem_cons.mpr ⟨it_FT_183, List.forall_mem_cons.mpr ⟨it_FT_184, List.forall_mem_cons.mpr ⟨it_FT_185, List.forall_mem_cons.mpr ⟨it_FT_186, List.forall_mem_cons.mpr ⟨it_FT_187, List.forall_mem_cons.mpr ⟨it_FT_188, List.forall_mem_cons.mpr ⟨it_FT_189, List.forall_mem_cons.mpr ⟨it_FT_190, List.forall_mem_cons.mpr ⟨it_FT_191, List.forall_mem_cons.mpr ⟨it_FT_192, List.forall_mem_cons.mpr ⟨it_FT_193, List.forall_mem_cons.mpr ⟨it_FT_194, List.forall_mem_cons.mpr ⟨it_FT_195, List.forall_mem_cons.mpr ⟨it_FT_196, List.forall_mem_cons.mpr ⟨it_FT_197, List.forall_mem_cons.mpr ⟨it_FT_198, List.forall_mem_cons.mpr ⟨it_FT_199, List.forall_mem_cons.mpr ⟨it_FT_200, List.forall_mem_cons.mpr ⟨it_FT_201, List.forall_mem_cons.mpr ⟨it_FT_202, List.forall_mem_cons.mpr ⟨it_FT_203, List.forall_mem_cons.mpr ⟨it_FT_204, List.forall_mem_cons.mpr ⟨it_FT_205, List.forall_mem_cons.mpr ⟨it_FT_206, List.forall_mem_cons.mpr ⟨it_FT_207, List.forall_mem_cons.mpr ⟨it_FT_208, List.forall_mem_cons.mpr ⟨it_FT_209, List.forall_mem_cons.mpr ⟨it_FT_210, List.forall_mem_cons.mpr ⟨it_FT_211, List.forall_mem_cons.mpr ⟨it_FT_212, List.forall_mem_cons.mpr ⟨it_FT_213, List.forall_mem_cons.mpr ⟨it_FT_214, List.forall_mem_cons.mpr ⟨it_FT_215, List.forall_mem_cons.mpr ⟨it_FT_216, List.forall_mem_cons.mpr ⟨it_FT_217, List.forall_mem_cons.mpr ⟨it_FT_218, List.forall_mem_cons.mpr ⟨it_FT_219, List.forall_mem_cons.mpr ⟨it_FT_220, List.forall_mem_cons.mpr ⟨it_FT_221, List.forall_mem_cons.mpr ⟨it_FT_222, List.forall_mem_cons.mpr ⟨it_FT_223, List.forall_mem_cons.mpr ⟨it_FT_224, List.forall_mem_cons.mpr ⟨it_FT_225, List.forall_mem_cons.mpr ⟨it_FT_226, List.forall_mem_cons.mpr ⟨it_FT_227, List.forall_mem_cons.mpr ⟨it_FT_228, List.forall_mem_cons.mpr ⟨it_FT_229, List.forall_mem_cons.mpr ⟨it_FT_230, List.forall_mem_cons.mpr ⟨it_FT_231, List.forall_mem_cons.mpr ⟨it_FT_232, List.forall_mem_cons.mpr ⟨it_FT_233, List.forall_mem_cons.mpr ⟨it_FT_234, List.forall_mem_cons.mpr ⟨it_FT_235, List.forall_mem_cons.mpr ⟨it_FT_236, List.forall_mem_cons.mpr ⟨it_FT_237, List.forall_mem_cons.mpr ⟨it_FT_238, List.forall_mem_cons.mpr ⟨it_FT_239, List.forall_mem_cons.mpr ⟨it_FT_240, List.forall_mem_cons.mpr ⟨it_FT_241, List.forall_mem_cons.mpr ⟨it_FT_242, List.forall_mem_cons.mpr ⟨it_FT_243, List.forall_mem_cons.mpr ⟨it_FT_244, List.forall_mem_cons.mpr ⟨it_FT_245, List.forall_mem_cons.mpr ⟨it_FT_246, List.forall_mem_cons.mpr ⟨it_FT_247, List.forall_mem_cons.mpr ⟨it_FT_248, List.forall_mem_cons.mpr ⟨it_FT_249, fun _ h => absurd h List.not_mem_nil⟩⟩⟩⟩⟩⟩⟩⟩⟩⟩⟩⟩⟩⟩⟩⟩⟩⟩⟩⟩⟩⟩⟩⟩⟩⟩⟩⟩⟩⟩⟩⟩⟩⟩⟩⟩⟩⟩⟩⟩⟩⟩⟩⟩⟩⟩⟩⟩⟩⟩⟩⟩⟩⟩⟩⟩⟩⟩⟩⟩⟩⟩⟩⟩⟩⟩⟩⟩⟩⟩⟩⟩⟩⟩⟩⟩⟩⟩⟩⟩⟩⟩⟩⟩⟩⟩⟩⟩⟩⟩⟩⟩⟩⟩⟩⟩⟩⟩⟩⟩⟩⟩⟩⟩⟩⟩⟩⟩⟩⟩⟩⟩⟩⟩⟩⟩⟩⟩⟩⟩⟩⟩⟩⟩⟩⟩⟩⟩⟩⟩⟩⟩⟩⟩⟩⟩⟩⟩⟩⟩⟩⟩⟩⟩⟩⟩⟩⟩⟩⟩⟩⟩⟩⟩⟩⟩⟩⟩⟩⟩⟩⟩⟩⟩⟩⟩⟩⟩⟩⟩⟩⟩⟩⟩⟩⟩⟩⟩⟩⟩⟩⟩⟩⟩⟩⟩⟩⟩⟩⟩⟩⟩⟩⟩⟩⟩⟩⟩⟩⟩⟩⟩⟩⟩⟩⟩⟩⟩⟩⟩⟩⟩⟩⟩⟩⟩⟩⟩⟩⟩⟩⟩⟩⟩⟩⟩⟩⟩⟩⟩⟩⟩⟩⟩⟩⟩⟩⟩⟩⟩⟩⟩⟩⟩⟩⟩⟩⟩⟩⟩
theorem it_ST_0 : it_swP (3, 28, 0, 0) := ⟨_, _, rfl, rfl, Or.inl (it_mem 3 9 rfl rfl)⟩
theorem it_ST_1 : it_swP (4, 157, 1, 1) := ⟨_, _, rfl, rfl, Or.inr (it_mem 4 66 rfl rfl)⟩
theorem it_ST_2 : it_swP (4, 220, 2, 1) := ⟨_, _, rfl, rfl, Or.inr (it_mem 2 220 rfl rfl)⟩
theorem it_ST_3 : it_swP (4, 223, 3, 1) := ⟨_, _, rfl, rfl, Or.inr (it_mem 2 222 rfl rfl)⟩
theorem it_ST_4 : it_swP (4, 226, 4, 1) := ⟨_, _, rfl, rfl, Or.inr (it_mem 2 224 rfl rfl)⟩
theorem it_ST_5 : it_swP (9, 118, 2, 1) := ⟨_, _, rfl, rfl, Or.inr (it_mem 4 57 rfl rfl)⟩
theorem it_ST_6 : it_swP (9, 139, 4, 1) := ⟨_, _, rfl, rfl, Or.inr (it_mem 4 114 rfl rfl)⟩
theorem it_ST_7 : it_swP (9, 142, 3, 1) := ⟨_, _, rfl, rfl, Or.inr (it_mem 4 115 rfl rfl)⟩
theorem it_ST_8 : it_swP (9, 174, 5, 1) := ⟨_, _, rfl, rfl, Or.inr (it_mem 4 92 rfl rfl)⟩
theorem it_ST_9 : it_swP (9, 193, 6, 1) := ⟨_, _, rfl, rfl, Or.inr (it_mem 4 108 rfl rfl)⟩
set_option maxRecDepth 100000 in
theorem it_ST_ok : ∀ e ∈ it_ST, it_swP e := List.forall_mem_cons.mpr ⟨it_ST_0, List.forall_mem_cons.mpr ⟨it_ST_1, List.forall_mem_cons.mpr ⟨it_ST_2, List.forall_mem_cons.mpr ⟨it_ST_3, List.forall_mem_cons.mpr ⟨it_ST_4, List.forall_mem_cons.mpr ⟨it_ST_5, List.forall_mem_cons.mpr ⟨it_ST_6, List.forall_mem_cons.mpr ⟨it_ST_7, List.forall_mem_cons.mpr ⟨it_ST_8, List.forall_mem_cons.mpr ⟨it_ST_9, fun _ h => absurd h List.not_mem_nil⟩⟩⟩⟩⟩⟩⟩⟩⟩⟩
theorem it_IT_0 : it_iwP (0, 15, 126976) := ⟨_, rfl, (it_mem 2 112 rfl rfl)⟩
theorem it_IT_1 : it_iwP (1, 9, 32768) := ⟨_, rfl, (it_mem 0 31 rfl rfl)⟩
theorem it_IT_2 : it_iwP (1, 25, 3988292384) := ⟨_, rfl, (it_mem 0 38 rfl rfl)⟩
theorem it_IT_3 : it_iwP (1, 26, 65536) := ⟨_, rfl, (it_mem 2 23 rfl rfl)⟩
theorem it_IT_4 : it_iwP (1, 27, 196608) := ⟨_, rfl, (it_mem 2 24 rfl rfl)⟩
theorem it_IT_5 : it_iwP (1, 28, 65535) := ⟨_, rfl, (it_mem 2 117 rfl rfl)⟩
theorem it_IT_6 : it_iwP (2, 196, 1664525) := ⟨_, rfl, (it_mem 4 210 rfl rfl)⟩
theorem it_IT_7 : it_iwP (2, 197, 1013904223) := ⟨_, rfl, (it_mem 4 211 rfl rfl)⟩
theorem it_IT_8 : it_iwP (2, 239, 100000) := ⟨_, rfl, (it_mem 5 15 rfl rfl)⟩
theorem it_IT_9 : it_iwP (4, 48, 65536) := ⟨_, rfl, (it_mem 2 106 rfl rfl)⟩
theorem it_IT_10 : it_iwP (4, 49, 131072) := ⟨_, rfl, (it_mem 2 107 rfl rfl)⟩
theorem it_IT_11 : it_iwP (4, 76, 196608) := ⟨_, rfl, (it_mem 2 174 rfl rfl)⟩
theorem it_IT_12 : it_iwP (5, 86, 1044480) := ⟨_, rfl, (it_mem 3 163 rfl rfl)⟩
theorem it_IT_13 : it_iwP (5, 152, 1048691) := ⟨_, rfl, (it_mem 4 1 rfl rfl)⟩
theorem it_IT_14 : it_iwP (8, 27, 126976) := ⟨_, rfl, (it_mem 2 37 rfl rfl)⟩
theorem it_IT_15 : it_iwP (8, 28, 129024) := ⟨_, rfl, (it_mem 2 38 rfl rfl)⟩
theorem it_IT_16 : it_iwP (8, 35, 4294901760) := ⟨_, rfl, (it_mem 2 43 rfl rfl)⟩
theorem it_IT_17 : it_iwP (8, 36, 1263927296) := ⟨_, rfl, (it_mem 2 44 rfl rfl)⟩
theorem it_IT_18 : it_iwP (8, 37, 65535) := ⟨_, rfl, (it_mem 2 45 rfl rfl)⟩
theorem it_IT_19 : it_iwP (8, 75, 1515870810) := ⟨_, rfl, (it_mem 2 73 rfl rfl)⟩
theorem it_IT_20 : it_iwP (10, 91, 65536) := ⟨_, rfl, (it_mem 2 17 rfl rfl)⟩
theorem it_IT_21 : it_iwP (10, 92, 131072) := ⟨_, rfl, (it_mem 2 18 rfl rfl)⟩
theorem it_IT_22 : it_iwP (10, 198, 196608) := ⟨_, rfl, (it_mem 5 95 rfl rfl)⟩
theorem it_IT_23 : it_iwP (10, 246, 2147483648) := ⟨_, rfl, (it_mem 2 169 rfl rfl)⟩
theorem it_IT_24 : it_iwP (11, 7, 196608) := ⟨_, rfl, (it_mem 5 192 rfl rfl)⟩
theorem it_IT_25 : it_iwP (11, 158, 65536) := ⟨_, rfl, (it_mem 5 193 rfl rfl)⟩
theorem it_IT_26 : it_iwP (11, 159, 131072) := ⟨_, rfl, (it_mem 5 194 rfl rfl)⟩
theorem it_IT_27 : it_iwP (11, 167, 3988292384) := ⟨_, rfl, (it_mem 7 68 rfl rfl)⟩
theorem it_IT_28 : it_iwP (11, 199, 126976) := ⟨_, rfl, (it_mem 6 217 rfl rfl)⟩
theorem it_IT_29 : it_iwP (11, 214, 1515870810) := ⟨_, rfl, (it_mem 6 238 rfl rfl)⟩
theorem it_IT_30 : it_iwP (11, 226, 65535) := ⟨_, rfl, (it_mem 7 28 rfl rfl)⟩
theorem it_IT_31 : it_iwP (11, 233, 1263927296) := ⟨_, rfl, (it_mem 7 19 rfl rfl)⟩
theorem it_IT_32 : it_iwP (11, 505, 1664525) := ⟨_, rfl, (it_mem 8 142 rfl rfl)⟩
theorem it_IT_33 : it_iwP (11, 506, 1013904223) := ⟨_, rfl, (it_mem 8 143 rfl rfl)⟩
theorem it_IT_34 : it_iwP (11, 511, 100000) := ⟨_, rfl, (it_mem 8 156 rfl rfl)⟩
theorem it_IT_35 : it_iwP (11, 599, 1048691) := ⟨_, rfl, (it_mem 8 189 rfl rfl)⟩
theorem it_IT_36 : it_iwP (11, 610, 2147483648) := ⟨_, rfl, (it_mem 8 44 rfl rfl)⟩
theorem it_IT_37 : it_iwP (12, 47, 1044480) := ⟨_, rfl, (it_mem 3 136 rfl rfl)⟩
theorem it_IT_38 : it_iwP (12, 51, 1048691) := ⟨_, rfl, (it_mem 3 152 rfl rfl)⟩
set_option maxRecDepth 100000 in
theorem it_IT_ok : ∀ e ∈ it_IT, it_iwP e := List.forall_mem_cons.mpr ⟨it_IT_0, List.forall_mem_cons.mpr ⟨it_IT_1, List.forall_mem_cons.mpr ⟨it_IT_2, List.forall_mem_cons.mpr ⟨it_IT_3, List.forall_mem_cons.mpr ⟨it_IT_4, List.forall_mem_cons.mpr ⟨it_IT_5, List.forall_mem_cons.mpr ⟨it_IT_6, List.forall_mem_cons.mpr ⟨it_IT_7, List.forall_mem_cons.mpr ⟨it_IT_8, List.forall_mem_cons.mpr ⟨it_IT_9, List.forall_mem_cons.mpr ⟨it_IT_10, List.forall_mem_cons.mpr ⟨it_IT_11, List.forall_mem_cons.mpr ⟨it_IT_12, List.forall_mem_cons.mpr ⟨it_IT_13, List.forall_mem_cons.mpr ⟨it_IT_14, List.forall_mem_cons.mpr ⟨it_IT_15, List.forall_mem_cons.mpr ⟨it_IT_16, List.forall_mem_cons.mpr ⟨it_IT_17, List.forall_mem_cons.mpr ⟨it_IT_18, List.forall_mem_cons.mpr ⟨it_IT_19, List.forall_mem_cons.mpr ⟨it_IT_20, List.forall_mem_cons.mpr ⟨it_IT_21, List.forall_mem_cons.mpr ⟨it_IT_22, List.forall_mem_cons.mpr ⟨it_IT_23, List.forall_mem_cons.mpr ⟨it_IT_24, List.forall_mem_cons.mpr ⟨it_IT_25, List.forall_mem_cons.mpr ⟨it_IT_26, List.forall_mem_cons.mpr ⟨it_IT_27, List.forall_mem_cons.mpr ⟨it_IT_28, List.forall_mem_cons.mpr ⟨it_IT_29, List.forall_mem_cons.mpr ⟨it_IT_30, List.forall_mem_cons.mpr ⟨it_IT_31, List.forall_mem_cons.mpr ⟨it_IT_32, List.forall_mem_cons.mpr ⟨it_IT_33, List.forall_mem_cons.mpr ⟨it_IT_34, List.forall_mem_cons.mpr ⟨it_IT_35, List.forall_mem_cons.mpr ⟨it_IT_36, List.forall_mem_cons.mpr ⟨it_IT_37, List.forall_mem_cons.mpr ⟨it_IT_38, fun _ h => absurd h List.not_mem_nil⟩⟩⟩⟩⟩⟩⟩⟩⟩⟩⟩⟩⟩⟩⟩⟩⟩⟩⟩⟩⟩⟩⟩⟩⟩⟩⟩⟩⟩⟩⟩⟩⟩⟩⟩⟩⟩⟩⟩
theorem it_LT_0 : it_lwP (5, 133, 4294967295) := ⟨_, rfl, (it_mem 3 219 rfl rfl)⟩
theorem it_LT_1 : it_lwP (7, 89, 4294967295) := ⟨_, rfl, (it_mem 3 79 rfl rfl)⟩
theorem it_LT_2 : it_lwP (7, 91, 64) := ⟨_, rfl, (it_mem 3 80 rfl rfl)⟩
theorem it_LT_3 : it_lwP (9, 196, 4294967295) := ⟨_, rfl, (it_mem 4 132 rfl rfl)⟩
theorem it_LT_4 : it_lwP (9, 217, 3) := ⟨_, rfl, (it_mem 4 137 rfl rfl)⟩
theorem it_LT_5 : it_lwP (9, 219, 18446744073709551612) := ⟨_, rfl, (it_mem 4 138 rfl rfl)⟩
theorem it_LT_6 : it_lwP (11, 206, 4294967295) := ⟨_, rfl, (it_mem 6 234 rfl rfl)⟩
theorem it_LT_7 : it_lwP (11, 208, 32) := ⟨_, rfl, (it_mem 6 235 rfl rfl)⟩
theorem it_LT_8 : it_lwP (11, 210, 255) := ⟨_, rfl, (it_mem 6 236 rfl rfl)⟩
theorem it_LT_9 : it_lwP (11, 212, 3) := ⟨_, rfl, (it_mem 6 237 rfl rfl)⟩
theorem it_LT_10 : it_lwP (11, 250, 4) := ⟨_, rfl, (it_mem 7 53 rfl rfl)⟩
theorem it_LT_11 : it_lwP (11, 252, 126976) := ⟨_, rfl, (it_mem 7 54 rfl rfl)⟩
theorem it_LT_12 : it_lwP (11, 296, 15872) := ⟨_, rfl, (it_mem 7 59 rfl rfl)⟩
theorem it_LT_13 : it_lwP (11, 358, 200) := ⟨_, rfl, (it_mem 7 147 rfl rfl)⟩
theorem it_LT_14 : it_lwP (11, 525, 4000) := ⟨_, rfl, (it_mem 7 163 rfl rfl)⟩
theorem it_LT_15 : it_lwP (11, 536, 64) := ⟨_, rfl, (it_mem 7 108 rfl rfl)⟩
set_option maxRecDepth 100000 in
theorem it_LT_ok : ∀ e ∈ it_LT, it_lwP e := List.forall_mem_cons.mpr ⟨it_LT_0, List.forall_mem_cons.mpr ⟨it_LT_1, List.forall_mem_cons.mpr ⟨it_LT_2, List.forall_mem_cons.mpr ⟨it_LT_3, List.forall_mem_cons.mpr ⟨it_LT_4, List.forall_mem_cons.mpr ⟨it_LT_5, List.forall_mem_cons.mpr ⟨it_LT_6, List.forall_mem_cons.mpr ⟨it_LT_7, List.forall_mem_cons.mpr ⟨it_LT_8, List.forall_mem_cons.mpr ⟨it_LT_9, List.forall_mem_cons.mpr ⟨it_LT_10, List.forall_mem_cons.mpr ⟨it_LT_11, List.forall_mem_cons.mpr ⟨it_LT_12, List.forall_mem_cons.mpr ⟨it_LT_13, List.forall_mem_cons.mpr ⟨it_LT_14, List.forall_mem_cons.mpr ⟨it_LT_15, fun _ h => absurd h List.not_mem_nil⟩⟩⟩⟩⟩⟩⟩⟩⟩⟩⟩⟩⟩⟩⟩⟩
theorem it_CT_0 : it_cwP (4, 11, 6) := ⟨_, _, rfl, rfl, (it_mem 0 115 rfl rfl), (it_mem 0 183 rfl rfl), (it_mem 0 8 rfl rfl)⟩
theorem it_CT_1 : it_cwP (4, 32, 0) := ⟨_, _, rfl, rfl, (it_mem 0 117 rfl rfl), (it_mem 0 118 rfl rfl), (it_mem 0 7 rfl rfl)⟩
theorem it_CT_2 : it_cwP (10, 7, 1) := ⟨_, _, rfl, rfl, (it_mem 0 25 rfl rfl), (it_mem 0 26 rfl rfl), (it_mem 0 2 rfl rfl)⟩
theorem it_CT_3 : it_cwP (10, 16, 3) := ⟨_, _, rfl, rfl, (it_mem 0 47 rfl rfl), (it_mem 0 48 rfl rfl), (it_mem 0 4 rfl rfl)⟩
theorem it_CT_4 : it_cwP (10, 23, 8) := ⟨_, _, rfl, rfl, (it_mem 0 75 rfl rfl), (it_mem 0 76 rfl rfl), (it_mem 0 5 rfl rfl)⟩
theorem it_CT_5 : it_cwP (10, 32, 4) := ⟨_, _, rfl, rfl, (it_mem 0 109 rfl rfl), (it_mem 0 110 rfl rfl), (it_mem 0 6 rfl rfl)⟩
theorem it_CT_6 : it_cwP (10, 39, 7) := ⟨_, _, rfl, rfl, (it_mem 1 85 rfl rfl), (it_mem 1 86 rfl rfl), (it_mem 0 9 rfl rfl)⟩
theorem it_CT_7 : it_cwP (10, 48, 5) := ⟨_, _, rfl, rfl, (it_mem 1 124 rfl rfl), (it_mem 1 125 rfl rfl), (it_mem 0 10 rfl rfl)⟩
theorem it_CT_8 : it_cwP (10, 57, 2) := ⟨_, _, rfl, rfl, (it_mem 1 142 rfl rfl), (it_mem 1 143 rfl rfl), (it_mem 0 11 rfl rfl)⟩
theorem it_CT_9 : it_cwP (10, 66, 9) := ⟨_, _, rfl, rfl, (it_mem 1 191 rfl rfl), (it_mem 1 192 rfl rfl), (it_mem 0 12 rfl rfl)⟩
theorem it_CT_10 : it_cwP (15, 7, 10) := ⟨_, _, rfl, rfl, (it_mem 0 17 rfl rfl), (it_mem 0 18 rfl rfl), (it_mem 0 1 rfl rfl)⟩
theorem it_CT_11 : it_cwP (15, 10, 11) := ⟨_, _, rfl, rfl, (it_mem 5 186 rfl rfl), (it_mem 5 187 rfl rfl), (it_mem 0 13 rfl rfl)⟩
set_option maxRecDepth 100000 in
theorem it_CT_ok : ∀ e ∈ it_CT, it_cwP e := List.forall_mem_cons.mpr ⟨it_CT_0, List.forall_mem_cons.mpr ⟨it_CT_1, List.forall_mem_cons.mpr ⟨it_CT_2, List.forall_mem_cons.mpr ⟨it_CT_3, List.forall_mem_cons.mpr ⟨it_CT_4, List.forall_mem_cons.mpr ⟨it_CT_5, List.forall_mem_cons.mpr ⟨it_CT_6, List.forall_mem_cons.mpr ⟨it_CT_7, List.forall_mem_cons.mpr ⟨it_CT_8, List.forall_mem_cons.mpr ⟨it_CT_9, List.forall_mem_cons.mpr ⟨it_CT_10, List.forall_mem_cons.mpr ⟨it_CT_11, fun _ h => absurd h List.not_mem_nil⟩⟩⟩⟩⟩⟩⟩⟩⟩⟩⟩⟩
theorem it_MT_0 : it_mwP (0, 5, 9998, 0) := ⟨_, _, rfl, rfl, Or.inl (it_mem 0 122 rfl rfl), fun _ => (it_mem 0 122 rfl rfl)⟩
theorem it_MT_1 : it_mwP (0, 20, 14, 0) := ⟨_, _, rfl, rfl, Or.inl (it_mem 2 113 rfl rfl), fun h => absurd h (by decide)⟩
theorem it_MT_2 : it_mwP (0, 29, 12, 0) := ⟨_, _, rfl, rfl, Or.inl (it_mem 2 118 rfl rfl), fun h => absurd h (by decide)⟩
theorem it_MT_3 : it_mwP (0, 35, 3, 0) := ⟨_, _, rfl, rfl, Or.inl (it_mem 2 123 rfl rfl), fun h => absurd h (by decide)⟩
theorem it_MT_4 : it_mwP (0, 66, 216, 1) := ⟨_, _, rfl, rfl, Or.inr (it_mem 2 127 rfl rfl), fun h => absurd h (by decide)⟩
theorem it_MT_5 : it_mwP (0, 69, 4, 0) := ⟨_, _, rfl, rfl, Or.inl (it_mem 2 130 rfl rfl), fun h => absurd h (by decide)⟩
theorem it_MT_6 : it_mwP (0, 79, 21, 0) := ⟨_, _, rfl, rfl, Or.inl (it_mem 2 142 rfl rfl), fun h => absurd h (by decide)⟩
theorem it_MT_7 : it_mwP (0, 83, 5, 0) := ⟨_, _, rfl, rfl, Or.inl (it_mem 2 138 rfl rfl), fun h => absurd h (by decide)⟩
theorem it_MT_8 : it_mwP (0, 86, 20, 0) := ⟨_, _, rfl, rfl, Or.inl (it_mem 2 158 rfl rfl), fun h => absurd h (by decide)⟩
theorem it_MT_9 : it_mwP (0, 90, 213, 1) := ⟨_, _, rfl, rfl, Or.inr (it_mem 2 166 rfl rfl), fun h => absurd h (by decide)⟩
theorem it_MT_10 : it_mwP (1, 3, 9998, 0) := ⟨_, _, rfl, rfl, Or.inl (it_mem 0 30 rfl rfl), fun _ => (it_mem 0 30 rfl rfl)⟩
theorem it_MT_11 : it_mwP (1, 19, 362, 0) := ⟨_, _, rfl, rfl, Or.inl (it_mem 0 32 rfl rfl), fun h => absurd h (by decide)⟩
theorem it_MT_12 : it_mwP (1, 29, 16, 0) := ⟨_, _, rfl, rfl, Or.inl (it_mem 2 146 rfl rfl), fun h => absurd h (by decide)⟩
theorem it_MT_13 : it_mwP (1, 33, 17, 0) := ⟨_, _, rfl, rfl, Or.inl (it_mem 4 229 rfl rfl), fun h => absurd h (by decide)⟩
theorem it_MT_14 : it_mwP (2, 3, 9998, 0) := ⟨_, _, rfl, rfl, Or.inl (it_mem 1 147 rfl rfl), fun _ => (it_mem 1 147 rfl rfl)⟩
theorem it_MT_15 : it_mwP (2, 58, 42, 0) := ⟨_, _, rfl, rfl, Or.inl (it_mem 4 166 rfl rfl), fun h => absurd h (by decide)⟩
theorem it_MT_16 : it_mwP (2, 62, 45, 0) := ⟨_, _, rfl, rfl, Or.inl (it_mem 4 181 rfl rfl), fun h => absurd h (by decide)⟩
theorem it_MT_17 : it_mwP (2, 66, 52, 0) := ⟨_, _, rfl, rfl, Or.inl (it_mem 4 198 rfl rfl), fun h => absurd h (by decide)⟩
theorem it_MT_18 : it_mwP (2, 69, 53, 0) := ⟨_, _, rfl, rfl, Or.inl (it_mem 4 202 rfl rfl), fun h => absurd h (by decide)⟩
theorem it_MT_19 : it_mwP (2, 72, 55, 0) := ⟨_, _, rfl, rfl, Or.inl (it_mem 4 206 rfl rfl), fun h => absurd h (by decide)⟩
theorem it_MT_20 : it_mwP (2, 76, 56, 0) := ⟨_, _, rfl, rfl, Or.inl (it_mem 4 213 rfl rfl), fun h => absurd h (by decide)⟩
theorem it_MT_21 : it_mwP (2, 79, 63, 0) := ⟨_, _, rfl, rfl, Or.inl (it_mem 5 11 rfl rfl), fun h => absurd h (by decide)⟩
theorem it_MT_22 : it_mwP (2, 82, 64, 0) := ⟨_, _, rfl, rfl, Or.inl (it_mem 5 16 rfl rfl), fun h => absurd h (by decide)⟩
theorem it_MT_23 : it_mwP (2, 85, 67, 0) := ⟨_, _, rfl, rfl, Or.inl (it_mem 5 31 rfl rfl), fun h => absurd h (by decide)⟩
theorem it_MT_24 : it_mwP (2, 91, 40, 0) := ⟨_, _, rfl, rfl, Or.inl (it_mem 2 212 rfl rfl), fun h => absurd h (by decide)⟩
theorem it_MT_25 : it_mwP (2, 99, 48, 0) := ⟨_, _, rfl, rfl, Or.inl (it_mem 3 26 rfl rfl), fun h => absurd h (by decide)⟩
theorem it_MT_26 : it_mwP (2, 102, 61, 0) := ⟨_, _, rfl, rfl, Or.inl (it_mem 3 43 rfl rfl), fun h => absurd h (by decide)⟩
theorem it_MT_27 : it_mwP (2, 115, 90, 0) := ⟨_, _, rfl, rfl, Or.inl (it_mem 2 216 rfl rfl), fun h => absurd h (by decide)⟩
theorem it_MT_28 : it_mwP (2, 119, 41, 0) := ⟨_, _, rfl, rfl, Or.inl (it_mem 2 226 rfl rfl), fun h => absurd h (by decide)⟩
theorem it_MT_29 : it_mwP (2, 122, 12, 0) := ⟨_, _, rfl, rfl, Or.inl (it_mem 2 230 rfl rfl), fun h => absurd h (by decide)⟩
theorem it_MT_30 : it_mwP (2, 128, 213, 1) := ⟨_, _, rfl, rfl, Or.inr (it_mem 2 231 rfl rfl), fun h => absurd h (by decide)⟩
theorem it_MT_31 : it_mwP (2, 132, 13, 0) := ⟨_, _, rfl, rfl, Or.inl (it_mem 2 232 rfl rfl), fun h => absurd h (by decide)⟩
theorem it_MT_32 : it_mwP (2, 136, 80, 0) := ⟨_, _, rfl, rfl, Or.inl (it_mem 2 233 rfl rfl), fun h => absurd h (by decide)⟩
theorem it_MT_33 : it_mwP (2, 140, 139, 0) := ⟨_, _, rfl, rfl, Or.inl (it_mem 4 170 rfl rfl), fun h => absurd h (by decide)⟩
theorem it_MT_34 : it_mwP (2, 144, 44, 0) := ⟨_, _, rfl, rfl, Or.inl (it_mem 4 171 rfl rfl), fun h => absurd h (by decide)⟩
theorem it_MT_35 : it_mwP (2, 147, 43, 0) := ⟨_, _, rfl, rfl, Or.inl (it_mem 4 177 rfl rfl), fun h => absurd h (by decide)⟩
theorem it_MT_36 : it_mwP (2, 150, 136, 0) := ⟨_, _, rfl, rfl, Or.inl (it_mem 4 175 rfl rfl), fun h => absurd h (by decide)⟩
theorem it_MT_37 : it_mwP (2, 153, 138, 0) := ⟨_, _, rfl, rfl, Or.inl (it_mem 4 176 rfl rfl), fun h => absurd h (by decide)⟩
theorem it_MT_38 : it_mwP (2, 156, 88, 0) := ⟨_, _, rfl, rfl, Or.inl (it_mem 3 34 rfl rfl), fun h => absurd h (by decide)⟩
theorem it_MT_39 : it_mwP (2, 160, 214, 1) := ⟨_, _, rfl, rfl, Or.inr (it_mem 4 185 rfl rfl), fun h => absurd h (by decide)⟩
theorem it_MT_40 : it_mwP (2, 164, 46, 0) := ⟨_, _, rfl, rfl, Or.inl (it_mem 4 189 rfl rfl), fun h => absurd h (by decide)⟩
theorem it_MT_41 : it_mwP (2, 168, 89, 0) := ⟨_, _, rfl, rfl, Or.inl (it_mem 4 193 rfl rfl), fun h => absurd h (by decide)⟩
theorem it_MT_42 : it_mwP (2, 171, 51, 0) := ⟨_, _, rfl, rfl, Or.inl (it_mem 4 194 rfl rfl), fun h => absurd h (by decide)⟩
theorem it_MT_43 : it_mwP (2, 177, 47, 0) := ⟨_, _, rfl, rfl, Or.inl (it_mem 3 30 rfl rfl), fun h => absurd h (by decide)⟩
theorem it_MT_44 : it_mwP (2, 181, 16, 0) := ⟨_, _, rfl, rfl, Or.inl (it_mem 3 38 rfl rfl), fun h => absurd h (by decide)⟩
theorem it_MT_45 : it_mwP (2, 184, 49, 0) := ⟨_, _, rfl, rfl, Or.inl (it_mem 3 39 rfl rfl), fun h => absurd h (by decide)⟩
theorem it_MT_46 : it_mwP (2, 190, 17, 0) := ⟨_, _, rfl, rfl, Or.inl (it_mem 4 212 rfl rfl), fun h => absurd h (by decide)⟩
theorem it_MT_47 : it_mwP (2, 207, 57, 0) := ⟨_, _, rfl, rfl, Or.inl (it_mem 4 217 rfl rfl), fun h => absurd h (by decide)⟩
theorem it_MT_48 : it_mwP (2, 210, 58, 0) := ⟨_, _, rfl, rfl, Or.inl (it_mem 4 230 rfl rfl), fun h => absurd h (by decide)⟩
theorem it_MT_49 : it_mwP (2, 213, 59, 0) := ⟨_, _, rfl, rfl, Or.inl (it_mem 5 7 rfl rfl), fun h => absurd h (by decide)⟩
theorem it_MT_50 : it_mwP (2, 216, 159, 0) := ⟨_, _, rfl, rfl, Or.inl (it_mem 4 221 rfl rfl), fun h => absurd h (by decide)⟩
theorem it_MT_51 : it_mwP (2, 221, 19, 0) := ⟨_, _, rfl, rfl, Or.inl (it_mem 4 225 rfl rfl), fun h => absurd h (by decide)⟩
theorem it_MT_52 : it_mwP (2, 225, 160, 0) := ⟨_, _, rfl, rfl, Or.inl (it_mem 4 234 rfl rfl), fun h => absurd h (by decide)⟩
theorem it_MT_53 : it_mwP (2, 229, 60, 0) := ⟨_, _, rfl, rfl, Or.inl (it_mem 5 3 rfl rfl), fun h => absurd h (by decide)⟩
theorem it_MT_54 : it_mwP (2, 236, 62, 0) := ⟨_, _, rfl, rfl, Or.inl (it_mem 3 47 rfl rfl), fun h => absurd h (by decide)⟩
theorem it_MT_55 : it_mwP (2, 240, 65, 0) := ⟨_, _, rfl, rfl, Or.inl (it_mem 5 20 rfl rfl), fun h => absurd h (by decide)⟩
theorem it_MT_56 : it_mwP (2, 243, 66, 0) := ⟨_, _, rfl, rfl, Or.inl (it_mem 5 26 rfl rfl), fun h => absurd h (by decide)⟩
theorem it_MT_57 : it_mwP (2, 246, 72, 0) := ⟨_, _, rfl, rfl, Or.inl (it_mem 5 24 rfl rfl), fun h => absurd h (by decide)⟩
theorem it_MT_58 : it_mwP (2, 249, 131, 0) := ⟨_, _, rfl, rfl, Or.inl (it_mem 5 25 rfl rfl), fun h => absurd h (by decide)⟩
theorem it_MT_59 : it_mwP (2, 253, 7, 0) := ⟨_, _, rfl, rfl, Or.inl (it_mem 5 30 rfl rfl), fun h => absurd h (by decide)⟩
theorem it_MT_60 : it_mwP (2, 256, 21, 0) := ⟨_, _, rfl, rfl, Or.inl (it_mem 5 35 rfl rfl), fun h => absurd h (by decide)⟩
theorem it_MT_61 : it_mwP (3, 3, 9998, 0) := ⟨_, _, rfl, rfl, Or.inl (it_mem 0 52 rfl rfl), fun _ => (it_mem 0 52 rfl rfl)⟩
theorem it_MT_62 : it_mwP (4, 3, 9998, 0) := ⟨_, _, rfl, rfl, Or.inl (it_mem 0 114 rfl rfl), fun _ => (it_mem 0 114 rfl rfl)⟩
theorem it_MT_63 : it_mwP (4, 34, 0, 0) := ⟨_, _, rfl, rfl, Or.inl (it_mem 0 119 rfl rfl), fun h => absurd h (by decide)⟩
theorem it_MT_64 : it_mwP (4, 41, 126, 0) := ⟨_, _, rfl, rfl, Or.inl (it_mem 0 184 rfl rfl), fun h => absurd h (by decide)⟩
theorem it_MT_65 : it_mwP (4, 53, 1, 0) := ⟨_, _, rfl, rfl, Or.inl (it_mem 2 108 rfl rfl), fun h => absurd h (by decide)⟩
theorem it_MT_66 : it_mwP (4, 60, 2, 0) := ⟨_, _, rfl, rfl, Or.inl (it_mem 2 119 rfl rfl), fun h => absurd h (by decide)⟩
theorem it_MT_67 : it_mwP (4, 64, 6, 0) := ⟨_, _, rfl, rfl, Or.inl (it_mem 2 134 rfl rfl), fun h => absurd h (by decide)⟩
theorem it_MT_68 : it_mwP (4, 68, 74, 0) := ⟨_, _, rfl, rfl, Or.inl (it_mem 2 150 rfl rfl), fun h => absurd h (by decide)⟩
theorem it_MT_69 : it_mwP (4, 72, 10, 0) := ⟨_, _, rfl, rfl, Or.inl (it_mem 2 170 rfl rfl), fun h => absurd h (by decide)⟩
theorem it_MT_70 : it_mwP (4, 77, 127, 0) := ⟨_, _, rfl, rfl, Or.inl (it_mem 2 175 rfl rfl), fun h => absurd h (by decide)⟩
theorem it_MT_71 : it_mwP (4, 81, 75, 0) := ⟨_, _, rfl, rfl, Or.inl (it_mem 2 179 rfl rfl), fun h => absurd h (by decide)⟩
theorem it_MT_72 : it_mwP (4, 91, 7, 0) := ⟨_, _, rfl, rfl, Or.inl (it_mem 2 154 rfl rfl), fun h => absurd h (by decide)⟩
theorem it_MT_73 : it_mwP (4, 95, 8, 0) := ⟨_, _, rfl, rfl, Or.inl (it_mem 2 162 rfl rfl), fun h => absurd h (by decide)⟩
theorem it_MT_74 : it_mwP (4, 105, 18, 0) := ⟨_, _, rfl, rfl, Or.inl (it_mem 2 183 rfl rfl), fun h => absurd h (by decide)⟩
theorem it_MT_75 : it_mwP (4, 111, 128, 0) := ⟨_, _, rfl, rfl, Or.inl (it_mem 2 184 rfl rfl), fun h => absurd h (by decide)⟩
theorem it_MT_76 : it_mwP (4, 122, 69, 0) := ⟨_, _, rfl, rfl, Or.inl (it_mem 3 5 rfl rfl), fun h => absurd h (by decide)⟩
theorem it_MT_77 : it_mwP (4, 125, 129, 0) := ⟨_, _, rfl, rfl, Or.inl (it_mem 3 24 rfl rfl), fun h => absurd h (by decide)⟩
theorem it_MT_78 : it_mwP (4, 128, 13, 0) := ⟨_, _, rfl, rfl, Or.inl (it_mem 3 25 rfl rfl), fun h => absurd h (by decide)⟩
theorem it_MT_79 : it_mwP (4, 137, 76, 0) := ⟨_, _, rfl, rfl, Or.inl (it_mem 5 40 rfl rfl), fun h => absurd h (by decide)⟩
theorem it_MT_80 : it_mwP (4, 140, 79, 0) := ⟨_, _, rfl, rfl, Or.inl (it_mem 4 153 rfl rfl), fun h => absurd h (by decide)⟩
theorem it_MT_81 : it_mwP (4, 153, 90, 0) := ⟨_, _, rfl, rfl, Or.inl (it_mem 4 157 rfl rfl), fun h => absurd h (by decide)⟩
theorem it_MT_82 : it_mwP (4, 160, 131, 0) := ⟨_, _, rfl, rfl, Or.inl (it_mem 2 237 rfl rfl), fun h => absurd h (by decide)⟩
theorem it_MT_83 : it_mwP (4, 169, 83, 0) := ⟨_, _, rfl, rfl, Or.inl (it_mem 3 1 rfl rfl), fun h => absurd h (by decide)⟩
theorem it_MT_84 : it_mwP (4, 173, 87, 0) := ⟨_, _, rfl, rfl, Or.inl (it_mem 3 11 rfl rfl), fun h => absurd h (by decide)⟩
theorem it_MT_85 : it_mwP (4, 177, 12, 0) := ⟨_, _, rfl, rfl, Or.inl (it_mem 3 15 rfl rfl), fun h => absurd h (by decide)⟩
theorem it_MT_86 : it_mwP (4, 181, 84, 0) := ⟨_, _, rfl, rfl, Or.inl (it_mem 3 16 rfl rfl), fun h => absurd h (by decide)⟩
theorem it_MT_87 : it_mwP (4, 185, 141, 0) := ⟨_, _, rfl, rfl, Or.inl (it_mem 3 20 rfl rfl), fun h => absurd h (by decide)⟩
theorem it_MT_88 : it_mwP (4, 192, 143, 0) := ⟨_, _, rfl, rfl, Or.inl (it_mem 4 25 rfl rfl), fun h => absurd h (by decide)⟩
theorem it_MT_89 : it_mwP (4, 196, 81, 0) := ⟨_, _, rfl, rfl, Or.inl (it_mem 4 21 rfl rfl), fun h => absurd h (by decide)⟩
theorem it_MT_90 : it_mwP (4, 208, 86, 0) := ⟨_, _, rfl, rfl, Or.inl (it_mem 4 63 rfl rfl), fun h => absurd h (by decide)⟩
theorem it_MT_91 : it_mwP (4, 229, 88, 0) := ⟨_, _, rfl, rfl, Or.inl (it_mem 4 143 rfl rfl), fun h => absurd h (by decide)⟩
theorem it_MT_92 : it_mwP (4, 232, 9996, 0) := ⟨_, _, rfl, rfl, Or.inl (it_mem 4 144 rfl rfl), fun _ => (it_mem 4 144 rfl rfl)⟩
theorem it_MT_93 : it_mwP (4, 241, 134, 0) := ⟨_, _, rfl, rfl, Or.inl (it_mem 5 100 rfl rfl), fun h => absurd h (by decide)⟩
theorem it_MT_94 : it_mwP (4, 244, 99, 0) := ⟨_, _, rfl, rfl, Or.inl (it_mem 5 164 rfl rfl), fun h => absurd h (by decide)⟩
theorem it_MT_95 : it_mwP (4, 248, 100, 0) := ⟨_, _, rfl, rfl, Or.inl (it_mem 5 168 rfl rfl), fun h => absurd h (by decide)⟩
theorem it_MT_96 : it_mwP (4, 251, 101, 0) := ⟨_, _, rfl, rfl, Or.inl (it_mem 5 172 rfl rfl), fun h => absurd h (by decide)⟩
theorem it_MT_97 : it_mwP (4, 254, 97, 0) := ⟨_, _, rfl, rfl, Or.inl (it_mem 5 177 rfl rfl), fun h => absurd h (by decide)⟩
theorem it_MT_98 : it_mwP (4, 257, 361, 0) := ⟨_, _, rfl, rfl, Or.inl (it_mem 5 110 rfl rfl), fun h => absurd h (by decide)⟩
theorem it_MT_99 : it_mwP (4, 265, 95, 0) := ⟨_, _, rfl, rfl, Or.inl (it_mem 5 111 rfl rfl), fun h => absurd h (by decide)⟩
theorem it_MT_100 : it_mwP (4, 268, 96, 0) := ⟨_, _, rfl, rfl, Or.inl (it_mem 5 115 rfl rfl), fun h => absurd h (by decide)⟩
theorem it_MT_101 : it_mwP (4, 271, 94, 0) := ⟨_, _, rfl, rfl, Or.inl (it_mem 5 181 rfl rfl), fun h => absurd h (by decide)⟩
theorem it_MT_102 : it_mwP (4, 274, 98, 0) := ⟨_, _, rfl, rfl, Or.inl (it_mem 5 182 rfl rfl), fun h => absurd h (by decide)⟩
theorem it_MT_103 : it_mwP (4, 278, 215, 1) := ⟨_, _, rfl, rfl, Or.inr (it_mem 4 120 rfl rfl), fun h => absurd h (by decide)⟩
theorem it_MT_104 : it_mwP (4, 282, 102, 0) := ⟨_, _, rfl, rfl, Or.inl (it_mem 5 176 rfl rfl), fun h => absurd h (by decide)⟩
theorem it_MT_105 : it_mwP (5, 1, 9998, 0) := ⟨_, _, rfl, rfl, Or.inl (it_mem 1 129 rfl rfl), fun _ => (it_mem 1 129 rfl rfl)⟩
theorem it_MT_106 : it_mwP (5, 19, 133, 0) := ⟨_, _, rfl, rfl, Or.inl (it_mem 3 103 rfl rfl), fun h => absurd h (by decide)⟩
theorem it_MT_107 : it_mwP (5, 23, 105, 0) := ⟨_, _, rfl, rfl, Or.inl (it_mem 3 107 rfl rfl), fun h => absurd h (by decide)⟩
theorem it_MT_108 : it_mwP (5, 27, 14, 0) := ⟨_, _, rfl, rfl, Or.inl (it_mem 3 111 rfl rfl), fun h => absurd h (by decide)⟩
theorem it_MT_109 : it_mwP (5, 33, 22, 0) := ⟨_, _, rfl, rfl, Or.inl (it_mem 3 112 rfl rfl), fun h => absurd h (by decide)⟩
theorem it_MT_110 : it_mwP (5, 38, 106, 0) := ⟨_, _, rfl, rfl, Or.inl (it_mem 3 153 rfl rfl), fun h => absurd h (by decide)⟩
theorem it_MT_111 : it_mwP (5, 48, 107, 0) := ⟨_, _, rfl, rfl, Or.inl (it_mem 3 157 rfl rfl), fun h => absurd h (by decide)⟩
theorem it_MT_112 : it_mwP (5, 52, 111, 0) := ⟨_, _, rfl, rfl, Or.inl (it_mem 3 160 rfl rfl), fun h => absurd h (by decide)⟩
theorem it_MT_113 : it_mwP (5, 55, 113, 0) := ⟨_, _, rfl, rfl, Or.inl (it_mem 3 164 rfl rfl), fun h => absurd h (by decide)⟩
theorem it_MT_114 : it_mwP (5, 58, 114, 0) := ⟨_, _, rfl, rfl, Or.inl (it_mem 3 174 rfl rfl), fun h => absurd h (by decide)⟩
theorem it_MT_115 : it_mwP (5, 61, 115, 0) := ⟨_, _, rfl, rfl, Or.inl (it_mem 3 185 rfl rfl), fun h => absurd h (by decide)⟩
theorem it_MT_116 : it_mwP (5, 64, 116, 0) := ⟨_, _, rfl, rfl, Or.inl (it_mem 3 195 rfl rfl), fun h => absurd h (by decide)⟩
theorem it_MT_117 : it_mwP (5, 67, 117, 0) := ⟨_, _, rfl, rfl, Or.inl (it_mem 3 205 rfl rfl), fun h => absurd h (by decide)⟩
theorem it_MT_118 : it_mwP (5, 70, 118, 0) := ⟨_, _, rfl, rfl, Or.inl (it_mem 3 212 rfl rfl), fun h => absurd h (by decide)⟩
theorem it_MT_119 : it_mwP (5, 73, 121, 0) := ⟨_, _, rfl, rfl, Or.inl (it_mem 3 220 rfl rfl), fun h => absurd h (by decide)⟩
theorem it_MT_120 : it_mwP (5, 76, 124, 0) := ⟨_, _, rfl, rfl, Or.inl (it_mem 3 233 rfl rfl), fun h => absurd h (by decide)⟩
theorem it_MT_121 : it_mwP (5, 79, 125, 0) := ⟨_, _, rfl, rfl, Or.inl (it_mem 3 237 rfl rfl), fun h => absurd h (by decide)⟩
theorem it_MT_122 : it_mwP (5, 87, 108, 0) := ⟨_, _, rfl, rfl, Or.inl (it_mem 3 168 rfl rfl), fun h => absurd h (by decide)⟩
theorem it_MT_123 : it_mwP (5, 90, 109, 0) := ⟨_, _, rfl, rfl, Or.inl (it_mem 3 171 rfl rfl), fun h => absurd h (by decide)⟩
theorem it_MT_124 : it_mwP (5, 94, 110, 0) := ⟨_, _, rfl, rfl, Or.inl (it_mem 3 178 rfl rfl), fun h => absurd h (by decide)⟩
theorem it_MT_125 : it_mwP (5, 97, 213, 1) := ⟨_, _, rfl, rfl, Or.inr (it_mem 3 181 rfl rfl), fun h => absurd h (by decide)⟩
theorem it_MT_126 : it_mwP (5, 103, 112, 0) := ⟨_, _, rfl, rfl, Or.inl (it_mem 3 182 rfl rfl), fun h => absurd h (by decide)⟩
theorem it_MT_127 : it_mwP (5, 106, 132, 0) := ⟨_, _, rfl, rfl, Or.inl (it_mem 3 189 rfl rfl), fun h => absurd h (by decide)⟩
theorem it_MT_128 : it_mwP (5, 109, 16, 0) := ⟨_, _, rfl, rfl, Or.inl (it_mem 3 193 rfl rfl), fun h => absurd h (by decide)⟩
theorem it_MT_129 : it_mwP (5, 112, 12, 0) := ⟨_, _, rfl, rfl, Or.inl (it_mem 3 194 rfl rfl), fun h => absurd h (by decide)⟩
theorem it_MT_130 : it_mwP (5, 115, 17, 0) := ⟨_, _, rfl, rfl, Or.inl (it_mem 3 199 rfl rfl), fun h => absurd h (by decide)⟩
theorem it_MT_131 : it_mwP (5, 119, 15, 0) := ⟨_, _, rfl, rfl, Or.inl (it_mem 3 200 rfl rfl), fun h => absurd h (by decide)⟩
theorem it_MT_132 : it_mwP (5, 122, 13, 0) := ⟨_, _, rfl, rfl, Or.inl (it_mem 3 204 rfl rfl), fun h => absurd h (by decide)⟩
theorem it_MT_133 : it_mwP (5, 125, 119, 0) := ⟨_, _, rfl, rfl, Or.inl (it_mem 3 209 rfl rfl), fun h => absurd h (by decide)⟩
theorem it_MT_134 : it_mwP (5, 129, 120, 0) := ⟨_, _, rfl, rfl, Or.inl (it_mem 3 216 rfl rfl), fun h => absurd h (by decide)⟩
theorem it_MT_135 : it_mwP (5, 138, 122, 0) := ⟨_, _, rfl, rfl, Or.inl (it_mem 3 224 rfl rfl), fun h => absurd h (by decide)⟩
theorem it_MT_136 : it_mwP (5, 141, 123, 0) := ⟨_, _, rfl, rfl, Or.inl (it_mem 3 228 rfl rfl), fun h => absurd h (by decide)⟩
theorem it_MT_137 : it_mwP (5, 144, 9997, 0) := ⟨_, _, rfl, rfl, Or.inl (it_mem 3 231 rfl rfl), fun _ => (it_mem 3 231 rfl rfl)⟩
theorem it_MT_138 : it_mwP (5, 149, 9996, 0) := ⟨_, _, rfl, rfl, Or.inl (it_mem 3 232 rfl rfl), fun _ => (it_mem 3 232 rfl rfl)⟩
theorem it_MT_139 : it_mwP (6, 3, 9998, 0) := ⟨_, _, rfl, rfl, Or.inl (it_mem 0 187 rfl rfl), fun _ => (it_mem 0 187 rfl rfl)⟩
theorem it_MT_140 : it_mwP (6, 47, 216, 1) := ⟨_, _, rfl, rfl, Or.inr (it_mem 2 188 rfl rfl), fun h => absurd h (by decide)⟩
theorem it_MT_141 : it_mwP (6, 54, 129, 0) := ⟨_, _, rfl, rfl, Or.inl (it_mem 2 189 rfl rfl), fun h => absurd h (by decide)⟩
theorem it_MT_142 : it_mwP (6, 61, 361, 0) := ⟨_, _, rfl, rfl, Or.inl (it_mem 2 193 rfl rfl), fun h => absurd h (by decide)⟩
theorem it_MT_143 : it_mwP (6, 95, 134, 0) := ⟨_, _, rfl, rfl, Or.inl (it_mem 5 83 rfl rfl), fun h => absurd h (by decide)⟩
theorem it_MT_144 : it_mwP (6, 101, 9999, 0) := ⟨_, _, rfl, rfl, Or.inl (it_mem 4 29 rfl rfl), fun _ => (it_mem 4 29 rfl rfl)⟩
theorem it_MT_145 : it_mwP (6, 107, 143, 0) := ⟨_, _, rfl, rfl, Or.inl (it_mem 4 72 rfl rfl), fun h => absurd h (by decide)⟩
theorem it_MT_146 : it_mwP (7, 3, 9998, 0) := ⟨_, _, rfl, rfl, Or.inl (it_mem 1 90 rfl rfl), fun _ => (it_mem 1 90 rfl rfl)⟩
theorem it_MT_147 : it_mwP (7, 38, 147, 0) := ⟨_, _, rfl, rfl, Or.inl (it_mem 2 98 rfl rfl), fun h => absurd h (by decide)⟩
theorem it_MT_148 : it_mwP (7, 50, 149, 0) := ⟨_, _, rfl, rfl, Or.inl (it_mem 3 55 rfl rfl), fun h => absurd h (by decide)⟩
theorem it_MT_149 : it_mwP (7, 54, 150, 0) := ⟨_, _, rfl, rfl, Or.inl (it_mem 3 71 rfl rfl), fun h => absurd h (by decide)⟩
theorem it_MT_150 : it_mwP (7, 57, 151, 0) := ⟨_, _, rfl, rfl, Or.inl (it_mem 3 75 rfl rfl), fun h => absurd h (by decide)⟩
theorem it_MT_151 : it_mwP (7, 60, 72, 0) := ⟨_, _, rfl, rfl, Or.inl (it_mem 3 59 rfl rfl), fun h => absurd h (by decide)⟩
theorem it_MT_152 : it_mwP (7, 64, 130, 0) := ⟨_, _, rfl, rfl, Or.inl (it_mem 3 63 rfl rfl), fun h => absurd h (by decide)⟩
theorem it_MT_153 : it_mwP (7, 77, 155, 0) := ⟨_, _, rfl, rfl, Or.inl (it_mem 3 67 rfl rfl), fun h => absurd h (by decide)⟩
theorem it_MT_154 : it_mwP (7, 93, 152, 0) := ⟨_, _, rfl, rfl, Or.inl (it_mem 3 81 rfl rfl), fun h => absurd h (by decide)⟩
theorem it_MT_155 : it_mwP (7, 96, 153, 0) := ⟨_, _, rfl, rfl, Or.inl (it_mem 3 85 rfl rfl), fun h => absurd h (by decide)⟩
theorem it_MT_156 : it_mwP (7, 100, 154, 0) := ⟨_, _, rfl, rfl, Or.inl (it_mem 3 92 rfl rfl), fun h => absurd h (by decide)⟩
theorem it_MT_157 : it_mwP (7, 104, 9997, 0) := ⟨_, _, rfl, rfl, Or.inl (it_mem 3 89 rfl rfl), fun _ => (it_mem 3 89 rfl rfl)⟩
theorem it_MT_158 : it_mwP (7, 110, 9996, 0) := ⟨_, _, rfl, rfl, Or.inl (it_mem 3 96 rfl rfl), fun _ => (it_mem 3 96 rfl rfl)⟩
theorem it_MT_159 : it_mwP (8, 3, 9998, 0) := ⟨_, _, rfl, rfl, Or.inl (it_mem 0 80 rfl rfl), fun _ => (it_mem 0 80 rfl rfl)⟩
theorem it_MT_160 : it_mwP (8, 29, 12, 0) := ⟨_, _, rfl, rfl, Or.inl (it_mem 2 39 rfl rfl), fun h => absurd h (by decide)⟩
theorem it_MT_161 : it_mwP (8, 41, 169, 0) := ⟨_, _, rfl, rfl, Or.inl (it_mem 2 46 rfl rfl), fun h => absurd h (by decide)⟩
theorem it_MT_162 : it_mwP (8, 45, 168, 0) := ⟨_, _, rfl, rfl, Or.inl (it_mem 2 58 rfl rfl), fun h => absurd h (by decide)⟩
theorem it_MT_163 : it_mwP (8, 49, 163, 0) := ⟨_, _, rfl, rfl, Or.inl (it_mem 2 62 rfl rfl), fun h => absurd h (by decide)⟩
theorem it_MT_164 : it_mwP (8, 52, 165, 0) := ⟨_, _, rfl, rfl, Or.inl (it_mem 2 74 rfl rfl), fun h => absurd h (by decide)⟩
theorem it_MT_165 : it_mwP (8, 56, 166, 0) := ⟨_, _, rfl, rfl, Or.inl (it_mem 2 78 rfl rfl), fun h => absurd h (by decide)⟩
theorem it_MT_166 : it_mwP (8, 59, 159, 0) := ⟨_, _, rfl, rfl, Or.inl (it_mem 5 155 rfl rfl), fun h => absurd h (by decide)⟩
theorem it_MT_167 : it_mwP (8, 63, 16, 0) := ⟨_, _, rfl, rfl, Or.inl (it_mem 5 2 rfl rfl), fun h => absurd h (by decide)⟩
theorem it_MT_168 : it_mwP (8, 69, 162, 0) := ⟨_, _, rfl, rfl, Or.inl (it_mem 2 70 rfl rfl), fun h => absurd h (by decide)⟩
theorem it_MT_169 : it_mwP (8, 76, 161, 0) := ⟨_, _, rfl, rfl, Or.inl (it_mem 4 238 rfl rfl), fun h => absurd h (by decide)⟩
theorem it_MT_170 : it_mwP (8, 79, 164, 0) := ⟨_, _, rfl, rfl, Or.inl (it_mem 2 66 rfl rfl), fun h => absurd h (by decide)⟩
theorem it_MT_171 : it_mwP (8, 82, 167, 0) := ⟨_, _, rfl, rfl, Or.inl (it_mem 2 82 rfl rfl), fun h => absurd h (by decide)⟩
theorem it_MT_172 : it_mwP (8, 90, 170, 0) := ⟨_, _, rfl, rfl, Or.inl (it_mem 2 50 rfl rfl), fun h => absurd h (by decide)⟩
theorem it_MT_173 : it_mwP (8, 93, 13, 0) := ⟨_, _, rfl, rfl, Or.inl (it_mem 2 54 rfl rfl), fun h => absurd h (by decide)⟩
theorem it_MT_174 : it_mwP (9, 3, 9998, 0) := ⟨_, _, rfl, rfl, Or.inl (it_mem 1 196 rfl rfl), fun _ => (it_mem 1 196 rfl rfl)⟩
theorem it_MT_175 : it_mwP (9, 35, 69, 0) := ⟨_, _, rfl, rfl, Or.inl (it_mem 4 6 rfl rfl), fun h => absurd h (by decide)⟩
theorem it_MT_176 : it_mwP (9, 42, 174, 0) := ⟨_, _, rfl, rfl, Or.inl (it_mem 4 7 rfl rfl), fun h => absurd h (by decide)⟩
theorem it_MT_177 : it_mwP (9, 46, 177, 0) := ⟨_, _, rfl, rfl, Or.inl (it_mem 4 45 rfl rfl), fun h => absurd h (by decide)⟩
theorem it_MT_178 : it_mwP (9, 49, 180, 0) := ⟨_, _, rfl, rfl, Or.inl (it_mem 4 84 rfl rfl), fun h => absurd h (by decide)⟩
theorem it_MT_179 : it_mwP (9, 53, 178, 0) := ⟨_, _, rfl, rfl, Or.inl (it_mem 4 110 rfl rfl), fun h => absurd h (by decide)⟩
theorem it_MT_180 : it_mwP (9, 57, 183, 0) := ⟨_, _, rfl, rfl, Or.inl (it_mem 4 128 rfl rfl), fun h => absurd h (by decide)⟩
theorem it_MT_181 : it_mwP (9, 60, 185, 0) := ⟨_, _, rfl, rfl, Or.inl (it_mem 4 145 rfl rfl), fun h => absurd h (by decide)⟩
theorem it_MT_182 : it_mwP (9, 63, 136, 0) := ⟨_, _, rfl, rfl, Or.inl (it_mem 4 41 rfl rfl), fun h => absurd h (by decide)⟩
theorem it_MT_183 : it_mwP (9, 67, 175, 0) := ⟨_, _, rfl, rfl, Or.inl (it_mem 4 11 rfl rfl), fun h => absurd h (by decide)⟩
theorem it_MT_184 : it_mwP (9, 73, 82, 0) := ⟨_, _, rfl, rfl, Or.inl (it_mem 4 17 rfl rfl), fun h => absurd h (by decide)⟩
theorem it_MT_185 : it_mwP (9, 81, 176, 0) := ⟨_, _, rfl, rfl, Or.inl (it_mem 4 32 rfl rfl), fun h => absurd h (by decide)⟩
theorem it_MT_186 : it_mwP (9, 85, 132, 0) := ⟨_, _, rfl, rfl, Or.inl (it_mem 4 15 rfl rfl), fun h => absurd h (by decide)⟩
theorem it_MT_187 : it_mwP (9, 89, 17, 0) := ⟨_, _, rfl, rfl, Or.inl (it_mem 4 16 rfl rfl), fun h => absurd h (by decide)⟩
theorem it_MT_188 : it_mwP (9, 95, 142, 0) := ⟨_, _, rfl, rfl, Or.inl (it_mem 4 36 rfl rfl), fun h => absurd h (by decide)⟩
theorem it_MT_189 : it_mwP (9, 99, 81, 0) := ⟨_, _, rfl, rfl, Or.inl (it_mem 4 40 rfl rfl), fun h => absurd h (by decide)⟩
theorem it_MT_190 : it_mwP (9, 109, 133, 0) := ⟨_, _, rfl, rfl, Or.inl (it_mem 4 49 rfl rfl), fun h => absurd h (by decide)⟩
theorem it_MT_191 : it_mwP (9, 112, 173, 0) := ⟨_, _, rfl, rfl, Or.inl (it_mem 4 50 rfl rfl), fun h => absurd h (by decide)⟩
theorem it_MT_192 : it_mwP (9, 115, 137, 0) := ⟨_, _, rfl, rfl, Or.inl (it_mem 4 53 rfl rfl), fun h => absurd h (by decide)⟩
theorem it_MT_193 : it_mwP (9, 121, 213, 1) := ⟨_, _, rfl, rfl, Or.inr (it_mem 4 58 rfl rfl), fun h => absurd h (by decide)⟩
theorem it_MT_194 : it_mwP (9, 125, 85, 0) := ⟨_, _, rfl, rfl, Or.inl (it_mem 4 59 rfl rfl), fun h => absurd h (by decide)⟩
theorem it_MT_195 : it_mwP (9, 129, 144, 0) := ⟨_, _, rfl, rfl, Or.inl (it_mem 4 68 rfl rfl), fun h => absurd h (by decide)⟩
theorem it_MT_196 : it_mwP (9, 132, 87, 0) := ⟨_, _, rfl, rfl, Or.inl (it_mem 4 73 rfl rfl), fun h => absurd h (by decide)⟩
theorem it_MT_197 : it_mwP (9, 136, 179, 0) := ⟨_, _, rfl, rfl, Or.inl (it_mem 4 74 rfl rfl), fun h => absurd h (by decide)⟩
theorem it_MT_198 : it_mwP (9, 145, 102, 0) := ⟨_, _, rfl, rfl, Or.inl (it_mem 4 116 rfl rfl), fun h => absurd h (by decide)⟩
theorem it_MT_199 : it_mwP (9, 149, 89, 0) := ⟨_, _, rfl, rfl, Or.inl (it_mem 4 123 rfl rfl), fun h => absurd h (by decide)⟩
theorem it_MT_200 : it_mwP (9, 152, 88, 0) := ⟨_, _, rfl, rfl, Or.inl (it_mem 4 127 rfl rfl), fun h => absurd h (by decide)⟩
theorem it_MT_201 : it_mwP (9, 155, 12, 0) := ⟨_, _, rfl, rfl, Or.inl (it_mem 4 78 rfl rfl), fun h => absurd h (by decide)⟩
theorem it_MT_202 : it_mwP (9, 159, 13, 0) := ⟨_, _, rfl, rfl, Or.inl (it_mem 4 79 rfl rfl), fun h => absurd h (by decide)⟩
theorem it_MT_203 : it_mwP (9, 162, 140, 0) := ⟨_, _, rfl, rfl, Or.inl (it_mem 4 80 rfl rfl), fun h => absurd h (by decide)⟩
theorem it_MT_204 : it_mwP (9, 169, 9, 0) := ⟨_, _, rfl, rfl, Or.inl (it_mem 4 88 rfl rfl), fun h => absurd h (by decide)⟩
theorem it_MT_205 : it_mwP (9, 177, 181, 0) := ⟨_, _, rfl, rfl, Or.inl (it_mem 4 94 rfl rfl), fun h => absurd h (by decide)⟩
theorem it_MT_206 : it_mwP (9, 180, 182, 0) := ⟨_, _, rfl, rfl, Or.inl (it_mem 4 105 rfl rfl), fun h => absurd h (by decide)⟩
theorem it_MT_207 : it_mwP (9, 184, 138, 0) := ⟨_, _, rfl, rfl, Or.inl (it_mem 4 97 rfl rfl), fun h => absurd h (by decide)⟩
theorem it_MT_208 : it_mwP (9, 187, 139, 0) := ⟨_, _, rfl, rfl, Or.inl (it_mem 4 101 rfl rfl), fun h => absurd h (by decide)⟩
theorem it_MT_209 : it_mwP (9, 198, 184, 0) := ⟨_, _, rfl, rfl, Or.inl (it_mem 4 133 rfl rfl), fun h => absurd h (by decide)⟩
theorem it_MT_210 : it_mwP (9, 221, 91, 0) := ⟨_, _, rfl, rfl, Or.inl (it_mem 4 139 rfl rfl), fun h => absurd h (by decide)⟩
theorem it_MT_211 : it_mwP (9, 224, 78, 0) := ⟨_, _, rfl, rfl, Or.inl (it_mem 4 149 rfl rfl), fun h => absurd h (by decide)⟩
theorem it_MT_212 : it_mwP (9, 227, 76, 0) := ⟨_, _, rfl, rfl, Or.inl (it_mem 4 158 rfl rfl), fun h => absurd h (by decide)⟩
theorem it_MT_213 : it_mwP (10, 1, 9998, 0) := ⟨_, _, rfl, rfl, Or.inl (it_mem 0 22 rfl rfl), fun _ => (it_mem 0 22 rfl rfl)⟩
theorem it_MT_214 : it_mwP (10, 9, 11, 0) := ⟨_, _, rfl, rfl, Or.inl (it_mem 0 27 rfl rfl), fun h => absurd h (by decide)⟩
theorem it_MT_215 : it_mwP (10, 18, 68, 1) := ⟨_, _, rfl, rfl, Or.inr (it_mem 0 49 rfl rfl), fun h => absurd h (by decide)⟩
theorem it_MT_216 : it_mwP (10, 25, 156, 0) := ⟨_, _, rfl, rfl, Or.inl (it_mem 0 77 rfl rfl), fun h => absurd h (by decide)⟩
theorem it_MT_217 : it_mwP (10, 34, 71, 0) := ⟨_, _, rfl, rfl, Or.inl (it_mem 0 111 rfl rfl), fun h => absurd h (by decide)⟩
theorem it_MT_218 : it_mwP (10, 41, 145, 0) := ⟨_, _, rfl, rfl, Or.inl (it_mem 1 87 rfl rfl), fun h => absurd h (by decide)⟩
theorem it_MT_219 : it_mwP (10, 50, 103, 0) := ⟨_, _, rfl, rfl, Or.inl (it_mem 1 126 rfl rfl), fun h => absurd h (by decide)⟩
theorem it_MT_220 : it_mwP (10, 59, 35, 0) := ⟨_, _, rfl, rfl, Or.inl (it_mem 1 144 rfl rfl), fun h => absurd h (by decide)⟩
theorem it_MT_221 : it_mwP (10, 68, 171, 0) := ⟨_, _, rfl, rfl, Or.inl (it_mem 1 193 rfl rfl), fun h => absurd h (by decide)⟩
theorem it_MT_222 : it_mwP (10, 83, 211, 0) := ⟨_, _, rfl, rfl, Or.inl (it_mem 2 5 rfl rfl), fun h => absurd h (by decide)⟩
theorem it_MT_223 : it_mwP (10, 93, 17, 0) := ⟨_, _, rfl, rfl, Or.inl (it_mem 2 19 rfl rfl), fun h => absurd h (by decide)⟩
theorem it_MT_224 : it_mwP (10, 97, 36, 0) := ⟨_, _, rfl, rfl, Or.inl (it_mem 2 29 rfl rfl), fun h => absurd h (by decide)⟩
theorem it_MT_225 : it_mwP (10, 100, 157, 0) := ⟨_, _, rfl, rfl, Or.inl (it_mem 2 33 rfl rfl), fun h => absurd h (by decide)⟩
theorem it_MT_226 : it_mwP (10, 106, 212, 0) := ⟨_, _, rfl, rfl, Or.inl (it_mem 2 86 rfl rfl), fun h => absurd h (by decide)⟩
theorem it_MT_227 : it_mwP (10, 109, 146, 0) := ⟨_, _, rfl, rfl, Or.inl (it_mem 2 94 rfl rfl), fun h => absurd h (by decide)⟩
theorem it_MT_228 : it_mwP (10, 115, 73, 0) := ⟨_, _, rfl, rfl, Or.inl (it_mem 2 102 rfl rfl), fun h => absurd h (by decide)⟩
theorem it_MT_229 : it_mwP (10, 128, 39, 0) := ⟨_, _, rfl, rfl, Or.inl (it_mem 2 208 rfl rfl), fun h => absurd h (by decide)⟩
theorem it_MT_230 : it_mwP (10, 131, 148, 0) := ⟨_, _, rfl, rfl, Or.inl (it_mem 3 51 rfl rfl), fun h => absurd h (by decide)⟩
theorem it_MT_231 : it_mwP (10, 139, 104, 0) := ⟨_, _, rfl, rfl, Or.inl (it_mem 3 99 rfl rfl), fun h => absurd h (by decide)⟩
theorem it_MT_232 : it_mwP (10, 143, 172, 0) := ⟨_, _, rfl, rfl, Or.inl (it_mem 4 2 rfl rfl), fun h => absurd h (by decide)⟩
theorem it_MT_233 : it_mwP (10, 146, 37, 0) := ⟨_, _, rfl, rfl, Or.inl (it_mem 4 162 rfl rfl), fun h => absurd h (by decide)⟩
theorem it_MT_234 : it_mwP (10, 156, 77, 0) := ⟨_, _, rfl, rfl, Or.inl (it_mem 5 36 rfl rfl), fun h => absurd h (by decide)⟩
theorem it_MT_235 : it_mwP (10, 160, 54, 0) := ⟨_, _, rfl, rfl, Or.inl (it_mem 5 45 rfl rfl), fun h => absurd h (by decide)⟩
theorem it_MT_236 : it_mwP (10, 164, 50, 0) := ⟨_, _, rfl, rfl, Or.inl (it_mem 5 53 rfl rfl), fun h => absurd h (by decide)⟩
theorem it_MT_237 : it_mwP (10, 171, 72, 0) := ⟨_, _, rfl, rfl, Or.inl (it_mem 5 65 rfl rfl), fun h => absurd h (by decide)⟩
theorem it_MT_238 : it_mwP (10, 180, 76, 0) := ⟨_, _, rfl, rfl, Or.inl (it_mem 5 70 rfl rfl), fun h => absurd h (by decide)⟩
theorem it_MT_239 : it_mwP (10, 191, 135, 0) := ⟨_, _, rfl, rfl, Or.inl (it_mem 5 79 rfl rfl), fun h => absurd h (by decide)⟩
theorem it_MT_240 : it_mwP (10, 199, 92, 0) := ⟨_, _, rfl, rfl, Or.inl (it_mem 5 96 rfl rfl), fun h => absurd h (by decide)⟩
theorem it_MT_241 : it_mwP (10, 202, 16, 0) := ⟨_, _, rfl, rfl, Or.inl (it_mem 5 101 rfl rfl), fun h => absurd h (by decide)⟩
theorem it_MT_242 : it_mwP (10, 205, 94, 0) := ⟨_, _, rfl, rfl, Or.inl (it_mem 5 106 rfl rfl), fun h => absurd h (by decide)⟩
theorem it_MT_243 : it_mwP (10, 223, 38, 0) := ⟨_, _, rfl, rfl, Or.inl (it_mem 5 131 rfl rfl), fun h => absurd h (by decide)⟩
theorem it_MT_244 : it_mwP (10, 229, 70, 0) := ⟨_, _, rfl, rfl, Or.inl (it_mem 5 143 rfl rfl), fun h => absurd h (by decide)⟩
theorem it_MT_245 : it_mwP (10, 232, 158, 0) := ⟨_, _, rfl, rfl, Or.inl (it_mem 5 151 rfl rfl), fun h => absurd h (by decide)⟩
theorem it_MT_246 : it_mwP (10, 239, 93, 0) := ⟨_, _, rfl, rfl, Or.inl (it_mem 5 160 rfl rfl), fun h => absurd h (by decide)⟩
theorem it_MT_247 : it_mwP (10, 242, 18, 0) := ⟨_, _, rfl, rfl, Or.inl (it_mem 2 90 rfl rfl), fun h => absurd h (by decide)⟩
theorem it_MT_248 : it_mwP (10, 247, 213, 0) := ⟨_, _, rfl, rfl, Or.inl (it_mem 4 188 rfl rfl), fun h => absurd h (by decide)⟩
theorem it_MT_249 : it_mwP (11, 1, 9998, 0) := ⟨_, _, rfl, rfl, Or.inl (it_mem 5 191 rfl rfl), fun _ => (it_mem 5 191 rfl rfl)⟩
theorem it_MT_250 : it_mwP (11, 160, 218, 0) := ⟨_, _, rfl, rfl, Or.inl (it_mem 6 230 rfl rfl), fun h => absurd h (by decide)⟩
theorem it_MT_251 : it_mwP (11, 164, 219, 0) := ⟨_, _, rfl, rfl, Or.inl (it_mem 6 226 rfl rfl), fun h => absurd h (by decide)⟩
theorem it_MT_252 : it_mwP (11, 171, 224, 0) := ⟨_, _, rfl, rfl, Or.inl (it_mem 6 177 rfl rfl), fun h => absurd h (by decide)⟩
theorem it_MT_253 : it_mwP (11, 179, 228, 0) := ⟨_, _, rfl, rfl, Or.inl (it_mem 6 193 rfl rfl), fun h => absurd h (by decide)⟩
theorem it_MT_254 : it_mwP (11, 191, 230, 0) := ⟨_, _, rfl, rfl, Or.inl (it_mem 7 15 rfl rfl), fun h => absurd h (by decide)⟩
theorem it_MT_255 : it_mwP (11, 195, 221, 0) := ⟨_, _, rfl, rfl, Or.inl (it_mem 7 24 rfl rfl), fun h => absurd h (by decide)⟩
theorem it_MT_256 : it_mwP (11, 200, 233, 0) := ⟨_, _, rfl, rfl, Or.inl (it_mem 6 213 rfl rfl), fun h => absurd h (by decide)⟩
theorem it_MT_257 : it_mwP (11, 203, 220, 0) := ⟨_, _, rfl, rfl, Or.inl (it_mem 6 222 rfl rfl), fun h => absurd h (by decide)⟩
theorem it_MT_258 : it_mwP (11, 215, 235, 0) := ⟨_, _, rfl, rfl, Or.inl (it_mem 6 218 rfl rfl), fun h => absurd h (by decide)⟩
theorem it_MT_259 : it_mwP (11, 219, 236, 0) := ⟨_, _, rfl, rfl, Or.inl (it_mem 7 33 rfl rfl), fun h => absurd h (by decide)⟩
theorem it_MT_260 : it_mwP (11, 222, 238, 0) := ⟨_, _, rfl, rfl, Or.inl (it_mem 6 209 rfl rfl), fun h => absurd h (by decide)⟩
theorem it_MT_261 : it_mwP (11, 227, 232, 0) := ⟨_, _, rfl, rfl, Or.inl (it_mem 7 11 rfl rfl), fun h => absurd h (by decide)⟩
theorem it_MT_262 : it_mwP (11, 230, 231, 0) := ⟨_, _, rfl, rfl, Or.inl (it_mem 7 20 rfl rfl), fun h => absurd h (by decide)⟩
theorem it_MT_263 : it_mwP (11, 234, 234, 0) := ⟨_, _, rfl, rfl, Or.inl (it_mem 7 7 rfl rfl), fun h => absurd h (by decide)⟩
theorem it_MT_264 : it_mwP (11, 238, 237, 0) := ⟨_, _, rfl, rfl, Or.inl (it_mem 7 29 rfl rfl), fun h => absurd h (by decide)⟩
theorem it_MT_265 : it_mwP (11, 241, 240, 0) := ⟨_, _, rfl, rfl, Or.inl (it_mem 7 37 rfl rfl), fun h => absurd h (by decide)⟩
theorem it_MT_266 : it_mwP (11, 244, 239, 0) := ⟨_, _, rfl, rfl, Or.inl (it_mem 6 205 rfl rfl), fun h => absurd h (by decide)⟩
theorem it_MT_267 : it_mwP (11, 284, 222, 0) := ⟨_, _, rfl, rfl, Or.inl (it_mem 7 64 rfl rfl), fun h => absurd h (by decide)⟩
theorem it_MT_268 : it_mwP (11, 290, 244, 0) := ⟨_, _, rfl, rfl, Or.inl (it_mem 7 49 rfl rfl), fun h => absurd h (by decide)⟩
theorem it_MT_269 : it_mwP (11, 293, 245, 0) := ⟨_, _, rfl, rfl, Or.inl (it_mem 7 55 rfl rfl), fun h => absurd h (by decide)⟩
theorem it_MT_270 : it_mwP (11, 298, 246, 0) := ⟨_, _, rfl, rfl, Or.inl (it_mem 7 60 rfl rfl), fun h => absurd h (by decide)⟩
theorem it_MT_271 : it_mwP (11, 301, 247, 0) := ⟨_, _, rfl, rfl, Or.inl (it_mem 7 73 rfl rfl), fun h => absurd h (by decide)⟩
theorem it_MT_272 : it_mwP (11, 305, 248, 0) := ⟨_, _, rfl, rfl, Or.inl (it_mem 7 45 rfl rfl), fun h => absurd h (by decide)⟩
theorem it_MT_273 : it_mwP (11, 309, 249, 0) := ⟨_, _, rfl, rfl, Or.inl (it_mem 7 69 rfl rfl), fun h => absurd h (by decide)⟩
theorem it_MT_274 : it_mwP (11, 324, 241, 0) := ⟨_, _, rfl, rfl, Or.inl (it_mem 7 3 rfl rfl), fun h => absurd h (by decide)⟩
theorem it_MT_275 : it_mwP (11, 327, 250, 0) := ⟨_, _, rfl, rfl, Or.inl (it_mem 7 41 rfl rfl), fun h => absurd h (by decide)⟩
theorem it_MT_276 : it_mwP (11, 339, 253, 0) := ⟨_, _, rfl, rfl, Or.inl (it_mem 7 77 rfl rfl), fun h => absurd h (by decide)⟩
theorem it_MT_277 : it_mwP (11, 342, 252, 0) := ⟨_, _, rfl, rfl, Or.inl (it_mem 7 81 rfl rfl), fun h => absurd h (by decide)⟩
theorem it_MT_278 : it_mwP (11, 345, 254, 0) := ⟨_, _, rfl, rfl, Or.inl (it_mem 7 85 rfl rfl), fun h => absurd h (by decide)⟩
theorem it_MT_279 : it_mwP (11, 348, 257, 0) := ⟨_, _, rfl, rfl, Or.inl (it_mem 7 143 rfl rfl), fun h => absurd h (by decide)⟩
theorem it_MT_280 : it_mwP (11, 352, 268, 0) := ⟨_, _, rfl, rfl, Or.inl (it_mem 7 117 rfl rfl), fun h => absurd h (by decide)⟩
theorem it_MT_281 : it_mwP (11, 355, 269, 0) := ⟨_, _, rfl, rfl, Or.inl (it_mem 7 132 rfl rfl), fun h => absurd h (by decide)⟩
theorem it_MT_282 : it_mwP (11, 360, 255, 0) := ⟨_, _, rfl, rfl, Or.inl (it_mem 7 198 rfl rfl), fun h => absurd h (by decide)⟩
theorem it_MT_283 : it_mwP (11, 363, 256, 0) := ⟨_, _, rfl, rfl, Or.inl (it_mem 7 202 rfl rfl), fun h => absurd h (by decide)⟩
theorem it_MT_284 : it_mwP (11, 366, 341, 0) := ⟨_, _, rfl, rfl, Or.inl (it_mem 7 93 rfl rfl), fun h => absurd h (by decide)⟩
theorem it_MT_285 : it_mwP (11, 369, 262, 0) := ⟨_, _, rfl, rfl, Or.inl (it_mem 7 97 rfl rfl), fun h => absurd h (by decide)⟩
theorem it_MT_286 : it_mwP (11, 372, 264, 0) := ⟨_, _, rfl, rfl, Or.inl (it_mem 7 120 rfl rfl), fun h => absurd h (by decide)⟩
theorem it_MT_287 : it_mwP (11, 375, 265, 0) := ⟨_, _, rfl, rfl, Or.inl (it_mem 7 123 rfl rfl), fun h => absurd h (by decide)⟩
theorem it_MT_288 : it_mwP (11, 378, 266, 0) := ⟨_, _, rfl, rfl, Or.inl (it_mem 7 126 rfl rfl), fun h => absurd h (by decide)⟩
theorem it_MT_289 : it_mwP (11, 381, 267, 0) := ⟨_, _, rfl, rfl, Or.inl (it_mem 7 129 rfl rfl), fun h => absurd h (by decide)⟩
theorem it_MT_290 : it_mwP (11, 384, 272, 0) := ⟨_, _, rfl, rfl, Or.inl (it_mem 7 113 rfl rfl), fun h => absurd h (by decide)⟩
theorem it_MT_291 : it_mwP (11, 387, 275, 0) := ⟨_, _, rfl, rfl, Or.inl (it_mem 7 139 rfl rfl), fun h => absurd h (by decide)⟩
theorem it_MT_292 : it_mwP (11, 391, 276, 0) := ⟨_, _, rfl, rfl, Or.inl (it_mem 7 148 rfl rfl), fun h => absurd h (by decide)⟩
theorem it_MT_293 : it_mwP (11, 394, 277, 0) := ⟨_, _, rfl, rfl, Or.inl (it_mem 8 61 rfl rfl), fun h => absurd h (by decide)⟩
theorem it_MT_294 : it_mwP (11, 397, 279, 0) := ⟨_, _, rfl, rfl, Or.inl (it_mem 8 73 rfl rfl), fun h => absurd h (by decide)⟩
theorem it_MT_295 : it_mwP (11, 401, 285, 0) := ⟨_, _, rfl, rfl, Or.inl (it_mem 8 49 rfl rfl), fun h => absurd h (by decide)⟩
theorem it_MT_296 : it_mwP (11, 404, 288, 0) := ⟨_, _, rfl, rfl, Or.inl (it_mem 8 77 rfl rfl), fun h => absurd h (by decide)⟩
theorem it_MT_297 : it_mwP (11, 408, 296, 0) := ⟨_, _, rfl, rfl, Or.inl (it_mem 8 96 rfl rfl), fun h => absurd h (by decide)⟩
theorem it_MT_298 : it_mwP (11, 411, 289, 0) := ⟨_, _, rfl, rfl, Or.inl (it_mem 8 169 rfl rfl), fun h => absurd h (by decide)⟩
theorem it_MT_299 : it_mwP (11, 415, 290, 0) := ⟨_, _, rfl, rfl, Or.inl (it_mem 8 173 rfl rfl), fun h => absurd h (by decide)⟩
theorem it_MT_300 : it_mwP (11, 418, 293, 0) := ⟨_, _, rfl, rfl, Or.inl (it_mem 8 185 rfl rfl), fun h => absurd h (by decide)⟩
theorem it_MT_301 : it_mwP (11, 421, 282, 0) := ⟨_, _, rfl, rfl, Or.inl (it_mem 8 69 rfl rfl), fun h => absurd h (by decide)⟩
theorem it_MT_302 : it_mwP (11, 424, 260, 0) := ⟨_, _, rfl, rfl, Or.inl (it_mem 8 53 rfl rfl), fun h => absurd h (by decide)⟩
theorem it_MT_303 : it_mwP (11, 428, 278, 0) := ⟨_, _, rfl, rfl, Or.inl (it_mem 8 57 rfl rfl), fun h => absurd h (by decide)⟩
theorem it_MT_304 : it_mwP (11, 431, 286, 0) := ⟨_, _, rfl, rfl, Or.inl (it_mem 8 65 rfl rfl), fun h => absurd h (by decide)⟩
theorem it_MT_305 : it_mwP (11, 434, 261, 0) := ⟨_, _, rfl, rfl, Or.inl (it_mem 8 81 rfl rfl), fun h => absurd h (by decide)⟩
theorem it_MT_306 : it_mwP (11, 437, 287, 0) := ⟨_, _, rfl, rfl, Or.inl (it_mem 8 85 rfl rfl), fun h => absurd h (by decide)⟩
theorem it_MT_307 : it_mwP (11, 440, 273, 0) := ⟨_, _, rfl, rfl, Or.inl (it_mem 8 88 rfl rfl), fun h => absurd h (by decide)⟩
theorem it_MT_308 : it_mwP (11, 443, 283, 0) := ⟨_, _, rfl, rfl, Or.inl (it_mem 8 92 rfl rfl), fun h => absurd h (by decide)⟩
theorem it_MT_309 : it_mwP (11, 446, 271, 0) := ⟨_, _, rfl, rfl, Or.inl (it_mem 8 124 rfl rfl), fun h => absurd h (by decide)⟩
theorem it_MT_310 : it_mwP (11, 449, 270, 0) := ⟨_, _, rfl, rfl, Or.inl (it_mem 7 160 rfl rfl), fun h => absurd h (by decide)⟩
theorem it_MT_311 : it_mwP (11, 452, 291, 0) := ⟨_, _, rfl, rfl, Or.inl (it_mem 8 177 rfl rfl), fun h => absurd h (by decide)⟩
theorem it_MT_312 : it_mwP (11, 456, 281, 0) := ⟨_, _, rfl, rfl, Or.inl (it_mem 8 104 rfl rfl), fun h => absurd h (by decide)⟩
theorem it_MT_313 : it_mwP (11, 459, 292, 0) := ⟨_, _, rfl, rfl, Or.inl (it_mem 8 181 rfl rfl), fun h => absurd h (by decide)⟩
theorem it_MT_314 : it_mwP (11, 462, 280, 0) := ⟨_, _, rfl, rfl, Or.inl (it_mem 8 108 rfl rfl), fun h => absurd h (by decide)⟩
theorem it_MT_315 : it_mwP (11, 465, 9996, 0) := ⟨_, _, rfl, rfl, Or.inl (it_mem 7 185 rfl rfl), fun _ => (it_mem 7 185 rfl rfl)⟩
theorem it_MT_316 : it_mwP (11, 470, 294, 0) := ⟨_, _, rfl, rfl, Or.inl (it_mem 8 100 rfl rfl), fun h => absurd h (by decide)⟩
theorem it_MT_317 : it_mwP (11, 474, 295, 0) := ⟨_, _, rfl, rfl, Or.inl (it_mem 8 112 rfl rfl), fun h => absurd h (by decide)⟩
theorem it_MT_318 : it_mwP (11, 477, 298, 0) := ⟨_, _, rfl, rfl, Or.inl (it_mem 8 116 rfl rfl), fun h => absurd h (by decide)⟩
theorem it_MT_319 : it_mwP (11, 480, 299, 0) := ⟨_, _, rfl, rfl, Or.inl (it_mem 8 120 rfl rfl), fun h => absurd h (by decide)⟩
theorem it_MT_320 : it_mwP (11, 483, 300, 0) := ⟨_, _, rfl, rfl, Or.inl (it_mem 8 130 rfl rfl), fun h => absurd h (by decide)⟩
theorem it_MT_321 : it_mwP (11, 485, 301, 0) := ⟨_, _, rfl, rfl, Or.inl (it_mem 8 134 rfl rfl), fun h => absurd h (by decide)⟩
theorem it_MT_322 : it_mwP (11, 487, 302, 0) := ⟨_, _, rfl, rfl, Or.inl (it_mem 8 138 rfl rfl), fun h => absurd h (by decide)⟩
theorem it_MT_323 : it_mwP (11, 490, 303, 0) := ⟨_, _, rfl, rfl, Or.inl (it_mem 8 144 rfl rfl), fun h => absurd h (by decide)⟩
theorem it_MT_324 : it_mwP (11, 493, 304, 0) := ⟨_, _, rfl, rfl, Or.inl (it_mem 8 152 rfl rfl), fun h => absurd h (by decide)⟩
theorem it_MT_325 : it_mwP (11, 496, 305, 0) := ⟨_, _, rfl, rfl, Or.inl (it_mem 8 157 rfl rfl), fun h => absurd h (by decide)⟩
theorem it_MT_326 : it_mwP (11, 499, 297, 0) := ⟨_, _, rfl, rfl, Or.inl (it_mem 8 127 rfl rfl), fun h => absurd h (by decide)⟩
theorem it_MT_327 : it_mwP (11, 502, 274, 0) := ⟨_, _, rfl, rfl, Or.inl (it_mem 7 135 rfl rfl), fun h => absurd h (by decide)⟩
theorem it_MT_328 : it_mwP (11, 507, 242, 0) := ⟨_, _, rfl, rfl, Or.inl (it_mem 8 148 rfl rfl), fun h => absurd h (by decide)⟩
theorem it_MT_329 : it_mwP (11, 512, 307, 0) := ⟨_, _, rfl, rfl, Or.inl (it_mem 8 161 rfl rfl), fun h => absurd h (by decide)⟩
theorem it_MT_330 : it_mwP (11, 515, 306, 0) := ⟨_, _, rfl, rfl, Or.inl (it_mem 8 165 rfl rfl), fun h => absurd h (by decide)⟩
theorem it_MT_331 : it_mwP (11, 518, 9997, 0) := ⟨_, _, rfl, rfl, Or.inl (it_mem 7 184 rfl rfl), fun _ => (it_mem 7 184 rfl rfl)⟩
theorem it_MT_332 : it_mwP (11, 521, 309, 0) := ⟨_, _, rfl, rfl, Or.inl (it_mem 7 156 rfl rfl), fun h => absurd h (by decide)⟩
theorem it_MT_333 : it_mwP (11, 527, 312, 0) := ⟨_, _, rfl, rfl, Or.inl (it_mem 7 172 rfl rfl), fun h => absurd h (by decide)⟩
theorem it_MT_334 : it_mwP (11, 530, 313, 0) := ⟨_, _, rfl, rfl, Or.inl (it_mem 7 176 rfl rfl), fun h => absurd h (by decide)⟩
theorem it_MT_335 : it_mwP (11, 533, 315, 0) := ⟨_, _, rfl, rfl, Or.inl (it_mem 7 180 rfl rfl), fun h => absurd h (by decide)⟩
theorem it_MT_336 : it_mwP (11, 538, 308, 0) := ⟨_, _, rfl, rfl, Or.inl (it_mem 7 109 rfl rfl), fun h => absurd h (by decide)⟩
theorem it_MT_337 : it_mwP (11, 541, 310, 0) := ⟨_, _, rfl, rfl, Or.inl (it_mem 7 152 rfl rfl), fun h => absurd h (by decide)⟩
theorem it_MT_338 : it_mwP (11, 544, 311, 0) := ⟨_, _, rfl, rfl, Or.inl (it_mem 7 164 rfl rfl), fun h => absurd h (by decide)⟩
theorem it_MT_339 : it_mwP (11, 547, 314, 0) := ⟨_, _, rfl, rfl, Or.inl (it_mem 7 168 rfl rfl), fun h => absurd h (by decide)⟩
theorem it_MT_340 : it_mwP (11, 551, 320, 0) := ⟨_, _, rfl, rfl, Or.inl (it_mem 7 186 rfl rfl), fun h => absurd h (by decide)⟩
theorem it_MT_341 : it_mwP (11, 554, 316, 0) := ⟨_, _, rfl, rfl, Or.inl (it_mem 7 104 rfl rfl), fun h => absurd h (by decide)⟩
theorem it_MT_342 : it_mwP (11, 557, 259, 0) := ⟨_, _, rfl, rfl, Or.inl (it_mem 7 190 rfl rfl), fun h => absurd h (by decide)⟩
theorem it_MT_343 : it_mwP (11, 560, 258, 0) := ⟨_, _, rfl, rfl, Or.inl (it_mem 7 194 rfl rfl), fun h => absurd h (by decide)⟩
theorem it_MT_344 : it_mwP (11, 563, 336, 0) := ⟨_, _, rfl, rfl, Or.inl (it_mem 7 206 rfl rfl), fun h => absurd h (by decide)⟩
theorem it_MT_345 : it_mwP (11, 566, 322, 0) := ⟨_, _, rfl, rfl, Or.inl (it_mem 8 16 rfl rfl), fun h => absurd h (by decide)⟩
theorem it_MT_346 : it_mwP (11, 569, 318, 0) := ⟨_, _, rfl, rfl, Or.inl (it_mem 7 221 rfl rfl), fun h => absurd h (by decide)⟩
theorem it_MT_347 : it_mwP (11, 572, 323, 0) := ⟨_, _, rfl, rfl, Or.inl (it_mem 8 20 rfl rfl), fun h => absurd h (by decide)⟩
theorem it_MT_348 : it_mwP (11, 575, 319, 0) := ⟨_, _, rfl, rfl, Or.inl (it_mem 7 229 rfl rfl), fun h => absurd h (by decide)⟩
theorem it_MT_349 : it_mwP (11, 578, 321, 0) := ⟨_, _, rfl, rfl, Or.inl (it_mem 7 217 rfl rfl), fun h => absurd h (by decide)⟩
theorem it_MT_350 : it_mwP (11, 581, 324, 0) := ⟨_, _, rfl, rfl, Or.inl (it_mem 8 24 rfl rfl), fun h => absurd h (by decide)⟩
theorem it_MT_351 : it_mwP (11, 584, 325, 0) := ⟨_, _, rfl, rfl, Or.inl (it_mem 7 233 rfl rfl), fun h => absurd h (by decide)⟩
theorem it_MT_352 : it_mwP (11, 587, 326, 0) := ⟨_, _, rfl, rfl, Or.inl (it_mem 7 237 rfl rfl), fun h => absurd h (by decide)⟩
theorem it_MT_353 : it_mwP (11, 590, 327, 0) := ⟨_, _, rfl, rfl, Or.inl (it_mem 8 28 rfl rfl), fun h => absurd h (by decide)⟩
theorem it_MT_354 : it_mwP (11, 593, 329, 0) := ⟨_, _, rfl, rfl, Or.inl (it_mem 8 36 rfl rfl), fun h => absurd h (by decide)⟩
theorem it_MT_355 : it_mwP (11, 596, 284, 0) := ⟨_, _, rfl, rfl, Or.inl (it_mem 8 45 rfl rfl), fun h => absurd h (by decide)⟩
theorem it_MT_356 : it_mwP (11, 600, 331, 0) := ⟨_, _, rfl, rfl, Or.inl (it_mem 8 190 rfl rfl), fun h => absurd h (by decide)⟩
theorem it_MT_357 : it_mwP (11, 603, 328, 0) := ⟨_, _, rfl, rfl, Or.inl (it_mem 8 32 rfl rfl), fun h => absurd h (by decide)⟩
theorem it_MT_358 : it_mwP (11, 607, 330, 0) := ⟨_, _, rfl, rfl, Or.inl (it_mem 8 40 rfl rfl), fun h => absurd h (by decide)⟩
theorem it_MT_359 : it_mwP (11, 611, 332, 0) := ⟨_, _, rfl, rfl, Or.inl (it_mem 8 194 rfl rfl), fun h => absurd h (by decide)⟩
theorem it_MT_360 : it_mwP (11, 614, 333, 0) := ⟨_, _, rfl, rfl, Or.inl (it_mem 7 214 rfl rfl), fun h => absurd h (by decide)⟩
theorem it_MT_361 : it_mwP (11, 617, 337, 0) := ⟨_, _, rfl, rfl, Or.inl (it_mem 7 210 rfl rfl), fun h => absurd h (by decide)⟩
theorem it_MT_362 : it_mwP (11, 620, 338, 0) := ⟨_, _, rfl, rfl, Or.inl (it_mem 8 1 rfl rfl), fun h => absurd h (by decide)⟩
theorem it_MT_363 : it_mwP (11, 623, 340, 0) := ⟨_, _, rfl, rfl, Or.inl (it_mem 8 12 rfl rfl), fun h => absurd h (by decide)⟩
theorem it_MT_364 : it_mwP (11, 626, 334, 0) := ⟨_, _, rfl, rfl, Or.inl (it_mem 7 225 rfl rfl), fun h => absurd h (by decide)⟩
theorem it_MT_365 : it_mwP (11, 629, 335, 0) := ⟨_, _, rfl, rfl, Or.inl (it_mem 8 5 rfl rfl), fun h => absurd h (by decide)⟩
theorem it_MT_366 : it_mwP (11, 632, 339, 0) := ⟨_, _, rfl, rfl, Or.inl (it_mem 8 8 rfl rfl), fun h => absurd h (by decide)⟩
theorem it_MT_367 : it_mwP (11, 635, 349, 0) := ⟨_, _, rfl, rfl, Or.inl (it_mem 8 226 rfl rfl), fun h => absurd h (by decide)⟩
theorem it_MT_368 : it_mwP (11, 638, 348, 0) := ⟨_, _, rfl, rfl, Or.inl (it_mem 8 230 rfl rfl), fun h => absurd h (by decide)⟩
theorem it_MT_369 : it_mwP (11, 641, 352, 0) := ⟨_, _, rfl, rfl, Or.inl (it_mem 9 2 rfl rfl), fun h => absurd h (by decide)⟩
theorem it_MT_370 : it_mwP (12, 7, 28, 0) := ⟨_, _, rfl, rfl, Or.inl (it_mem 3 115 rfl rfl), fun h => absurd h (by decide)⟩
theorem it_MT_371 : it_mwP (12, 13, 29, 0) := ⟨_, _, rfl, rfl, Or.inl (it_mem 3 130 rfl rfl), fun h => absurd h (by decide)⟩
theorem it_MT_372 : it_mwP (12, 16, 34, 0) := ⟨_, _, rfl, rfl, Or.inl (it_mem 3 149 rfl rfl), fun h => absurd h (by decide)⟩
theorem it_MT_373 : it_mwP (12, 19, 23, 0) := ⟨_, _, rfl, rfl, Or.inl (it_mem 3 118 rfl rfl), fun h => absurd h (by decide)⟩
theorem it_MT_374 : it_mwP (12, 23, 24, 0) := ⟨_, _, rfl, rfl, Or.inl (it_mem 3 121 rfl rfl), fun h => absurd h (by decide)⟩
theorem it_MT_375 : it_mwP (12, 27, 25, 0) := ⟨_, _, rfl, rfl, Or.inl (it_mem 3 124 rfl rfl), fun h => absurd h (by decide)⟩
theorem it_MT_376 : it_mwP (12, 31, 27, 0) := ⟨_, _, rfl, rfl, Or.inl (it_mem 3 127 rfl rfl), fun h => absurd h (by decide)⟩
theorem it_MT_377 : it_mwP (12, 35, 31, 0) := ⟨_, _, rfl, rfl, Or.inl (it_mem 3 133 rfl rfl), fun h => absurd h (by decide)⟩
theorem it_MT_378 : it_mwP (12, 38, 30, 0) := ⟨_, _, rfl, rfl, Or.inl (it_mem 3 137 rfl rfl), fun h => absurd h (by decide)⟩
theorem it_MT_379 : it_mwP (12, 41, 33, 0) := ⟨_, _, rfl, rfl, Or.inl (it_mem 3 140 rfl rfl), fun h => absurd h (by decide)⟩
theorem it_MT_380 : it_mwP (12, 44, 32, 0) := ⟨_, _, rfl, rfl, Or.inl (it_mem 3 146 rfl rfl), fun h => absurd h (by decide)⟩
theorem it_MT_381 : it_mwP (12, 48, 26, 0) := ⟨_, _, rfl, rfl, Or.inl (it_mem 3 143 rfl rfl), fun h => absurd h (by decide)⟩
theorem it_MT_382 : it_mwP (14, 13, 360, 0) := ⟨_, _, rfl, rfl, Or.inl (it_mem 0 35 rfl rfl), fun h => absurd h (by decide)⟩
theorem it_MT_383 : it_mwP (15, 9, 186, 0) := ⟨_, _, rfl, rfl, Or.inl (it_mem 0 19 rfl rfl), fun h => absurd h (by decide)⟩
theorem it_MT_384 : it_mwP (15, 12, 217, 0) := ⟨_, _, rfl, rfl, Or.inl (it_mem 5 188 rfl rfl), fun h => absurd h (by decide)⟩
theorem it_MT_385 : it_mwP (15, 13, 187, 0) := ⟨_, _, rfl, rfl, Or.inl (it_mem 2 1 rfl rfl), fun h => absurd h (by decide)⟩
theorem it_MT_386 : it_mwP (15, 17, 223, 0) := ⟨_, _, rfl, rfl, Or.inl (it_mem 6 173 rfl rfl), fun h => absurd h (by decide)⟩
theorem it_MT_387 : it_mwP (15, 18, 188, 0) := ⟨_, _, rfl, rfl, Or.inl (it_mem 2 9 rfl rfl), fun h => absurd h (by decide)⟩
theorem it_MT_388 : it_mwP (15, 22, 225, 0) := ⟨_, _, rfl, rfl, Or.inl (it_mem 6 181 rfl rfl), fun h => absurd h (by decide)⟩
theorem it_MT_389 : it_mwP (15, 23, 189, 0) := ⟨_, _, rfl, rfl, Or.inl (it_mem 2 13 rfl rfl), fun h => absurd h (by decide)⟩
theorem it_MT_390 : it_mwP (15, 26, 226, 0) := ⟨_, _, rfl, rfl, Or.inl (it_mem 6 185 rfl rfl), fun h => absurd h (by decide)⟩
theorem it_MT_391 : it_mwP (15, 27, 190, 0) := ⟨_, _, rfl, rfl, Or.inl (it_mem 2 25 rfl rfl), fun h => absurd h (by decide)⟩
theorem it_MT_392 : it_mwP (15, 31, 251, 0) := ⟨_, _, rfl, rfl, Or.inl (it_mem 6 239 rfl rfl), fun h => absurd h (by decide)⟩
theorem it_MT_393 : it_mwP (15, 32, 191, 0) := ⟨_, _, rfl, rfl, Or.inl (it_mem 2 196 rfl rfl), fun h => absurd h (by decide)⟩
theorem it_MT_394 : it_mwP (15, 36, 227, 0) := ⟨_, _, rfl, rfl, Or.inl (it_mem 6 189 rfl rfl), fun h => absurd h (by decide)⟩
theorem it_MT_395 : it_mwP (15, 37, 192, 0) := ⟨_, _, rfl, rfl, Or.inl (it_mem 2 200 rfl rfl), fun h => absurd h (by decide)⟩
theorem it_MT_396 : it_mwP (15, 40, 229, 0) := ⟨_, _, rfl, rfl, Or.inl (it_mem 6 197 rfl rfl), fun h => absurd h (by decide)⟩
theorem it_MT_397 : it_mwP (15, 41, 193, 0) := ⟨_, _, rfl, rfl, Or.inl (it_mem 2 204 rfl rfl), fun h => absurd h (by decide)⟩
theorem it_MT_398 : it_mwP (15, 44, 317, 0) := ⟨_, _, rfl, rfl, Or.inl (it_mem 7 100 rfl rfl), fun h => absurd h (by decide)⟩
theorem it_MT_399 : it_mwP (15, 45, 194, 0) := ⟨_, _, rfl, rfl, Or.inl (it_mem 5 41 rfl rfl), fun h => absurd h (by decide)⟩
theorem it_MT_400 : it_mwP (15, 49, 342, 0) := ⟨_, _, rfl, rfl, Or.inl (it_mem 8 198 rfl rfl), fun h => absurd h (by decide)⟩
theorem it_MT_401 : it_mwP (15, 50, 195, 0) := ⟨_, _, rfl, rfl, Or.inl (it_mem 5 49 rfl rfl), fun h => absurd h (by decide)⟩
theorem it_MT_402 : it_mwP (15, 53, 343, 0) := ⟨_, _, rfl, rfl, Or.inl (it_mem 8 202 rfl rfl), fun h => absurd h (by decide)⟩
theorem it_MT_403 : it_mwP (15, 54, 196, 0) := ⟨_, _, rfl, rfl, Or.inl (it_mem 5 57 rfl rfl), fun h => absurd h (by decide)⟩
theorem it_MT_404 : it_mwP (15, 58, 344, 0) := ⟨_, _, rfl, rfl, Or.inl (it_mem 8 206 rfl rfl), fun h => absurd h (by decide)⟩
theorem it_MT_405 : it_mwP (15, 59, 197, 0) := ⟨_, _, rfl, rfl, Or.inl (it_mem 5 61 rfl rfl), fun h => absurd h (by decide)⟩
theorem it_MT_406 : it_mwP (15, 62, 345, 0) := ⟨_, _, rfl, rfl, Or.inl (it_mem 8 210 rfl rfl), fun h => absurd h (by decide)⟩
theorem it_MT_407 : it_mwP (15, 63, 198, 0) := ⟨_, _, rfl, rfl, Or.inl (it_mem 5 66 rfl rfl), fun h => absurd h (by decide)⟩
theorem it_MT_408 : it_mwP (15, 66, 346, 0) := ⟨_, _, rfl, rfl, Or.inl (it_mem 8 214 rfl rfl), fun h => absurd h (by decide)⟩
theorem it_MT_409 : it_mwP (15, 67, 199, 0) := ⟨_, _, rfl, rfl, Or.inl (it_mem 5 71 rfl rfl), fun h => absurd h (by decide)⟩
theorem it_MT_410 : it_mwP (15, 70, 347, 0) := ⟨_, _, rfl, rfl, Or.inl (it_mem 8 218 rfl rfl), fun h => absurd h (by decide)⟩
theorem it_MT_411 : it_mwP (15, 71, 200, 0) := ⟨_, _, rfl, rfl, Or.inl (it_mem 5 75 rfl rfl), fun h => absurd h (by decide)⟩
theorem it_MT_412 : it_mwP (15, 74, 350, 0) := ⟨_, _, rfl, rfl, Or.inl (it_mem 8 222 rfl rfl), fun h => absurd h (by decide)⟩
theorem it_MT_413 : it_mwP (15, 75, 201, 0) := ⟨_, _, rfl, rfl, Or.inl (it_mem 5 87 rfl rfl), fun h => absurd h (by decide)⟩
theorem it_MT_414 : it_mwP (15, 78, 351, 0) := ⟨_, _, rfl, rfl, Or.inl (it_mem 8 234 rfl rfl), fun h => absurd h (by decide)⟩
theorem it_MT_415 : it_mwP (15, 79, 202, 0) := ⟨_, _, rfl, rfl, Or.inl (it_mem 5 91 rfl rfl), fun h => absurd h (by decide)⟩
theorem it_MT_416 : it_mwP (15, 82, 353, 0) := ⟨_, _, rfl, rfl, Or.inl (it_mem 8 238 rfl rfl), fun h => absurd h (by decide)⟩
theorem it_MT_417 : it_mwP (15, 83, 203, 0) := ⟨_, _, rfl, rfl, Or.inl (it_mem 5 102 rfl rfl), fun h => absurd h (by decide)⟩
theorem it_MT_418 : it_mwP (15, 87, 263, 0) := ⟨_, _, rfl, rfl, Or.inl (it_mem 7 89 rfl rfl), fun h => absurd h (by decide)⟩
theorem it_MT_419 : it_mwP (15, 88, 204, 0) := ⟨_, _, rfl, rfl, Or.inl (it_mem 5 119 rfl rfl), fun h => absurd h (by decide)⟩
theorem it_MT_420 : it_mwP (15, 91, 354, 0) := ⟨_, _, rfl, rfl, Or.inl (it_mem 9 6 rfl rfl), fun h => absurd h (by decide)⟩
theorem it_MT_421 : it_mwP (15, 92, 205, 0) := ⟨_, _, rfl, rfl, Or.inl (it_mem 5 123 rfl rfl), fun h => absurd h (by decide)⟩
theorem it_MT_422 : it_mwP (15, 95, 355, 0) := ⟨_, _, rfl, rfl, Or.inl (it_mem 9 10 rfl rfl), fun h => absurd h (by decide)⟩
theorem it_MT_423 : it_mwP (15, 96, 206, 0) := ⟨_, _, rfl, rfl, Or.inl (it_mem 5 127 rfl rfl), fun h => absurd h (by decide)⟩
theorem it_MT_424 : it_mwP (15, 99, 356, 0) := ⟨_, _, rfl, rfl, Or.inl (it_mem 9 14 rfl rfl), fun h => absurd h (by decide)⟩
theorem it_MT_425 : it_mwP (15, 100, 207, 0) := ⟨_, _, rfl, rfl, Or.inl (it_mem 5 135 rfl rfl), fun h => absurd h (by decide)⟩
theorem it_MT_426 : it_mwP (15, 103, 357, 0) := ⟨_, _, rfl, rfl, Or.inl (it_mem 9 18 rfl rfl), fun h => absurd h (by decide)⟩
theorem it_MT_427 : it_mwP (15, 104, 208, 0) := ⟨_, _, rfl, rfl, Or.inl (it_mem 5 139 rfl rfl), fun h => absurd h (by decide)⟩
theorem it_MT_428 : it_mwP (15, 107, 358, 0) := ⟨_, _, rfl, rfl, Or.inl (it_mem 9 22 rfl rfl), fun h => absurd h (by decide)⟩
theorem it_MT_429 : it_mwP (15, 108, 209, 0) := ⟨_, _, rfl, rfl, Or.inl (it_mem 5 147 rfl rfl), fun h => absurd h (by decide)⟩
theorem it_MT_430 : it_mwP (15, 111, 243, 0) := ⟨_, _, rfl, rfl, Or.inl (it_mem 6 201 rfl rfl), fun h => absurd h (by decide)⟩
theorem it_MT_431 : it_mwP (15, 112, 210, 0) := ⟨_, _, rfl, rfl, Or.inl (it_mem 5 156 rfl rfl), fun h => absurd h (by decide)⟩
theorem it_MT_432 : it_mwP (15, 115, 359, 0) := ⟨_, _, rfl, rfl, Or.inl (it_mem 9 26 rfl rfl), fun h => absurd h (by decide)⟩
set_option maxRecDepth 100000 in
theorem it_MT_ok : ∀ e ∈ it_MT, it_mwP e := List.forall_mem_cons.mpr ⟨it_MT_0, List.forall_mem_cons.mpr ⟨it_MT_1, List.forall_mem_cons.mpr ⟨it_MT_2, List.forall_mem_cons.mpr ⟨it_MT_3, List.forall_mem_cons.mpr ⟨it_MT_4, List.forall_mem_cons.mpr ⟨it_MT_5, List.forall_mem_cons.mpr ⟨it_MT_6, List.forall_mem_cons.mpr ⟨it_MT_7, List.forall_mem_cons.mpr ⟨it_MT_8, List.forall_mem_cons.mpr ⟨it_MT_9, List.forall_mem_cons.mpr ⟨it_MT_10, List.forall_mem_cons.mpr ⟨it_MT_11, List.forall_mem_cons.mpr ⟨it_MT_12, List.forall_mem_cons.mpr ⟨it_MT_13, List.forall_mem_cons.mpr ⟨it_MT_14, List.forall_mem_cons.mpr ⟨it_MT_15, List.forall_mem_cons.mpr ⟨it_MT_16, List.forall_mem_cons.mpr ⟨it_MT_17, List.forall_mem_cons.mpr ⟨it_MT_18, List.forall_mem_cons.mpr ⟨it_MT_19, List.forall_mem_cons.mpr ⟨it_MT_20, List.forall_mem_cons.mpr ⟨it_MT_21, List.forall_mem_cons.mpr ⟨it_MT_22, List.forall_mem_cons.mpr ⟨it_MT_23, List.forall_mem_cons.mpr ⟨it_MT_24, List.forall_mem_cons.mpr ⟨it_MT_25, List.forall_mem_cons.mpr ⟨it_MT_26, List.forall_mem_cons.mpr ⟨it_MT_27, List.forall_mem_cons.mpr ⟨it_MT_28, List.forall_mem_cons.mpr ⟨it_MT_29, List.forall_mem_cons.mpr ⟨it_MT_30, List.forall_mem_cons.mpr ⟨it_MT_31, List.forall_mem_cons.mpr ⟨it_MT_32, List.forall_mem_cons.mpr ⟨it_MT_33, List.forall_mem_cons.mpr ⟨it_MT_34, List.forall_mem_cons.mpr ⟨it_MT_35, List.forall_mem_cons.mpr ⟨it_MT_36, List.forall_mem_cons.mpr ⟨it_MT_37, List.forall_mem_cons.mpr ⟨it_MT_38, List.forall_mem_cons.mpr ⟨it_MT_39, List.forall_mem_cons.mpr ⟨it_MT_40, List.forall_mem_cons.mpr ⟨it_MT_41, List.forall_mem_cons.mpr ⟨it_MT_42, List.forall_mem_cons.mpr ⟨it_MT_43, List.forall_mem_cons.mpr ⟨it_MT_44, List.forall_mem_cons.mpr ⟨it_MT_45, List.forall_mem_cons.mpr ⟨it_MT_46, List.forall_mem_cons.mpr ⟨it_MT_47, List.forall_mem_cons.mpr ⟨it_MT_48, List.forall_mem_cons.mpr ⟨it_MT_49, List.forall_mem_cons.mpr ⟨it_MT_50, List.forall_mem_cons.mpr ⟨it_MT_51, List.forall_mem_cons.mpr ⟨it_MT_52, List.forall_mem_cons.mpr ⟨it_MT_53, List.forall_mem_cons.mpr ⟨it_MT_54, List.forall_mem_cons.mpr ⟨it_MT_55, List.forall_mem_cons.mpr ⟨it_MT_56, List.forall_mem_cons.mpr ⟨it_MT_57, List.forall_mem_cons.mpr ⟨it_MT_58, List.forall_mem_cons.mpr ⟨it_MT_59, List.forall_mem_cons.mpr ⟨it_MT_60, List.forall_mem_cons.mpr ⟨it_MT_61, List.forall_mem_cons.mpr ⟨it_MT_62, List.forall_mem_cons.mpr ⟨it_MT_63, List.forall_mem_cons.mpr ⟨it_MT_64, List.forall_mem_cons.mpr ⟨it_MT_65, List.forall_mem_cons.mpr ⟨it_MT_66, List.forall_mem_cons.mpr ⟨it_MT_67, List.forall_mem_cons.mpr ⟨it_MT_68, List.forall_mem_cons.mpr ⟨it_MT_69, List.forall_mem_cons.mpr ⟨it_MT_70, List.forall_mem_cons.mpr ⟨it_MT_71, List.forall_mem_cons.mpr ⟨it_MT_72, List.forall_mem_cons.mpr ⟨it_MT_73, List.forall_mem_cons.mpr ⟨it_MT_74, List.forall_mem_cons.mpr ⟨it_MT_75, List.forall_mem_cons.mpr ⟨it_MT_76, List.forall_mem_cons.mpr ⟨it_MT_77, List.forall_mem_cons.mpr ⟨it_MT_78, List.forall_mem_cons.mpr ⟨it_MT_79, List.forall_mem_cons.mpr ⟨it_MT_80, List.forall_mem_cons.mpr ⟨it_MT_81, List.forall_mem_cons.mpr ⟨it_MT_82, List.forall_mem_cons.mpr ⟨it_MT_83, List.forall_mem_cons.mpr ⟨it_MT_84, List.forall_mem_cons.mpr ⟨it_MT_85, List.forall_mem_cons.mpr ⟨it_MT_86, List.forall_mem_cons.mpr ⟨it_MT_87, List.forall_mem_cons.mpr ⟨it_MT_88, List.forall_mem_cons.mpr ⟨it_MT_89, List.forall_mem_cons.mpr ⟨it_MT_90, List.forall_mem_cons.mpr ⟨it_MT_91, List.forall_mem_cons.mpr ⟨it_MT_92, List.forall_mem_cons.mpr ⟨it_MT_93, List.forall_mem_cons.mpr ⟨it_MT_94, List.forall_mem_cons.mpr ⟨it_MT_95, List.forall_mem_cons.mpr ⟨it_MT_96, List.forall_mem_cons.mpr ⟨it_MT_97, List.forall_mem_cons.mpr ⟨it_MT_98, List.forall_mem_cons.mpr ⟨it_MT_99, List.forall_mem_cons.mpr ⟨it_MT_100, List.forall_mem_cons.mpr ⟨it_MT_101, List.forall_mem_cons.mpr ⟨it_MT_102, List.forall_mem_cons.mpr ⟨it_MT_103, List.forall_mem_cons.mpr ⟨it_MT_104, List.forall_mem_cons.mpr ⟨it_MT_105, List.forall_mem_cons.mpr ⟨it_MT_106, List.forall_mem_cons.mpr ⟨it_MT_107, List.forall_mem_cons.mpr ⟨it_MT_108, List.forall_mem_cons.mpr ⟨it_MT_109, List.forall_mem_cons.mpr ⟨it_MT_110, List.forall_mem_cons.mpr ⟨it_MT_111, List.forall_mem_cons.mpr ⟨it_MT_112, List.forall_mem_cons.mpr ⟨it_MT_113, List.forall_mem_cons.mpr ⟨it_MT_114, List.forall_mem_cons.mpr ⟨it_MT_115, List.forall_mem_cons.mpr ⟨it_MT_116, List.forall_mem_cons.mpr ⟨it_MT_117, List.forall_mem_cons.mpr ⟨it_MT_118, List.forall_mem_cons.mpr ⟨it_MT_119, List.forall_mem_cons.mpr ⟨it_MT_120, List.forall_mem_cons.mpr ⟨it_MT_121, List.forall_mem_cons.mpr ⟨it_MT_122, List.forall_mem_cons.mpr ⟨it_MT_123, List.forall_mem_cons.mpr ⟨it_MT_124, List.forall_mem_cons.mpr ⟨it_MT_125, List.forall_mem_cons.mpr ⟨it_MT_126, List.forall_mem_cons.mpr ⟨it_MT_127, List.forall_mem_cons.mpr ⟨it_MT_128, List.forall_mem_cons.mpr ⟨it_MT_129, List.forall_mem_cons.mpr ⟨it_MT_130, List.forall_mem_cons.mpr ⟨it_MT_131, List.forall_mem_cons.mpr ⟨it_MT_132, List.forall_mem_cons.mpr ⟨it_MT_133, List.forall_mem_cons.mpr ⟨it_MT_134, List.forall_mem_cons.mpr ⟨it_MT_135, List.forall_mem_cons.mpr ⟨it_MT_136, List.forall_mem_cons.mpr ⟨it_MT_137, List.forall_mem_cons.mpr ⟨it_MT_138, List.forall_mem_cons.mpr ⟨it_MT_139, List.forall_mem_cons.mpr ⟨it_MT_140, List.forall_mem_cons.mpr ⟨it_MT_141, List.forall_mem_cons.mpr ⟨it_MT_142, List.forall_mem_cons.mpr ⟨it_MT_143, List.forall_mem_cons.mpr ⟨it_MT_144, List.forall_mem_cons.mpr ⟨it_MT_145, List.forall_mem_cons.mpr ⟨it_MT_146, List.forall_mem_cons.mpr ⟨it_MT_147, List.forall_mem_cons.mpr ⟨it_MT_148, List.forall_mem_cons.mpr ⟨it_MT_149, List.forall_mem_cons.mpr ⟨it_MT_150, List.forall_mem_cons.mpr ⟨it_MT_151, List.forall_mem_cons.mpr ⟨it_MT_152, List.forall_mem_cons.mpr ⟨it_MT_153, List.forall_mem_cons.mpr ⟨it_MT_154, List.forall_mem_cons.mpr ⟨it_MT_155, List.forall_mem_cons.mpr ⟨it_MT_156, List.forall_mem_cons.mpr ⟨it_MT_157, List.forall_mem_cons.mpr ⟨it_MT_158, List.forall_mem_cons.mpr ⟨it_MT_159, List.forall_mem_cons.mpr ⟨it_MT_160, List.forall_mem_cons.mpr ⟨it_MT_161, List.forall_mem_cons.mpr ⟨it_MT_162, List.forall_mem_cons.mpr ⟨it_MT_163, List.forall_mem_cons.mpr ⟨it_MT_164, List.forall_mem_cons.mpr ⟨it_MT_165, List.forall_mem_cons.mpr ⟨it_MT_166, List.forall_mem_cons.mpr ⟨it_MT_167, List.forall_mem_cons.mpr ⟨it_MT_168, List.forall_mem_cons.mpr ⟨it_MT_169, List.forall_mem_cons.mpr ⟨it_MT_170, List.forall_mem_cons.mpr ⟨it_MT_171, List.forall_mem_cons.mpr ⟨it_MT_172, List.forall_mem_cons.mpr ⟨it_MT_173, List.forall_mem_cons.mpr ⟨it_MT_174, List.forall_mem_cons.mpr ⟨it_MT_175, List.forall_mem_cons.mpr ⟨it_MT_176, List.forall_mem_cons.mpr ⟨it_MT_177, List.forall_mem_cons.mpr ⟨it_MT_178, List.forall_mem_cons.mpr ⟨it_MT_179, List.forall_mem_cons.mpr ⟨it_MT_180, List.forall_mem_cons.mpr ⟨it_MT_181, List.forall_mem_cons.mpr ⟨it_MT_182, List.forall_mem_cons.mpr ⟨it_MT_183, List.forall_mem_cons.mpr ⟨it_MT_184, List.forall_mem_cons.mpr ⟨it_MT_185, List.forall_mem_cons.mpr ⟨it_MT_186, List.forall_mem_cons.mpr ⟨it_MT_187, List.forall_mem_cons.mpr ⟨it_MT_188, List.forall_mem_cons.mpr ⟨it_MT_189, List.forall_mem_cons.mpr ⟨it_MT_190, List.forall_mem_cons.mpr ⟨it_MT_191, List.forall_mem_cons.mpr ⟨it_MT_192, List.forall_mem_cons.mpr ⟨it_MT_193, List.forall_mem_cons.mpr ⟨it_MT_194, List.forall_mem_cons.mpr ⟨it_MT_195, List.forall_mem_cons.mpr ⟨it_MT_196, List.forall_mem_cons.mpr ⟨it_MT_197, List.forall_mem_cons.mpr ⟨it_MT_198, List.forall_mem_cons.mpr ⟨it_MT_199, List.forall_mem_cons.mpr ⟨it_MT_200, List.forall_mem_cons.mpr ⟨it_MT_201, List.forall_mem_cons.mpr ⟨it_MT_202, List.forall_mem_cons.mpr ⟨it_MT_203, List.forall_mem_cons.mpr ⟨it_MT_204, List.forall_mem_cons.mpr ⟨it_MT_205, List.forall_mem_cons.mpr ⟨it_MT_206, List.forall_mem_cons.mpr ⟨it_MT_207, List.forall_mem_cons.mpr ⟨it_MT_208, List.forall_mem_cons.mpr ⟨it_MT_209, List.forall_mem_cons.mpr ⟨it_MT_210, List.forall_mem_cons.mpr ⟨it_MT_211, List.forall_mem_cons.mpr ⟨it_MT_212, List.forall_mem_cons.mpr ⟨it_MT_213, List.forall_mem_cons.mpr ⟨it_MT_214, List.forall_mem_cons.mpr ⟨it_MT_215, List.forall_mem_cons.mpr ⟨it_MT_216, List.forall_mem_cons.mpr ⟨it_MT_217, List.forall_mem_cons.mpr ⟨it_MT_218, List.forall_mem_cons.mpr ⟨it_MT_219, List.forall_mem_cons.mpr ⟨it_MT_220, List.forall_mem_cons.mpr ⟨it_MT_221, List.forall_mem_cons.mpr ⟨it_MT_222, List.forall_mem_cons.mpr ⟨it_MT_223, List.forall_mem_cons.mpr ⟨it_MT_224, List.forall_mem_cons.mpr ⟨it_MT_225, List.forall_mem_cons.mpr ⟨it_MT_226, List.forall_mem_cons.mpr ⟨it_MT_227, List.forall_mem_cons.mpr ⟨it_MT_228, List.forall_mem_cons.mpr ⟨it_MT_229, List.forall_mem_cons.mpr ⟨it_MT_230, List.forall_mem_cons.mpr ⟨it_MT_231, List.forall_mem_cons.mpr ⟨it_MT_232, List.forall_mem_cons.mpr ⟨it_MT_233, List.forall_mem_cons.mpr ⟨it_MT_234, List.forall_mem_cons.mpr ⟨it_MT_235, List.forall_mem_cons.mpr ⟨it_MT_236, List.forall_mem_cons.mpr ⟨it_MT_237, List.forall_mem_cons.mpr ⟨it_MT_238, List.forall_mem_cons.mpr ⟨it_MT_239, List.forall_mem_cons.mpr ⟨it_MT_240, List.forall_mem_cons.mpr ⟨it_MT_241, List.forall_mem_cons.mpr ⟨it_MT_242, List.forall_mem_cons.mpr ⟨it_MT_243, List.forall_mem_cons.mpr ⟨it_MT_244, List.forall_mem_cons.mpr ⟨it_MT_245, List.forall_mem_cons.mpr ⟨it_MT_246, List.forall_mem_cons.mpr ⟨it_MT_247, List.forall_mem_cons.mpr ⟨it_MT_248, List.forall_mem_cons.mpr ⟨it_MT_249, List.forall_mem_cons.mpr ⟨it_MT_250, List.forall_mem_cons.mpr ⟨it_MT_251, List.forall_mem_cons.mpr ⟨it_MT_252, List.forall_mem_cons.mpr ⟨it_MT_253, List.forall_mem_cons.mpr ⟨it_MT_254, List.forall_mem_cons.mpr ⟨it_MT_255, List.forall_mem_cons.mpr ⟨it_MT_256, List.forall_mem_cons.mpr ⟨it_MT_257, List.forall_mem_cons.mpr ⟨it_MT_258, List.forall_mem_cons.mpr ⟨it_MT_259, List.forall_mem_cons.mpr ⟨it_MT_260, List.forall_mem_cons.mpr ⟨it_MT_261, List.forall_mem_cons.mpr ⟨it_MT_262, List.forall_mem_cons.mpr ⟨it_MT_263, List.forall_mem_cons.mpr ⟨it_MT_264, List.forall_mem_cons.mpr ⟨it_MT_265, List.forall_mem_cons.mpr ⟨it_MT_266, List.forall_mem_cons.mpr ⟨it_MT_267, List.forall_mem_cons.mpr ⟨it_MT_268, List.forall_mem_cons.mpr ⟨it_MT_269, List.forall_mem_cons.mpr ⟨it_MT_270, List.forall_mem_cons.mpr ⟨it_MT_271, List.forall_mem_cons.mpr ⟨it_MT_272, List.forall_mem_cons.mpr ⟨it_MT_273, List.forall_mem_cons.mpr ⟨it_MT_274, List.forall_mem_cons.mpr ⟨it_MT_275, List.forall_mem_cons.mpr ⟨it_MT_276, List.forall_mem_cons.mpr ⟨it_MT_277, List.forall_mem_cons.mpr ⟨it_MT_278, List.forall_mem_cons.mpr ⟨it_MT_279, List.forall_mem_cons.mpr ⟨it_MT_280, List.forall_mem_cons.mpr ⟨it_MT_281, List.forall_mem_cons.mpr ⟨it_MT_282, List.forall_mem_cons.mpr ⟨it_MT_283, List.forall_mem_cons.mpr ⟨it_MT_284, List.forall_mem_cons.mpr ⟨it_MT_285, List.forall_mem_cons.mpr ⟨it_MT_286, List.forall_mem_cons.mpr ⟨it_MT_287, List.forall_mem_cons.mpr ⟨it_MT_288, List.forall_mem_cons.mpr ⟨it_MT_289, List.forall_mem_cons.mpr ⟨it_MT_290, List.forall_mem_cons.mpr ⟨it_MT_291, List.forall_mem_cons.mpr ⟨it_MT_292, List.forall_mem_cons.mpr ⟨it_MT_293, List.forall_mem_cons.mpr ⟨it_MT_294, List.forall_mem_cons.mpr ⟨it_MT_295, List.forall_mem_cons.mpr ⟨it_MT_296, List.forall_mem_cons.mpr ⟨it_MT_297, List.forall_mem_cons.mpr ⟨it_MT_298, List.forall_mem_cons.mpr ⟨it_MT_299, List.forall_mem_cons.mpr ⟨it_MT_300, List.forall_mem_cons.mpr ⟨it_MT_301, List.forall_mem_cons.mpr ⟨it_MT_302, List.forall_mem_cons.mpr ⟨it_MT_303, List.forall_mem_cons.mpr ⟨it_MT_304, List.forall_mem_cons.mpr ⟨it_MT_305, List.forall_mem_cons.mpr ⟨it_MT_306, List.forall_mem_cons.mpr ⟨it_MT_307, List.forall_mem_cons.mpr ⟨it_MT_308, List.forall_mem_cons.mpr ⟨it_MT_309, List.forall_mem_cons.mpr ⟨it_MT_310, List.forall_mem_cons.mpr ⟨it_MT_311, List.forall_mem_cons.mpr ⟨it_MT_312, List.forall_mem_cons.mpr ⟨it_MT_313, List.forall_mem_cons.mpr ⟨it_MT_314, List.forall_mem_cons.mpr ⟨it_MT_315, List.forall_mem_cons.mpr ⟨it_MT_316, List.forall_mem_cons.mpr ⟨it_MT_317, List.forall_mem_cons.mpr ⟨it_MT_318, List.forall_mem_cons.mpr ⟨it_MT_319, List.forall_mem_cons.mpr ⟨it_MT_320, List.forall_mem_cons.mpr ⟨it_MT_321, List.forall_mem_cons.mpr ⟨it_MT_322, List.forall_mem_cons.mpr ⟨it_MT_323, List.forall_mem_cons.mpr ⟨it_MT_324, List.forall_mem_cons.mpr ⟨it_MT_325, List.forall_mem_cons.mpr ⟨it_MT_326, List.forall_mem_cons.mpr ⟨it_MT_327, List.forall_mem_cons.mpr ⟨it_MT_328, List.forall_mem_cons.mpr ⟨it_MT_329, List.forall_mem_cons.mpr ⟨it_MT_330, List.forall_mem_cons.mpr ⟨it_MT_331, List.forall_mem_cons.mpr ⟨it_MT_332, List.forall_mem_cons.mpr ⟨it_MT_333, List.forall_mem_cons.mpr ⟨it_MT_334, List.forall_mem_cons.mpr ⟨it_MT_335, List.forall_mem_cons.mpr ⟨it_MT_336, List.forall_mem_cons.mpr ⟨it_MT_337, List.forall_mem_cons.mpr ⟨it_MT_338, List.forall_mem_cons.mpr ⟨it_MT_339, List.forall_mem_cons.mpr ⟨it_MT_340, List.forall_mem_cons.mpr ⟨it_MT_341, List.forall_mem_cons.mpr ⟨it_MT_342, List.forall_mem_cons.mpr ⟨it_MT_343, List.forall_mem_cons.mpr ⟨it_MT_344, List.forall_mem_cons.mpr ⟨it_MT_345, List.forall_mem_cons.mpr ⟨it_MT_346, List.forall_mem_cons.mpr ⟨it_MT_347, List.forall_mem_cons.mpr ⟨it_MT_348, List.forall_mem_cons.mpr ⟨it_MT_349, List.forall_mem_cons.mpr ⟨it_MT_350, List.forall_mem_cons.mpr ⟨it_MT_351, List.forall_mem_cons.mpr ⟨it_MT_352, List.forall_mem_cons.mpr ⟨it_MT_353, List.forall_mem_cons.mpr ⟨it_MT_354, List.forall_mem_cons.mpr ⟨it_MT_355, List.forall_mem_cons.mpr ⟨it_MT_356, List.forall_mem_cons.mpr ⟨it_MT_357, List.forall_mem_cons.mpr ⟨it_MT_358, List.forall_mem_cons.mpr ⟨it_MT_359, List.forall_mem_cons.mpr ⟨it_MT_360, List.forall_mem_cons.mpr ⟨it_MT_361, List.forall_mem_cons.mpr ⟨it_MT_362, List.forall_mem_cons.mpr ⟨it_MT_363, List.forall_mem_cons.mpr ⟨it_MT_364, List.forall_mem_cons.mpr ⟨it_MT_365, List.forall_mem_cons.mpr ⟨it_MT_366, List.forall_mem_cons.mpr ⟨it_MT_367, List.forall_mem_cons.mpr ⟨it_MT_368, List.forall_mem_cons.mpr ⟨it_MT_369, List.forall_mem_cons.mpr ⟨it_MT_370, List.forall_mem_cons.mpr ⟨it_MT_371, List.forall_mem_cons.mpr ⟨it_MT_372, List.forall_mem_cons.mpr ⟨it_MT_373, List.forall_mem_cons.mpr ⟨it_MT_374, List.forall_mem_cons.mpr ⟨it_MT_375, List.forall_mem_cons.mpr ⟨it_MT_376, List.forall_mem_cons.mpr ⟨it_MT_377, List.forall_mem_cons.mpr ⟨it_MT_378, List.forall_mem_cons.mpr ⟨it_MT_379, List.forall_mem_cons.mpr ⟨it_MT_380, List.forall_mem_cons.mpr ⟨it_MT_381, List.forall_mem_cons.mpr ⟨it_MT_382, List.forall_mem_cons.mpr ⟨it_MT_383, List.forall_mem_cons.mpr ⟨it_MT_384, List.forall_mem_cons.mpr ⟨it_MT_385, List.forall_mem_cons.mpr ⟨it_MT_386, List.forall_mem_cons.mpr ⟨it_MT_387, List.forall_mem_cons.mpr ⟨it_MT_388, List.forall_mem_cons.mpr ⟨it_MT_389, List.forall_mem_cons.mpr ⟨it_MT_390, List.forall_mem_cons.mpr ⟨it_MT_391, List.forall_mem_cons.mpr ⟨it_MT_392, List.forall_mem_cons.mpr ⟨it_MT_393, List.forall_mem_cons.mpr ⟨it_MT_394, List.forall_mem_cons.mpr ⟨it_MT_395, List.forall_mem_cons.mpr ⟨it_MT_396, List.forall_mem_cons.mpr ⟨it_MT_397, List.forall_mem_cons.mpr ⟨it_MT_398, List.forall_mem_cons.mpr ⟨it_MT_399, List.forall_mem_cons.mpr ⟨it_MT_400, List.forall_mem_cons.mpr ⟨it_MT_401, List.forall_mem_cons.mpr ⟨it_MT_402, List.forall_mem_cons.mpr ⟨it_MT_403, List.forall_mem_cons.mpr ⟨it_MT_404, List.forall_mem_cons.mpr ⟨it_MT_405, List.forall_mem_cons.mpr ⟨it_MT_406, List.forall_mem_cons.mpr ⟨it_MT_407, List.forall_mem_cons.mpr ⟨it_MT_408, List.forall_mem_cons.mpr ⟨it_MT_409, List.forall_mem_cons.mpr ⟨it_MT_410, List.forall_mem_cons.mpr ⟨it_MT_411, List.forall_mem_cons.mpr ⟨it_MT_412, List.forall_mem_cons.mpr ⟨it_MT_413, List.forall_mem_cons.mpr ⟨it_MT_414, List.forall_mem_cons.mpr ⟨it_MT_415, List.forall_mem_cons.mpr ⟨it_MT_416, List.forall_mem_cons.mpr ⟨it_MT_417, List.forall_mem_cons.mpr ⟨it_MT_418, List.forall_mem_cons.mpr ⟨it_MT_419, List.forall_mem_cons.mpr ⟨it_MT_420, List.forall_mem_cons.mpr ⟨it_MT_421, List.forall_mem_cons.mpr ⟨it_MT_422, List.forall_mem_cons.mpr ⟨it_MT_423, List.forall_mem_cons.mpr ⟨it_MT_424, List.forall_mem_cons.mpr ⟨it_MT_425, List.forall_mem_cons.mpr ⟨it_MT_426, List.forall_mem_cons.mpr ⟨it_MT_427, List.forall_mem_cons.mpr ⟨it_MT_428, List.forall_mem_cons.mpr ⟨it_MT_429, List.forall_mem_cons.mpr ⟨it_MT_430, List.forall_mem_cons.mpr ⟨it_MT_431, List.forall_mem_cons.mpr ⟨it_MT_432, fun _ h => absurd h List.not_mem_nil⟩⟩⟩⟩⟩⟩⟩⟩⟩⟩⟩⟩⟩⟩⟩⟩⟩⟩⟩⟩⟩⟩⟩⟩⟩⟩⟩⟩⟩⟩⟩⟩⟩⟩⟩⟩⟩⟩⟩⟩⟩⟩⟩⟩⟩⟩⟩⟩⟩⟩⟩⟩⟩⟩⟩⟩⟩⟩⟩⟩⟩⟩⟩⟩⟩⟩⟩⟩⟩⟩⟩⟩⟩⟩⟩⟩⟩⟩⟩⟩⟩⟩⟩⟩⟩⟩⟩⟩⟩⟩⟩⟩⟩⟩⟩⟩⟩⟩⟩⟩⟩⟩⟩⟩⟩⟩⟩⟩⟩⟩⟩⟩⟩⟩⟩⟩⟩⟩⟩⟩⟩⟩⟩⟩⟩⟩⟩⟩⟩⟩⟩⟩⟩⟩⟩⟩⟩⟩⟩⟩⟩⟩⟩⟩⟩⟩⟩⟩⟩⟩⟩⟩⟩⟩⟩⟩⟩⟩⟩⟩⟩⟩⟩⟩⟩⟩⟩⟩⟩⟩⟩⟩⟩⟩⟩⟩⟩⟩⟩⟩⟩⟩⟩⟩⟩⟩⟩⟩⟩⟩⟩⟩⟩⟩⟩⟩⟩⟩⟩⟩⟩⟩⟩⟩⟩⟩⟩⟩⟩⟩⟩⟩⟩⟩⟩⟩⟩⟩⟩⟩⟩⟩⟩⟩⟩⟩⟩⟩⟩⟩⟩⟩⟩⟩⟩⟩⟩⟩⟩⟩⟩⟩⟩⟩⟩⟩⟩⟩⟩⟩⟩⟩⟩⟩⟩⟩⟩⟩⟩⟩⟩⟩⟩⟩⟩⟩⟩⟩⟩⟩⟩⟩⟩⟩⟩⟩⟩⟩⟩⟩⟩⟩⟩⟩⟩⟩⟩⟩⟩⟩⟩⟩⟩⟩⟩⟩⟩⟩⟩⟩⟩⟩⟩⟩⟩⟩⟩⟩⟩⟩⟩⟩⟩⟩⟩⟩⟩⟩⟩⟩⟩⟩⟩⟩⟩⟩⟩⟩⟩⟩⟩⟩⟩⟩⟩⟩⟩⟩⟩⟩⟩⟩⟩⟩⟩⟩⟩⟩⟩⟩⟩⟩⟩⟩⟩⟩⟩⟩⟩⟩⟩⟩⟩⟩⟩⟩⟩⟩⟩⟩⟩⟩⟩⟩⟩⟩⟩⟩⟩⟩⟩⟩⟩⟩⟩⟩⟩⟩⟩⟩⟩⟩⟩⟩⟩⟩⟩⟩⟩⟩⟩⟩⟩⟩⟩⟩⟩⟩⟩⟩⟩⟩⟩⟩⟩⟩⟩⟩⟩⟩⟩⟩⟩⟩⟩⟩⟩⟩⟩⟩⟩⟩⟩
def it_kd : List Nat := [2, 1, 1, 1, 1, 1, 1, 1, 1, 1, 1, 2, 1, 1, 1, 1, 1, 1, 1, 1, 1, 1, 0, 0, 0, 0, 0, 0, 0, 0, 0, 0, 0, 0, 0, 2, 1, 1, 1, 1, 1, 1, 1, 1, 1, 1, 1, 1, 1, 1, 1, 1, 1, 1, 1, 1, 1, 1, 1, 1, 1, 1, 1, 1, 1, 1, 1, 1, 2, 1, 1, 2, 1, 1, 1, 1, 1, 1, 1, 1, 1, 1, 1, 1, 1, 1, 0, 1, 1, 1, 1, 1, 1, 1, 1, 1, 1, 1, 1, 1, 1, 1, 1, 2, 1, 1, 1, 0, 0, 0, 0, 0, 0, 1, 1, 1, 1, 1, 1, 0, 0, 1, 1, 0, 1, 1, 2, 1, 1, 1, 1, 1, 1, 1, 1, 1, 1, 1, 1, 1, 1, 1, 1, 1, 1, 2, 1, 1, 1, 1, 1, 1, 1, 1, 1, 1, 2, 1, 1, 1, 1, 1, 0, 1, 1, 1, 1, 1, 1, 1, 1, 2, 1, 0, 1, 1, 1, 1, 1, 1, 1, 0, 0, 1, 1, 1, 2, 1, 1, 1, 1, 1, 1, 1, 1, 1, 1, 1, 1, 1, 1, 1, 1, 1, 1, 1, 1, 1, 1, 1, 1, 1, 1, 0, 0, 0, 0, 2, 1, 1, 1, 1, 1, 1, 1, 1, 1, 1, 1, 1, 1, 1, 1, 1, 1, 1, 1, 1, 1, 1, 1, 1, 1, 1, 1, 1, 1, 1, 1, 1, 1, 1, 1, 1, 1, 1, 1, 1, 1, 1, 1, 1, 0, 1, 0, 0, 0, 0, 0, 0, 0, 0, 1, 1, 1, 1, 1, 1, 1, 1, 1, 1, 1, 1, 1, 1, 1, 0, 1, 1, 1, 1, 1, 1, 1, 1, 1, 0, 1, 1, 1, 1, 1, 1, 1, 1, 1, 1, 1, 1, 1, 1, 1, 1, 1, 1, 1, 1, 1, 1, 1, 1, 1, 1, 1, 1, 1, 1, 1, 1, 1, 1, 1, 0, 1, 0, 1, 1, 1, 1, 1, 1, 1, 1, 1, 1, 1, 1, 1, 1, 1, 1, 1, 1, 1, 1, 1, 1, 1, 1, 0, 0, 0, 3]
def it_isRef : FieldType → Bool
  | .object _ => true
  | .array _ => true
  | _ => false
theorem it_isRef_or {t : FieldType} (h : it_isRef t = true) : (∃ n, t = .object n) ∨ ∃ u, t = .array u := by
  cases t with
  | object n => exact Or.inl ⟨n, rfl⟩
  | array u => exact Or.inr ⟨u, rfl⟩
  | _ => cases h
def it_fok (a : Nat) (T : u_T) (ty : Nat → FieldType) (k : Nat) : Bool := decide ((T k).2.2.2 = it_flag it_ff a k) && ((decide (it_fkd a k = some none) && decide (ty k = (if it_flag it_fz a k = true then .boolean else .int))) || (decide (it_fkd a k = some (some none)) && it_isRef (ty k)))
theorem it_fok_spec {a : Nat} {T : u_T} {ty : Nat → FieldType} {k : Nat} (h : it_fok a T ty k = true) : (T k).2.2.2 = it_flag it_ff a k ∧ ((it_fkd a k = some none ∧ ty k = (if it_flag it_fz a k = true then .boolean else .int)) ∨ (it_fkd a k = some (some none) ∧ ((∃ n, ty k = .object n) ∨ ∃ t, ty k = .array t))) := by
  simp only [it_fok, Bool.and_eq_true, Bool.or_eq_true, decide_eq_true_eq] at h
  exact ⟨h.1, h.2.imp (fun q => q) (fun q => ⟨q.1, it_isRef_or q.2⟩)⟩
/-- a class, as it_Ck wants it -/
def it_Ck1 (a : Nat) (q : vw_C) : Prop := it_cn[a]? = some q.1 ∧ (∀ w ∈ u_ws q.1 q.2.1 q.2.2, w ∈ it_tb) ∧ (∃ fs, it_fk[a]? = some fs ∧ fs.length = q.2.2) ∧ ∃ ty : Nat → FieldType, (∀ k, k < q.2.2 → parseFieldDescriptor (q.2.1 k).2.2.1 = some (ty k)) ∧ (∀ i, i < q.2.2 → ∀ j, j < q.2.2 → i ≠ j → (q.2.1 i).2.1 ≠ (q.2.1 j).2.1) ∧
  ∀ k, k < q.2.2 → (q.2.1 k).2.2.2 = it_flag it_ff a k ∧ ((it_fkd a k = some none ∧ ty k = (if it_flag it_fz a k = true then .boolean else .int)) ∨ (it_fkd a k = some (some none) ∧ ((∃ n, ty k = .object n) ∨ ∃ t, ty k = .array t)))
theorem it_cw0 : ∀ w ∈ u_ws RX0 TX0 15, w ∈ it_tb := List.forall_mem_cons.mpr ⟨(it_mem 0 152 rfl rfl), List.forall_mem_cons.mpr ⟨(it_mem 0 154 rfl rfl), List.forall_mem_cons.mpr ⟨(it_mem 0 156 rfl rfl), List.forall_mem_cons.mpr ⟨(it_mem 0 158 rfl rfl), List.forall_mem_cons.mpr ⟨(it_mem 0 160 rfl rfl), List.forall_mem_cons.mpr ⟨(it_mem 0 162 rfl rfl), List.forall_mem_cons.mpr ⟨(it_mem 0 164 rfl rfl), List.forall_mem_cons.mpr ⟨(it_mem 0 166 rfl rfl), List.forall_mem_cons.mpr ⟨(it_mem 0 168 rfl rfl), List.forall_mem_cons.mpr ⟨(it_mem 0 170 rfl rfl), List.forall_mem_cons.mpr ⟨(it_mem 0 172 rfl rfl), List.forall_mem_cons.mpr ⟨(it_mem 0 174 rfl rfl), List.forall_mem_cons.mpr ⟨(it_mem 0 176 rfl rfl), List.forall_mem_cons.mpr ⟨(it_mem 0 178 rfl rfl), List.forall_mem_cons.mpr ⟨(it_mem 0 180 rfl rfl), fun _ h => absurd h List.not_mem_nil⟩⟩⟩⟩⟩⟩⟩⟩⟩⟩⟩⟩⟩⟩⟩
set_option maxRecDepth 100000 in
theorem it_ck0 : it_Ck1 0 (RX0, TX0, 15) := ⟨rfl, it_cw0, ⟨_, rfl, rfl⟩, tyX0, tyX0_ok, nmX0, fun k h => it_fok_spec ((by decide +kernel : ∀ k, k < 15 → it_fok 0 TX0 tyX0 k = true) k h)⟩
theorem it_cw1 : ∀ w ∈ u_ws RX1 TX1 2, w ∈ it_tb := List.forall_mem_cons.mpr ⟨(it_mem 0 41 rfl rfl), List.forall_mem_cons.mpr ⟨(it_mem 0 43 rfl rfl), fun _ h => absurd h List.not_mem_nil⟩⟩
set_option maxRecDepth 100000 in
theorem it_ck1 : it_Ck1 1 (RX1, TX1, 2) := ⟨rfl, it_cw1, ⟨_, rfl, rfl⟩, tyX1, tyX1_ok, nmX1, fun k h => it_fok_spec ((by decide +kernel : ∀ k, k < 2 → it_fok 1 TX1 tyX1 k = true) k h)⟩
theorem it_cw2 : ∀ w ∈ u_ws RX3 TX3 13, w ∈ it_tb := List.forall_mem_cons.mpr ⟨(it_mem 1 163 rfl rfl), List.forall_mem_cons.mpr ⟨(it_mem 1 165 rfl rfl), List.forall_mem_cons.mpr ⟨(it_mem 1 167 rfl rfl), List.forall_mem_cons.mpr ⟨(it_mem 1 169 rfl rfl), List.forall_mem_cons.mpr ⟨(it_mem 1 171 rfl rfl), List.forall_mem_cons.mpr ⟨(it_mem 1 173 rfl rfl), List.forall_mem_cons.mpr ⟨(it_mem 1 175 rfl rfl), List.forall_mem_cons.mpr ⟨(it_mem 1 177 rfl rfl), List.forall_mem_cons.mpr ⟨(it_mem 1 179 rfl rfl), List.forall_mem_cons.mpr ⟨(it_mem 1 181 rfl rfl), List.forall_mem_cons.mpr ⟨(it_mem 1 183 rfl rfl), List.forall_mem_cons.mpr ⟨(it_mem 1 185 rfl rfl), List.forall_mem_cons.mpr ⟨(it_mem 1 187 rfl rfl), fun _ h => absurd h List.not_mem_nil⟩⟩⟩⟩⟩⟩⟩⟩⟩⟩⟩⟩⟩
set_option maxRecDepth 100000 in
theorem it_ck2 : it_Ck1 2 (RX3, TX3, 13) := ⟨rfl, it_cw2, ⟨_, rfl, rfl⟩, tyX3, tyX3_ok, nmX3, fun k h => it_fok_spec ((by decide +kernel : ∀ k, k < 13 → it_fok 2 TX3 tyX3 k = true) k h)⟩
theorem it_cw3 : ∀ w ∈ u_ws RX4 TX4 5, w ∈ it_tb := List.forall_mem_cons.mpr ⟨(it_mem 0 64 rfl rfl), List.forall_mem_cons.mpr ⟨(it_mem 0 66 rfl rfl), List.forall_mem_cons.mpr ⟨(it_mem 0 68 rfl rfl), List.forall_mem_cons.mpr ⟨(it_mem 0 70 rfl rfl), List.forall_mem_cons.mpr ⟨(it_mem 0 72 rfl rfl), fun _ h => absurd h List.not_mem_nil⟩⟩⟩⟩⟩
set_option maxRecDepth 100000 in
theorem it_ck3 : it_Ck1 3 (RX4, TX4, 5) := ⟨rfl, it_cw3, ⟨_, rfl, rfl⟩, tyX4, tyX4_ok, nmX4, fun k h => it_fok_spec ((by decide +kernel : ∀ k, k < 5 → it_fok 3 TX4 tyX4 k = true) k h)⟩
theorem it_cw4 : ∀ w ∈ u_ws RX5 TX5 9, w ∈ it_tb := List.forall_mem_cons.mpr ⟨(it_mem 1 66 rfl rfl), List.forall_mem_cons.mpr ⟨(it_mem 1 68 rfl rfl), List.forall_mem_cons.mpr ⟨(it_mem 1 70 rfl rfl), List.forall_mem_cons.mpr ⟨(it_mem 1 72 rfl rfl), List.forall_mem_cons.mpr ⟨(it_mem 1 74 rfl rfl), List.forall_mem_cons.mpr ⟨(it_mem 1 76 rfl rfl), List.forall_mem_cons.mpr ⟨(it_mem 1 78 rfl rfl), List.forall_mem_cons.mpr ⟨(it_mem 1 80 rfl rfl), List.forall_mem_cons.mpr ⟨(it_mem 1 82 rfl rfl), fun _ h => absurd h List.not_mem_nil⟩⟩⟩⟩⟩⟩⟩⟩⟩
set_option maxRecDepth 100000 in
theorem it_ck4 : it_Ck1 4 (RX5, TX5, 9) := ⟨rfl, it_cw4, ⟨_, rfl, rfl⟩, tyX5, tyX5_ok, nmX5, fun k h => it_fok_spec ((by decide +kernel : ∀ k, k < 9 → it_fok 4 TX5 tyX5 k = true) k h)⟩
theorem it_cw5 : ∀ w ∈ u_ws RX6 TX6 3, w ∈ it_tb := List.forall_mem_cons.mpr ⟨(it_mem 1 135 rfl rfl), List.forall_mem_cons.mpr ⟨(it_mem 1 137 rfl rfl), List.forall_mem_cons.mpr ⟨(it_mem 1 139 rfl rfl), fun _ h => absurd h List.not_mem_nil⟩⟩⟩
set_option maxRecDepth 100000 in
theorem it_ck5 : it_Ck1 5 (RX6, TX6, 3) := ⟨rfl, it_cw5, ⟨_, rfl, rfl⟩, tyX6, tyX6_ok, nmX6, fun k h => it_fok_spec ((by decide +kernel : ∀ k, k < 3 → it_fok 5 TX6 tyX6 k = true) k h)⟩
theorem it_cw6 : ∀ w ∈ u_ws RX7 TX7 19, w ∈ it_tb := List.forall_mem_cons.mpr ⟨(it_mem 1 9 rfl rfl), List.forall_mem_cons.mpr ⟨(it_mem 1 11 rfl rfl), List.forall_mem_cons.mpr ⟨(it_mem 1 13 rfl rfl), List.forall_mem_cons.mpr ⟨(it_mem 1 15 rfl rfl), List.forall_mem_cons.mpr ⟨(it_mem 1 17 rfl rfl), List.forall_mem_cons.mpr ⟨(it_mem 1 19 rfl rfl), List.forall_mem_cons.mpr ⟨(it_mem 1 21 rfl rfl), List.forall_mem_cons.mpr ⟨(it_mem 1 23 rfl rfl), List.forall_mem_cons.mpr ⟨(it_mem 1 25 rfl rfl), List.forall_mem_cons.mpr ⟨(it_mem 1 27 rfl rfl), List.forall_mem_cons.mpr ⟨(it_mem 1 29 rfl rfl), List.forall_mem_cons.mpr ⟨(it_mem 1 31 rfl rfl), List.forall_mem_cons.mpr ⟨(it_mem 1 33 rfl rfl), List.forall_mem_cons.mpr ⟨(it_mem 1 35 rfl rfl), List.forall_mem_cons.mpr ⟨(it_mem 1 37 rfl rfl), List.forall_mem_cons.mpr ⟨(it_mem 1 39 rfl rfl), List.forall_mem_cons.mpr ⟨(it_mem 1 41 rfl rfl), List.forall_mem_cons.mpr ⟨(it_mem 1 43 rfl rfl), List.forall_mem_cons.mpr ⟨(it_mem 1 45 rfl rfl), fun _ h => absurd h List.not_mem_nil⟩⟩⟩⟩⟩⟩⟩⟩⟩⟩⟩⟩⟩⟩⟩⟩⟩⟩⟩
set_option maxRecDepth 100000 in
theorem it_ck6 : it_Ck1 6 (RX7, TX7, 19) := ⟨rfl, it_cw6, ⟨_, rfl, rfl⟩, tyX7, tyX7_ok, nmX7, fun k h => it_fok_spec ((by decide +kernel : ∀ k, k < 19 → it_fok 6 TX7 tyX7 k = true) k h)⟩
theorem it_cw7 : ∀ w ∈ u_ws RX8 TX8 10, w ∈ it_tb := List.forall_mem_cons.mpr ⟨(it_mem 1 103 rfl rfl), List.forall_mem_cons.mpr ⟨(it_mem 1 105 rfl rfl), List.forall_mem_cons.mpr ⟨(it_mem 1 107 rfl rfl), List.forall_mem_cons.mpr ⟨(it_mem 1 109 rfl rfl), List.forall_mem_cons.mpr ⟨(it_mem 1 111 rfl rfl), List.forall_mem_cons.mpr ⟨(it_mem 1 113 rfl rfl), List.forall_mem_cons.mpr ⟨(it_mem 1 115 rfl rfl), List.forall_mem_cons.mpr ⟨(it_mem 1 117 rfl rfl), List.forall_mem_cons.mpr ⟨(it_mem 1 119 rfl rfl), List.forall_mem_cons.mpr ⟨(it_mem 1 121 rfl rfl), fun _ h => absurd h List.not_mem_nil⟩⟩⟩⟩⟩⟩⟩⟩⟩⟩
set_option maxRecDepth 100000 in
theorem it_ck7 : it_Ck1 7 (RX8, TX8, 10) := ⟨rfl, it_cw7, ⟨_, rfl, rfl⟩, tyX8, tyX8_ok, nmX8, fun k h => it_fok_spec ((by decide +kernel : ∀ k, k < 10 → it_fok 7 TX8 tyX8 k = true) k h)⟩
theorem it_cw8 : ∀ w ∈ u_ws RX9 TX9 8, w ∈ it_tb := List.forall_mem_cons.mpr ⟨(it_mem 0 92 rfl rfl), List.forall_mem_cons.mpr ⟨(it_mem 0 94 rfl rfl), List.forall_mem_cons.mpr ⟨(it_mem 0 96 rfl rfl), List.forall_mem_cons.mpr ⟨(it_mem 0 98 rfl rfl), List.forall_mem_cons.mpr ⟨(it_mem 0 100 rfl rfl), List.forall_mem_cons.mpr ⟨(it_mem 0 102 rfl rfl), List.forall_mem_cons.mpr ⟨(it_mem 0 104 rfl rfl), List.forall_mem_cons.mpr ⟨(it_mem 0 106 rfl rfl), fun _ h => absurd h List.not_mem_nil⟩⟩⟩⟩⟩⟩⟩⟩
set_option maxRecDepth 100000 in
theorem it_ck8 : it_Ck1 8 (RX9, TX9, 8) := ⟨rfl, it_cw8, ⟨_, rfl, rfl⟩, tyX9, tyX9_ok, nmX9, fun k h => it_fok_spec ((by decide +kernel : ∀ k, k < 8 → it_fok 8 TX9 tyX9 k = true) k h)⟩
theorem it_cw9 : ∀ w ∈ u_ws RX10 TX10 3, w ∈ it_tb := List.forall_mem_cons.mpr ⟨(it_mem 1 200 rfl rfl), List.forall_mem_cons.mpr ⟨(it_mem 1 202 rfl rfl), List.forall_mem_cons.mpr ⟨(it_mem 1 204 rfl rfl), fun _ h => absurd h List.not_mem_nil⟩⟩⟩
set_option maxRecDepth 100000 in
theorem it_ck9 : it_Ck1 9 (RX10, TX10, 3) := ⟨rfl, it_cw9, ⟨_, rfl, rfl⟩, tyX10, tyX10_ok, nmX10, fun k h => it_fok_spec ((by decide +kernel : ∀ k, k < 3 → it_fok 9 TX10 tyX10 k = true) k h)⟩
theorem it_cw10 : ∀ w ∈ u_ws RX11 TX11 11, w ∈ it_tb := List.forall_mem_cons.mpr ⟨(it_mem 1 218 rfl rfl), List.forall_mem_cons.mpr ⟨(it_mem 1 220 rfl rfl), List.forall_mem_cons.mpr ⟨(it_mem 1 222 rfl rfl), List.forall_mem_cons.mpr ⟨(it_mem 1 224 rfl rfl), List.forall_mem_cons.mpr ⟨(it_mem 1 226 rfl rfl), List.forall_mem_cons.mpr ⟨(it_mem 1 228 rfl rfl), List.forall_mem_cons.mpr ⟨(it_mem 1 230 rfl rfl), List.forall_mem_cons.mpr ⟨(it_mem 1 232 rfl rfl), List.forall_mem_cons.mpr ⟨(it_mem 1 234 rfl rfl), List.forall_mem_cons.mpr ⟨(it_mem 1 236 rfl rfl), List.forall_mem_cons.mpr ⟨(it_mem 1 238 rfl rfl), fun _ h => absurd h List.not_mem_nil⟩⟩⟩⟩⟩⟩⟩⟩⟩⟩⟩
set_option maxRecDepth 100000 in
theorem it_ck10 : it_Ck1 10 (RX11, TX11, 11) := ⟨rfl, it_cw10, ⟨_, rfl, rfl⟩, tyX11, tyX11_ok, nmX11, fun k h => it_fok_spec ((by decide +kernel : ∀ k, k < 11 → it_fok 10 TX11 tyX11 k = true) k h)⟩
theorem it_cw11 : ∀ w ∈ u_ws RX12 TX12 72, w ∈ it_tb := List.forall_mem_cons.mpr ⟨(it_mem 6 27 rfl rfl), List.forall_mem_cons.mpr ⟨(it_mem 6 29 rfl rfl), List.forall_mem_cons.mpr ⟨(it_mem 6 31 rfl rfl), List.forall_mem_cons.mpr ⟨(it_mem 6 33 rfl rfl), List.forall_mem_cons.mpr ⟨(it_mem 6 35 rfl rfl), List.forall_mem_cons.mpr ⟨(it_mem 6 37 rfl rfl), List.forall_mem_cons.mpr ⟨(it_mem 6 39 rfl rfl), List.forall_mem_cons.mpr ⟨(it_mem 6 41 rfl rfl), List.forall_mem_cons.mpr ⟨(it_mem 6 43 rfl rfl), List.forall_mem_cons.mpr ⟨(it_mem 6 45 rfl rfl), List.forall_mem_cons.mpr ⟨(it_mem 6 47 rfl rfl), List.forall_mem_cons.mpr ⟨(it_mem 6 49 rfl rfl), List.forall_mem_cons.mpr ⟨(it_mem 6 51 rfl rfl), List.forall_mem_cons.mpr ⟨(it_mem 6 53 rfl rfl), List.forall_mem_cons.mpr ⟨(it_mem 6 55 rfl rfl), List.forall_mem_cons.mpr ⟨(it_mem 6 57 rfl rfl), List.forall_mem_cons.mpr ⟨(it_mem 6 59 rfl rfl), List.forall_mem_cons.mpr ⟨(it_mem 6 61 rfl rfl), List.forall_mem_cons.mpr ⟨(it_mem 6 63 rfl rfl), List.forall_mem_cons.mpr ⟨(it_mem 6 65 rfl rfl), List.forall_mem_cons.mpr ⟨(it_mem 6 67 rfl rfl), List.forall_mem_cons.mpr ⟨(it_mem 6 69 rfl rfl), List.forall_mem_cons.mpr ⟨(it_mem 6 71 rfl rfl), List.forall_mem_cons.mpr ⟨(it_mem 6 73 rfl rfl), List.forall_mem_cons.mpr ⟨(it_mem 6 75 rfl rfl), List.forall_mem_cons.mpr ⟨(it_mem 6 77 rfl rfl), List.forall_mem_cons.mpr ⟨(it_mem 6 79 rfl rfl), List.forall_mem_cons.mpr ⟨(it_mem 6 81 rfl rfl), List.forall_mem_cons.mpr ⟨(it_mem 6 83 rfl rfl), List.forall_mem_cons.mpr ⟨(it_mem 6 85 rfl rfl), List.forall_mem_cons.mpr ⟨(it_mem 6 87 rfl rfl), List.forall_mem_cons.mpr ⟨(it_mem 6 89 rfl rfl), List.forall_mem_cons.mpr ⟨(it_mem 6 91 rfl rfl), List.forall_mem_cons.mpr ⟨(it_mem 6 93 rfl rfl), List.forall_mem_cons.mpr ⟨(it_mem 6 95 rfl rfl), List.forall_mem_cons.mpr ⟨(it_mem 6 97 rfl rfl), List.forall_mem_cons.mpr ⟨(it_mem 6 99 rfl rfl), List.forall_mem_cons.mpr ⟨(it_mem 6 101 rfl rfl), List.forall_mem_cons.mpr ⟨(it_mem 6 103 rfl rfl), List.forall_mem_cons.mpr ⟨(it_mem 6 105 rfl rfl), List.forall_mem_cons.mpr ⟨(it_mem 6 107 rfl rfl), List.forall_mem_cons.mpr ⟨(it_mem 6 109 rfl rfl), List.forall_mem_cons.mpr ⟨(it_mem 6 111 rfl rfl), List.forall_mem_cons.mpr ⟨(it_mem 6 113 rfl rfl), List.forall_mem_cons.mpr ⟨(it_mem 6 115 rfl rfl), List.forall_mem_cons.mpr ⟨(it_mem 6 117 rfl rfl), List.forall_mem_cons.mpr ⟨(it_mem 6 119 rfl rfl), List.forall_mem_cons.mpr ⟨(it_mem 6 121 rfl rfl), List.forall_mem_cons.mpr ⟨(it_mem 6 123 rfl rfl), List.forall_mem_cons.mpr ⟨(it_mem 6 125 rfl rfl), List.forall_mem_cons.mpr ⟨(it_mem 6 127 rfl rfl), List.forall_mem_cons.mpr ⟨(it_mem 6 129 rfl rfl), List.forall_mem_cons.mpr ⟨(it_mem 6 131 rfl rfl), List.forall_mem_cons.mpr ⟨(it_mem 6 133 rfl rfl), List.forall_mem_cons.mpr ⟨(it_mem 6 135 rfl rfl), List.forall_mem_cons.mpr ⟨(it_mem 6 137 rfl rfl), List.forall_mem_cons.mpr ⟨(it_mem 6 139 rfl rfl), List.forall_mem_cons.mpr ⟨(it_mem 6 141 rfl rfl), List.forall_mem_cons.mpr ⟨(it_mem 6 143 rfl rfl), List.forall_mem_cons.mpr ⟨(it_mem 6 145 rfl rfl), List.forall_mem_cons.mpr ⟨(it_mem 6 147 rfl rfl), List.forall_mem_cons.mpr ⟨(it_mem 6 149 rfl rfl), List.forall_mem_cons.mpr ⟨(it_mem 6 151 rfl rfl), List.forall_mem_cons.mpr ⟨(it_mem 6 153 rfl rfl), List.forall_mem_cons.mpr ⟨(it_mem 6 155 rfl rfl), List.forall_mem_cons.mpr ⟨(it_mem 6 157 rfl rfl), List.forall_mem_cons.mpr ⟨(it_mem 6 159 rfl rfl), List.forall_mem_cons.mpr ⟨(it_mem 6 161 rfl rfl), List.forall_mem_cons.mpr ⟨(it_mem 6 163 rfl rfl), List.forall_mem_cons.mpr ⟨(it_mem 6 165 rfl rfl), List.forall_mem_cons.mpr ⟨(it_mem 6 167 rfl rfl), List.forall_mem_cons.mpr ⟨(it_mem 6 169 rfl rfl), fun _ h => absurd h List.not_mem_nil⟩⟩⟩⟩⟩⟩⟩⟩⟩⟩⟩⟩⟩⟩⟩⟩⟩⟩⟩⟩⟩⟩⟩⟩⟩⟩⟩⟩⟩⟩⟩⟩⟩⟩⟩⟩⟩⟩⟩⟩⟩⟩⟩⟩⟩⟩⟩⟩⟩⟩⟩⟩⟩⟩⟩⟩⟩⟩⟩⟩⟩⟩⟩⟩⟩⟩⟩⟩⟩⟩⟩⟩
set_option maxRecDepth 100000 in
theorem it_ck11 : it_Ck1 11 (RX12, TX12, 72) := ⟨rfl, it_cw11, ⟨_, rfl, rfl⟩, tyX12, tyX12_ok, nmX12, fun k h => it_fok_spec ((by decide +kernel : ∀ k, k < 72 → it_fok 11 TX12 tyX12 k = true) k h)⟩
theorem it_Ck_ok : it_Ck := by
  intro a q h
  match a, h with
  | 0, h => cases h; exact it_ck0
  | 1, h => cases h; exact it_ck1
  | 2, h => cases h; exact it_ck2
  | 3, h => cases h; exact it_ck3
  | 4, h => cases h; exact it_ck4
  | 5, h => cases h; exact it_ck5
  | 6, h => cases h; exact it_ck6
  | 7, h => cases h; exact it_ck7
  | 8, h => cases h; exact it_ck8
  | 9, h => cases h; exact it_ck9
  | 10, h => cases h; exact it_ck10
  | 11, h => cases h; exact it_ck11
  | n + 12, h => simp [it_cl] at h
theorem it_w_arrI : Cond.arrayClass .int ∈ it_tb := (it_mem 0 46 rfl rfl)
theorem it_w_arrB : Cond.arrayClass .byte ∈ it_tb := (it_mem 1 190 rfl rfl)
theorem it_w_arrZ : Cond.arrayClass .boolean ∈ it_tb := (it_mem 6 172 rfl rfl)
theorem it_w_over : Cond.arrayOver (.object "GrantBoard$Process") ∈ it_tb := (it_mem 0 116 rfl rfl)
theorem it_w_obj : Cond.instanceMethod Lib.objectInit ∈ it_tb ∧ Cond.code Lib.objectInit ⟨#[0xb1]⟩ 1 none ∈ it_tb := ⟨(it_mem 0 23 rfl rfl), (it_mem 0 24 rfl rfl)⟩
theorem it_w_max : Cond.static Lib.Math.max.name ∈ it_tb ∧ Cond.initialized "java/lang/Math" ∈ it_tb ∧ Cond.code Lib.Math.max.name Lib.Math.max.code 2 (some .int) ∈ it_tb := ⟨(it_mem 3 97 rfl rfl), (it_mem 0 14 rfl rfl), (it_mem 3 98 rfl rfl)⟩
theorem it_w_min : Cond.static Lib.Math.min.name ∈ it_tb ∧ Cond.initialized "java/lang/Math" ∈ it_tb ∧ Cond.code Lib.Math.min.name Lib.Math.min.code 2 (some .int) ∈ it_tb := ⟨(it_mem 3 90 rfl rfl), (it_mem 0 14 rfl rfl), (it_mem 3 91 rfl rfl)⟩
theorem it_w_cpy : Cond.native arraycopyName ∈ it_tb ∧ Cond.static arraycopyName ∈ it_tb ∧ Cond.initialized "java/lang/System" ∈ it_tb := ⟨(it_mem 4 31 rfl rfl), (it_mem 4 30 rfl rfl), (it_mem 0 16 rfl rfl)⟩
