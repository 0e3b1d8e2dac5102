/-! Links of an instruction (words of the tables), and groups 0 to 3 as steps of the machine. -/
/-- words that stay while classes are resolved -/
def it_over : Cond → Bool
  | .arrayOver (.object _) => true
  | _ => false
def it_nest : Cond → Bool
  | .fieldLinkNest _ _ _ _ _ _ => true
  | .methodLinkNest _ _ _ _ => true
  | _ => false
def it_keep (w : Cond) : Bool := goodWord w || (it_nest w || it_over w)
def it_tb : List Cond := lw_tbl.filter it_keep
def it_swok (pc : Nat) (d : Int) : List (Int × Int) → Prop
  | [] => 0 ≤ (pc : Int) + d
  | (k, o) :: r => (Int32.ofInt k).toInt = k ∧ 0 ≤ (pc : Int) + o ∧ it_swok pc d r
def it_ml (own : String) (i : Nat) (y : MethodName) : Prop := Cond.methodLink own i y ∈ it_tb ∨ Cond.methodLinkNest own i y "GrantBoard" ∈ it_tb
/-- what an instruction needs of the tables, and where it goes -/
def it_Lk (own : String) (pc : Nat) (ins : Instr) (a b : Nat) : Prop := match ins with
  | .ldc i => Cond.constant own i (Int32.ofNat b) ∈ it_tb
  | .ldc_w i => Cond.constant own i (Int32.ofNat b) ∈ it_tb
  | .ldc2_w i => Cond.constantLong own i (Int64.ofNat b) ∈ it_tb
  | .goto o => (pc : Int) + o = (a : Int)
  | .ifCond _ o => (pc : Int) + o = (a : Int)
  | .if_icmp _ o => (pc : Int) + o = (a : Int)
  | .ifnull o => (pc : Int) + o = (a : Int)
  | .ifnonnull o => (pc : Int) + o = (a : Int)
  | .if_acmp _ o => (pc : Int) + o = (a : Int)
  | .tableswitch d lo hi offs => hi + 1 = lo + (offs.size : Int) ∧ it_swok pc d (it_pairs lo offs.toList)
  | .lookupswitch d ps => (ps.toList.zip (ps.toList.drop 1)).all (fun (a, next) => a.1 < next.1) = true ∧ it_swok pc d ps.toList
  | .getfield i => ∃ q, it_cl[a]? = some q ∧ b < q.2.2 ∧ (q.2.1 b).1 = q.1 ∧ Cond.fieldLink own i q.1 (q.2.1 b).2.1 (q.2.1 b).2.2.1 ∈ it_tb
  | .putfield i => ∃ q, it_cl[a]? = some q ∧ b < q.2.2 ∧ (q.2.1 b).1 = q.1 ∧ Cond.fieldLink own i q.1 (q.2.1 b).2.1 (q.2.1 b).2.2.1 ∈ it_tb
  | .getstatic i => ∃ z, it_st[a]? = some z ∧ (Cond.fieldLink own i z.1 z.2.1 z.2.2 ∈ it_tb ∨ Cond.fieldLinkNest own i z.1 z.2.1 z.2.2 "GrantBoard" ∈ it_tb)
  | .new i => ∃ q, it_cl[a]? = some q ∧ Cond.classLink own i q.1 ∈ it_tb ∧ Cond.instantiable q.1 q.2.2 ∈ it_tb ∧ Cond.initialized q.1 ∈ it_tb
  | .newarray t => Cond.arrayClass (newarray.typeOf t) ∈ it_tb
  | .anewarray i => Cond.classLink own i "GrantBoard$Process" ∈ it_tb ∧ Cond.arrayOver (.object "GrantBoard$Process") ∈ it_tb
  | .invokespecial i => if a = 9998 then Cond.methodLink own i Lib.objectInit ∈ it_tb ∧ Cond.instanceMethod Lib.objectInit ∈ it_tb ∧ Cond.code Lib.objectInit ⟨#[0xb1]⟩ 1 none ∈ it_tb
      else ∀ M, it_mt[a]? = some M → M.1.2.name = "<init>" ∧ M.2.1.2.2 = none ∧ it_ml own i M.1.2 ∧ Cond.instanceMethod M.1.2 ∈ it_tb
  | .invokestatic i => if a = 9999 then Cond.methodLink own i arraycopyName ∈ it_tb ∧ Cond.native arraycopyName ∈ it_tb ∧ Cond.static arraycopyName ∈ it_tb ∧ Cond.initialized "java/lang/System" ∈ it_tb
      else if a = 9996 then Cond.methodLink own i Lib.Math.max.name ∈ it_tb ∧ Cond.static Lib.Math.max.name ∈ it_tb ∧ Cond.initialized "java/lang/Math" ∈ it_tb ∧ Cond.code Lib.Math.max.name Lib.Math.max.code 2 (some .int) ∈ it_tb
      else if a = 9997 then Cond.methodLink own i Lib.Math.min.name ∈ it_tb ∧ Cond.static Lib.Math.min.name ∈ it_tb ∧ Cond.initialized "java/lang/Math" ∈ it_tb ∧ Cond.code Lib.Math.min.name Lib.Math.min.code 2 (some .int) ∈ it_tb
      else ∀ M, it_mt[a]? = some M → it_ml own i M.1.2 ∧ Cond.static M.1.2 ∈ it_tb
  | .invokevirtual i => ∀ M, it_mt[a]? = some M → it_ml own i M.1.2 ∧ Cond.instanceMethod M.1.2 ∈ it_tb ∧ Cond.selects M.1.2.cls M.1.2 M.1.2 ∈ it_tb ∧ ∃ q, it_cl[M.1.1]? = some q ∧ q.1 = M.1.2.cls
  | _ => True
section ITS
variable {p : Program} {l : Launch} {e : Env} {R : Room} {s : State} {m : MethodId} {args : Array Value} {below : List Frame} {meth : Method} {c : Code} {H : Heap} {locs : List Loc} {cells slots : Nat} {Q : State → Prop}
variable {cc : ByteArray} {pc : Nat} {lsA : Array Slot} {ad : Nat → Nat} {own : String}
set_option maxHeartbeats 4000000 in
theorem it_opsW (hx : p.tables.exec = Jvm.exec) (hb : c.code = cc) (hown : s.vm.findClass own = some m.cls) (hts : ∀ w ∈ it_tb, w.before args s = true) {ins : Instr} {a b : Nat} {st st1 : List Value} (hd : decode cc pc = .ok (ins, it_len ins)) (hl : it_Lk own pc ins a b) (h : it_ops ins b st = some st1)
    (k : W p l e R s m args below meth c H locs cells slots Q (F0 m (pc + it_len ins) lsA (st1.map (it_cv ad)))) : W p l e R s m args below meth c H locs cells slots Q (F0 m pc lsA (st.map (it_cv ad))) := by
  unfold it_ops at h
  split at h
  · cases h; exact lv_iconst hx hb hd rfl k
  · cases h; exact lv_bipush hx hb hd rfl k
  · cases h; exact lv_sipush hx hb hd rfl k
  · cases h; exact lv_lconst hx hb hd rfl k
  · cases h; exact lv_ldc hx hb hown (hts _ hl) hd k
  · cases h; exact lv_ldcw hx hb hown (hts _ hl) hd k
  · cases h; exact lv_ldc2 hx hb hown (hts _ hl) hd k
  · cases h; exact lv_null hx hb hd k
  · cases h; exact lv_iadd hx hb hd k
  · cases h; exact lv_isub hx hb hd k
  · cases h; exact lv_imul hx hb hd k
  · cases h; exact lv_iand hx hb hd k
  · cases h; exact lv_ior hx hb hd k
  · cases h; exact lv_ixor hx hb hd k
  · split at h
    · cases h
    · rename_i hne; cases h; exact lv_idiv hx hb hd hne k
  · split at h
    · cases h
    · rename_i hne; cases h; exact lv_irem hx hb hd hne k
  · cases h; exact lv_ineg hx hb hd k
  · cases h; exact lv_ladd hx hb hd k
  · cases h; exact lv_lmul hx hb hd k
  · cases h; exact lv_land hx hb hd k
  · split at h
    · cases h
    · rename_i hne; cases h; exact lv_ldiv hx hb hd hne k
  · split at h
    · cases h
    · rename_i hne; cases h; exact lv_lrem hx hb hd hne k
  · cases h; exact lv_ishl hx hb hd k
  · cases h; exact lv_ishr hx hb hd k
  · cases h; exact lv_iushr hx hb hd rfl k
  · cases h; exact lv_lshr hx hb hd rfl k
  · cases h; exact lv_lushr hx hb hd rfl k
  · cases h; exact lv_i2l hx hb hd rfl k
  · cases h; exact lv_l2i hx hb hd rfl k
  · cases h; exact lv_i2b hx hb hd rfl k
  · cases h; exact lv_i2s hx hb hd rfl k
  · cases h; exact W.lcmp hx hb hd k
  · split at h
    · rename_i hc; cases h; exact lv_dup hx hb hd (by rw [it_cv_cat]; exact hc) k
    · cases h
  · split at h
    · rename_i hc; cases h; exact lv_dup2_11 hx hb hd (by rw [it_cv_cat]; exact hc.1) (by rw [it_cv_cat]; exact hc.2) k
    · cases h
  · cases h
set_option maxHeartbeats 4000000 in
theorem it_locW (hx : p.tables.exec = Jvm.exec) (hb : c.code = cc) {ins : Instr} {ls ls1 : it_Ls} {nL : Nat} {st st1 : List Value} (hd : decode cc pc = .ok (ins, it_len ins)) (hL : it_Lo lsA nL ad ls) (h : it_loc ins ls st = some (ls1, st1))
    (k : ∀ lsB : Array Slot, it_Lo lsB nL ad ls1 → W p l e R s m args below meth c H locs cells slots Q (F0 m (pc + it_len ins) lsB (st1.map (it_cv ad)))) : W p l e R s m args below meth c H locs cells slots Q (F0 m pc lsA (st.map (it_cv ad))) := by
  have hlen := hL.1
  unfold it_loc at h
  split at h
  · unfold it_ldi at h
    split at h
    · rename_i x hw; cases h; exact lv_iload_n hx hb hd rfl (hL.get hw) (k lsA hL)
    · cases h
  · unfold it_ldi at h
    split at h
    · rename_i x hw; cases h; exact lv_iload hx hb hd (hL.get hw) (k lsA hL)
    · cases h
  · unfold it_ldl at h
    split at h
    · rename_i x hw; cases h; exact lv_lload_n hx hb hd rfl (hL.get hw) (k lsA hL)
    · cases h
  · unfold it_ldl at h
    split at h
    · rename_i x hw; cases h; exact lv_lload hx hb hd (hL.get hw) (k lsA hL)
    · cases h
  · unfold it_lda at h
    split at h
    · rename_i x hw; cases h; exact lv_aload_n hx hb hd rfl (hL.get hw) (k lsA hL)
    · rename_i hw; cases h; exact lv_aload_nN hx hb hd rfl (hL.get hw) (k lsA hL)
    · cases h
  · unfold it_lda at h
    split at h
    · rename_i x hw; cases h; exact lv_aload hx hb hd (hL.get hw) (k lsA hL)
    · rename_i hw; cases h; exact lv_aloadN hx hb hd (hL.get hw) (k lsA hL)
    · cases h
  · split at h
    · rename_i hi; cases h; exact lv_istore_n hx hb hd rfl hL.2 (hlen ▸ hi) rfl (fun lsB hB => k lsB (it_Lo.of1 hlen hB))
    · cases h
  · split at h
    · rename_i hi; cases h; exact lv_istore hx hb hd hL.2 (hlen ▸ hi) rfl (fun lsB hB => k lsB (it_Lo.of1 hlen hB))
    · cases h
  · split at h
    · rename_i hi; cases h; exact lv_lstore_n hx hb hd rfl hL.2 (hlen ▸ hi) rfl (fun lsB hB => k lsB (it_Lo.of2 hlen hB))
    · cases h
  · split at h
    · rename_i hi; cases h; exact lv_lstore hx hb hd hL.2 (hlen ▸ hi) rfl (fun lsB hB => k lsB (it_Lo.of2 hlen hB))
    · cases h
  · split at h
    · rename_i hi; cases h; exact lv_astore_n hx hb hd rfl hL.2 (hlen ▸ hi) rfl (fun lsB hB => k lsB (it_Lo.of1 (v := .ref _) hlen hB))
    · cases h
  · split at h
    · rename_i hi; cases h; exact lv_astore hx hb hd hL.2 (hlen ▸ hi) rfl (fun lsB hB => k lsB (it_Lo.of1 (v := .ref _) hlen hB))
    · cases h
  · split at h
    · rename_i hi; cases h; exact lv_astore_nN hx hb hd rfl hL.2 (hlen ▸ hi) rfl (fun lsB hB => k lsB (it_Lo.of1 (v := .null) hlen hB))
    · cases h
  · split at h
    · rename_i hi; cases h; exact lv_astoreN hx hb hd hL.2 (hlen ▸ hi) rfl (fun lsB hB => k lsB (it_Lo.of1 (v := .null) hlen hB))
    · cases h
  · split at h
    · rename_i x hw
      cases h
      obtain ⟨kk, hk⟩ := List.getElem?_of_mem (it_al_mem (ad := ad).mpr ⟨_, hw, rfl⟩)
      exact lv_iinc hx hb hd hL.2 (k := kk) hk rfl (by rw [← hlen]; exact (List.getElem?_eq_some_iff.mp hw).1) rfl (fun lsB hB => k lsB (it_Lo.of1 (v := .int _) hlen hB))
    · cases h
  · cases h
theorem it_sw_look {x : Int32} {d : Int} : ∀ {ps : List (Int × Int)}, it_swok pc d ps → (pc : Int) + Op.lookupswitch.offset ps d x.toInt = (it_sw pc d ps x : Int)
  | [], h => by
    rw [Op.lookupswitch.offset_nil, it_sw]
    simp only [it_swok] at h
    omega
  | (k, o) :: r, h => by
    obtain ⟨h1, h2, h3⟩ := h
    rw [Op.lookupswitch.offset_cons, it_sw]
    by_cases q : x = Int32.ofInt k
    · rw [if_pos q, if_pos (by rw [q, h1])]
      omega
    · rw [if_neg q, if_neg (fun z => q (Int32.toInt_inj.mp (by rw [h1]; exact z.symm)))]
      exact it_sw_look h3
theorem it_sw_tab {x : Int32} {d : Int} : ∀ {lo : Int} {offs : List Int}, it_swok pc d (it_pairs lo offs) → (∀ (i : Nat) (o : Int), offs[i]? = some o → x.toInt = lo + (i : Int) → (pc : Int) + o = (it_sw pc d (it_pairs lo offs) x : Int)) ∧ (x.toInt < lo ∨ lo + offs.length ≤ x.toInt → (pc : Int) + d = (it_sw pc d (it_pairs lo offs) x : Int))
  | lo, [], h => by
    refine ⟨fun i o hi => by simp at hi, fun _ => ?_⟩
    simp only [it_pairs, it_swok, it_sw] at h ⊢
    omega
  | lo, o :: r, h => by
    obtain ⟨h1, h2, h3⟩ := h
    obtain ⟨g1, g2⟩ := it_sw_tab (x := x) h3
    have key : x = Int32.ofInt lo ↔ x.toInt = lo := ⟨fun q => by rw [q, h1], fun q => Int32.toInt_inj.mp (by rw [h1]; exact q)⟩
    simp only [it_pairs, it_sw]
    refine ⟨fun i o' hi hx => ?_, fun hx => ?_⟩
    · cases i with
      | zero =>
        rw [if_pos (key.mpr (by simpa using hx))]
        simp at hi
        subst hi
        omega
      | succ i =>
        rw [if_neg (fun q => by have := key.mp q; omega)]
        exact g1 i o' (by simpa using hi) (by omega)
    · rw [if_neg (fun q => by have := key.mp q; simp at hx; omega)]
      exact g2 (by simp at hx; omega)
set_option maxHeartbeats 4000000 in
theorem it_brW (hx : p.tables.exec = Jvm.exec) (hb : c.code = cc) {ins : Instr} {a b n len : Nat} {st st1 : List Value} {pc1 : Nat} (hd : decode cc pc = .ok (ins, len)) (hlen : it_len ins = 0 ∨ len = it_len ins) (hl : it_Lk own pc ins a b) (hinj : ∀ i j, i < n → j < n → ad i = ad j → i = j) (h : it_br pc a n ins st = some (pc1, st1))
    (k : W p l e R s m args below meth c H locs cells slots Q (F0 m pc1 lsA (st1.map (it_cv ad)))) : W p l e R s m args below meth c H locs cells slots Q (F0 m pc lsA (st.map (it_cv ad))) := by
  have h3 : it_len ins = 3 → decode cc pc = .ok (ins, 3) := fun q => by
    rcases hlen with h0 | h0
    · omega
    · rw [hd, h0, q]
  have h0 := fun (q : it_len ins = 0) => hd
  unfold it_br at h
  split at h
  · cases h; exact lv_goto hx hb (h3 rfl) hl k
  · cases h; exact lv_if_eq hx hb (h3 rfl) hl (fun q => by rw [if_pos q] at k; exact k) (fun q => by rw [if_neg q] at k; exact k)
  · cases h; exact lv_if_ne hx hb (h3 rfl) hl (fun q => by rw [if_neg q] at k; exact k) (fun q => by rw [if_pos q] at k; exact k)
  · cases h; exact lv_if_lt hx hb (h3 rfl) hl (fun q => by rw [if_pos q] at k; exact k) (fun q => by rw [if_neg q] at k; exact k)
  · cases h; exact lv_if_ge hx hb (h3 rfl) hl (fun q => by rw [if_pos q] at k; exact k) (fun q => by rw [if_neg q] at k; exact k)
  · cases h; exact lv_if_gt hx hb (h3 rfl) hl (fun q => by rw [if_pos q] at k; exact k) (fun q => by rw [if_neg q] at k; exact k)
  · cases h; exact lv_if_le hx hb (h3 rfl) hl (fun q => by rw [if_pos q] at k; exact k) (fun q => by rw [if_neg q] at k; exact k)
  · cases h; exact lv_icmp_eq hx hb (h3 rfl) hl (fun q => by rw [if_pos q] at k; exact k) (fun q => by rw [if_neg q] at k; exact k)
  · cases h; exact lv_icmp_ne hx hb (h3 rfl) hl (fun q => by rw [if_neg q] at k; exact k) (fun q => by rw [if_pos q] at k; exact k)
  · cases h; exact lv_icmp_lt hx hb (h3 rfl) hl (fun q => by rw [if_pos q] at k; exact k) (fun q => by rw [if_neg q] at k; exact k)
  · cases h; exact lv_icmp_ge hx hb (h3 rfl) hl (fun q => by rw [if_pos q] at k; exact k) (fun q => by rw [if_neg q] at k; exact k)
  · cases h; exact lv_icmp_gt hx hb (h3 rfl) hl (fun q => by rw [if_pos q] at k; exact k) (fun q => by rw [if_neg q] at k; exact k)
  · cases h; exact lv_icmp_le hx hb (h3 rfl) hl (fun q => by rw [if_pos q] at k; exact k) (fun q => by rw [if_neg q] at k; exact k)
  · cases h; exact lv_ifnullN hx hb (h3 rfl) hl k
  · cases h; exact lv_ifnull hx hb (h3 rfl) k
  · cases h; exact lv_ifnonnullN hx hb (h3 rfl) k
  · cases h; exact lv_ifnonnull hx hb (h3 rfl) hl k
  · rename_i y x st2
    split at h
    · rename_i hn
      cases h
      exact lv_acmp_ne (rx := some (ad x)) (ry := some (ad y)) hx hb (h3 rfl) hl (fun q => by rw [if_neg (fun z => q (by rw [z]))] at k; exact k) (fun q => by rw [if_pos (hinj x y hn.1 hn.2 (Option.some.inj q))] at k; exact k)
    · cases h
  · rename_i d lo hi offs x st2
    cases h
    obtain ⟨g1, g2⟩ := it_sw_tab (x := x) hl.2
    by_cases q1 : x.toInt < lo
    · exact lv_tableOut hx hb hd (Or.inl q1) (g2 (Or.inl q1)) k
    · by_cases q2 : hi < x.toInt
      · exact lv_tableOut hx hb hd (Or.inr q2) (g2 (Or.inr (by have := hl.1; simp; omega))) k
      · have hi' : (x.toInt - lo).toNat < offs.size := by have := hl.1; omega
        have ho : offs[(x.toInt - lo).toNat]? = some offs[(x.toInt - lo).toNat] := Array.getElem?_eq_some_iff.mpr ⟨hi', rfl⟩
        exact lv_tableIn hx hb hd q1 q2 ho (g1 _ _ (by rw [Array.getElem?_toList]; exact ho) (by omega)) k
  · cases h
    exact lv_lookup hx hb hd hl.1 rfl (it_sw_look hl.2) k
  · cases h
theorem it_mthW (hx : p.tables.exec = Jvm.exec) (hb : c.code = cc) (hml : c.maxLocals = lsA.size) (hown : s.vm.findClass own = some m.cls) (hts : ∀ w ∈ it_tb, w.before args s = true) {ins : Instr} {fr lo a b : Nat} (hfr : fr ≤ R.frames) (hlo : lo ≤ R.locals) (hc : cells ≤ R.cells) (hs : slots ≤ R.slots) {st st1 : List Value} (hd : decode cc pc = .ok (ins, it_len ins)) (hl : it_Lk own pc ins a b) (h : it_mth fr lo a ins st = some st1)
    (k : W p l e R s m args below meth c H locs cells slots Q (F0 m (pc + it_len ins) lsA (st1.map (it_cv ad)))) : W p l e R s m args below meth c H locs cells slots Q (F0 m pc lsA (st.map (it_cv ad))) := by
  have sum : ∀ l : List Value, ((l.map (it_cv ad)).map fun v => v.category).sum = (l.map fun v => v.category).sum := fun l => by
    rw [List.map_map]
    congr 2
    funext v
    exact it_cv_cat _ v
  unfold it_mth at h
  split at h
  · rename_i i y x st2
    split at h
    · rename_i hr
      have h2 : ((st2.map (it_cv ad)).map fun v => v.category).sum + 13 ≤ R.locals := by rw [sum]; omega
      split at h
      · rename_i ha
        subst ha
        cases h
        exact va_mmax hx hb hml hown (hts _ hl.1) (hts _ hl.2.1) (hts _ hl.2.2.1) (hts _ hl.2.2.2) (Nat.le_trans hr.1 hfr) h2 hc hs hd k
      · split at h
        · rename_i ha
          subst ha
          cases h
          exact va_mmin hx hb hml hown (hts _ hl.1) (hts _ hl.2.1) (hts _ hl.2.2.1) (hts _ hl.2.2.2) (Nat.le_trans hr.1 hfr) h2 hc hs hd k
        · cases h
    · cases h
  · cases h
end ITS
