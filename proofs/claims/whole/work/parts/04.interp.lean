/-! THE SMALL MACHINE: cells by number (0, 1, .. as they are made), what they hold as one function of cell and place; an instruction at a time, calls by fuel. Its runs are runs of the machine (it_W, next part). -/
/-- a cell: an object (class; fields: none an int, some a reference), an array of numbers (0 int, 1 byte, 2 boolean; its length), an array of references -/
abbrev it_Ce : Type := (Nat × List (Option (Option Nat))) ⊕ ((Nat × Nat) ⊕ List (Option Nat))
abbrev it_Sh : Type := List it_Ce
abbrev it_Me : Type := Nat → Nat → Int32
/-- arrays of ints that nobody writes: the statics 0 .. 6, the script 7 -/
abbrev it_Kc : Type := Nat → Nat × (Nat → Int32)
abbrev it_Ls : Type := List (Option Value)
def it_K : Nat := 100000
def it_up (mem : it_Me) (k : Nat) (f : Nat → Int32) : it_Me := fun j => if j = k then f else mem j
def it_len : Instr → Nat
  | .bipush _ => 2 | .sipush _ => 3 | .ldc _ => 2 | .ldc_w _ => 3 | .ldc2_w _ => 3
  | .iload _ => 2 | .lload _ => 2 | .aload _ => 2 | .istore _ => 2 | .lstore _ => 2 | .astore _ => 2 | .iinc _ _ => 3
  | .goto _ => 3 | .ifCond _ _ => 3 | .if_icmp _ _ => 3 | .ifnull _ => 3 | .ifnonnull _ => 3 | .if_acmp _ _ => 3
  | .getfield _ => 3 | .putfield _ => 3 | .getstatic _ => 3 | .new _ => 3 | .newarray _ => 2 | .anewarray _ => 3
  | .invokevirtual _ => 3 | .invokestatic _ => 3 | .invokespecial _ => 3
  | .tableswitch _ _ _ _ => 0 | .lookupswitch _ _ => 0
  | _ => 1
def it_code (y pc : Nat) : Option it_En :=
  match it_cds[y]? with
  | some c => (match c[pc / 16]? with
    | some r => (match r[pc % 16]? with
      | some e => e
      | none => none)
    | none => none)
  | none => none
/-- group 0: the stack alone -/
def it_ops (ins : Instr) (b : Nat) (st : List Value) : Option (List Value) :=
  match ins, st with
  | .iconst n, st => some (.int (Int32.ofInt n) :: st)
  | .bipush n, st => some (.int (Int8.ofInt n).toInt32 :: st)
  | .sipush n, st => some (.int (Int16.ofInt n).toInt32 :: st)
  | .lconst n, st => some (.long (Int64.ofNat (n : Nat)) :: st)
  | .ldc _, st => some (.int (Int32.ofNat b) :: st)
  | .ldc_w _, st => some (.int (Int32.ofNat b) :: st)
  | .ldc2_w _, st => some (.long (Int64.ofNat b) :: st)
  | .aconst_null, st => some (.null :: st)
  | .iadd, .int y :: .int x :: st => some (.int (x + y) :: st)
  | .isub, .int y :: .int x :: st => some (.int (x - y) :: st)
  | .imul, .int y :: .int x :: st => some (.int (x * y) :: st)
  | .iand, .int y :: .int x :: st => some (.int (x &&& y) :: st)
  | .ior, .int y :: .int x :: st => some (.int (x ||| y) :: st)
  | .ixor, .int y :: .int x :: st => some (.int (x ^^^ y) :: st)
  | .idiv, .int y :: .int x :: st => if y = 0 then none else some (.int (x / y) :: st)
  | .irem, .int y :: .int x :: st => if y = 0 then none else some (.int (x - x / y * y) :: st)
  | .ineg, .int x :: st => some (.int (-x) :: st)
  | .ladd, .long y :: .long x :: st => some (.long (x + y) :: st)
  | .lmul, .long y :: .long x :: st => some (.long (x * y) :: st)
  | .land, .long y :: .long x :: st => some (.long (x &&& y) :: st)
  | .ldiv, .long y :: .long x :: st => if y = 0 then none else some (.long (x / y) :: st)
  | .lrem, .long y :: .long x :: st => if y = 0 then none else some (.long (x - x / y * y) :: st)
  | .ishl, .int y :: .int x :: st => some (.int (x <<< (y &&& 31)) :: st)
  | .ishr, .int y :: .int x :: st => some (.int (x >>> (y &&& 31)) :: st)
  | .iushr, .int y :: .int x :: st => some (.int (x.toUInt32 >>> (y.toUInt32 &&& Int32.toUInt32 31)).toInt32 :: st)
  | .lshr, .int y :: .long x :: st => some (.long (x >>> (y.toInt64 &&& 63)) :: st)
  | .lushr, .int y :: .long x :: st => some (.long (x.toUInt64 >>> (y.toInt64.toUInt64 &&& Int64.toUInt64 63)).toInt64 :: st)
  | .i2l, .int x :: st => some (.long x.toInt64 :: st)
  | .l2i, .long x :: st => some (.int x.toInt32 :: st)
  | .i2b, .int x :: st => some (.int x.toInt8.toInt32 :: st)
  | .i2s, .int x :: st => some (.int x.toInt16.toInt32 :: st)
  | .lcmp, .long y :: .long x :: st => some (.int (lg_cmp x y) :: st)
  | .dup, v :: st => if v.category = 1 then some (v :: v :: st) else none
  | .dup2, v :: w :: st => if v.category = 1 ∧ w.category = 1 then some (v :: w :: v :: w :: st) else none
  | _, _ => none
/-- a long that stands just ahead of place i is broken by a store to i -/
def it_cut (l : it_Ls) : Nat → it_Ls
  | 0 => l
  | i + 1 => match l[i]? with
    | some (some v) => if v.category = 2 then l.set i none else l
    | _ => l
def it_put1 (l : it_Ls) (i : Nat) (v : Value) : it_Ls := (it_cut l i).set i (some v)
def it_put2 (l : it_Ls) (i : Nat) (v : Value) : it_Ls := ((it_cut l i).set i (some v)).set (i + 1) none
def it_ldi (l : it_Ls) (i : Nat) (st : List Value) : Option (it_Ls × List Value) := match l[i]? with
  | some (some (.int x)) => some (l, .int x :: st)
  | _ => none
def it_ldl (l : it_Ls) (i : Nat) (st : List Value) : Option (it_Ls × List Value) := match l[i]? with
  | some (some (.long x)) => some (l, .long x :: st)
  | _ => none
def it_lda (l : it_Ls) (i : Nat) (st : List Value) : Option (it_Ls × List Value) := match l[i]? with
  | some (some (.ref x)) => some (l, .ref x :: st)
  | some (some .null) => some (l, .null :: st)
  | _ => none
/-- group 1: locals -/
def it_loc (ins : Instr) (l : it_Ls) (st : List Value) : Option (it_Ls × List Value) :=
  match ins, st with
  | .iload_n k, st => it_ldi l k st
  | .iload k, st => it_ldi l k st
  | .lload_n k, st => it_ldl l k st
  | .lload k, st => it_ldl l k st
  | .aload_n k, st => it_lda l k st
  | .aload k, st => it_lda l k st
  | .istore_n k, .int x :: st => if (k : Nat) < l.length then some (it_put1 l k (.int x), st) else none
  | .istore k, .int x :: st => if k < l.length then some (it_put1 l k (.int x), st) else none
  | .lstore_n k, .long x :: st => if (k : Nat) + 1 < l.length then some (it_put2 l k (.long x), st) else none
  | .lstore k, .long x :: st => if k + 1 < l.length then some (it_put2 l k (.long x), st) else none
  | .astore_n k, .ref x :: st => if (k : Nat) < l.length then some (it_put1 l k (.ref x), st) else none
  | .astore k, .ref x :: st => if k < l.length then some (it_put1 l k (.ref x), st) else none
  | .astore_n k, .null :: st => if (k : Nat) < l.length then some (it_put1 l k .null, st) else none
  | .astore k, .null :: st => if k < l.length then some (it_put1 l k .null, st) else none
  | .iinc i n, st => (match l[i]? with
    | some (some (.int x)) => some (it_put1 l i (.int (x + Int32.ofInt n)), st)
    | _ => none)
  | _, _ => none
/-- where a switch goes -/
def it_sw (pc : Nat) (d : Int) : List (Int × Int) → Int32 → Nat
  | [], _ => ((pc : Int) + d).toNat
  | (k, o) :: r, x => if x = Int32.ofInt k then ((pc : Int) + o).toNat else it_sw pc d r x
def it_pairs : Int → List Int → List (Int × Int)
  | _, [] => []
  | k, o :: r => (k, o) :: it_pairs (k + 1) r
/-- group 2: where it goes on -/
def it_br (pc a n : Nat) (ins : Instr) (st : List Value) : Option (Nat × List Value) :=
  match ins, st with
  | .goto _, st => some (a, st)
  | .ifCond .eq _, .int x :: st => some (if x = 0 then a else pc + 3, st)
  | .ifCond .ne _, .int x :: st => some (if x = 0 then pc + 3 else a, st)
  | .ifCond .lt _, .int x :: st => some (if x < 0 then a else pc + 3, st)
  | .ifCond .ge _, .int x :: st => some (if 0 ≤ x then a else pc + 3, st)
  | .ifCond .gt _, .int x :: st => some (if 0 < x then a else pc + 3, st)
  | .ifCond .le _, .int x :: st => some (if x ≤ 0 then a else pc + 3, st)
  | .if_icmp .eq _, .int y :: .int x :: st => some (if x = y then a else pc + 3, st)
  | .if_icmp .ne _, .int y :: .int x :: st => some (if x = y then pc + 3 else a, st)
  | .if_icmp .lt _, .int y :: .int x :: st => some (if x < y then a else pc + 3, st)
  | .if_icmp .ge _, .int y :: .int x :: st => some (if y ≤ x then a else pc + 3, st)
  | .if_icmp .gt _, .int y :: .int x :: st => some (if y < x then a else pc + 3, st)
  | .if_icmp .le _, .int y :: .int x :: st => some (if x ≤ y then a else pc + 3, st)
  | .ifnull _, .null :: st => some (a, st)
  | .ifnull _, .ref _ :: st => some (pc + 3, st)
  | .ifnonnull _, .null :: st => some (pc + 3, st)
  | .ifnonnull _, .ref _ :: st => some (a, st)
  | .if_acmp .ne _, .ref y :: .ref x :: st => if x < n ∧ y < n then some (if x = y then pc + 3 else a, st) else none
  | .tableswitch d lo _ offs, .int x :: st => some (it_sw pc d (it_pairs lo offs.toList) x, st)
  | .lookupswitch d ps, .int x :: st => some (it_sw pc d ps.toList x, st)
  | _, _ => none
/-- group 3: reads -/
def it_rd (kc : it_Kc) (sh : it_Sh) (mem : it_Me) (ins : Instr) (a b : Nat) (st : List Value) : Option (List Value) :=
  match ins, st with
  | .getfield _, .ref k :: st => (match sh[k]? with
    | some (.inl (ci, fs)) => if ci = a then (match fs[b]? with
      | some none => some (.int (mem k b) :: st)
      | some (some none) => some (.null :: st)
      | some (some (some r)) => some (.ref r :: st)
      | none => none) else none
    | _ => none)
  | .getstatic _, st => if a < 7 then some (.ref (it_K + a) :: st) else none
  | .iaload, .int i :: .ref k :: st => if k < it_K then (match sh[k]? with
    | some (.inr (.inl (t, n))) => if t = 0 ∧ ¬ (i < 0 ∨ n ≤ i.toNatClampNeg) then some (.int (mem k i.toNatClampNeg) :: st) else none
    | _ => none) else if k - it_K < 8 ∧ ¬ (i < 0 ∨ (kc (k - it_K)).1 ≤ i.toNatClampNeg) then some (.int ((kc (k - it_K)).2 i.toNatClampNeg) :: st) else none
  | .baload, .int i :: .ref k :: st => (match sh[k]? with
    | some (.inr (.inl (t, n))) => if (t = 1 ∨ t = 2) ∧ ¬ (i < 0 ∨ n ≤ i.toNatClampNeg) then some (.int (mem k i.toNatClampNeg) :: st) else none
    | _ => none)
  | .aaload, .int i :: .ref k :: st => (match sh[k]? with
    | some (.inr (.inr l)) => if ¬ (i < 0 ∨ l.length ≤ i.toNatClampNeg) then (match l[i.toNatClampNeg]? with
      | some (some r) => some (.ref r :: st)
      | some none => some (.null :: st)
      | none => none) else none
    | _ => none)
  | .arraylength, .ref k :: st => if k < it_K then (match sh[k]? with
    | some (.inr (.inl (_, n))) => some (.int (Int32.ofNat n) :: st)
    | some (.inr (.inr l)) => some (.int (Int32.ofNat l.length) :: st)
    | _ => none) else if k - it_K < 8 then some (.int (Int32.ofNat (kc (k - it_K)).1) :: st) else none
  | _, _ => none
def it_tag : ArrayType → Option Nat
  | .int => some 0
  | .byte => some 1
  | .boolean => some 2
  | _ => none
def it_flag (t : List (List Bool)) (a b : Nat) : Bool := match t[a]? with
  | some l => l.getD b false
  | none => false
/-- of a class and a place: an int (some none), a reference (some (some ..)) -/
def it_fkd (a b : Nat) : Option (Option (Option Nat)) := match it_fk[a]? with
  | some l => l[b]?
  | none => none
/-- group 4: writes, new cells, Object's constructor, arraycopy -/
def it_wr (own : Nat) (init : Bool) (fr lo : Nat) (sh : it_Sh) (mem : it_Me) (ins : Instr) (a b : Nat) (st : List Value) : Option (List Value × it_Sh × it_Me) :=
  match ins, st with
  | .putfield _, v :: .ref k :: st => (match sh[k]? with
    | some (.inl (ci, fs)) => if ci = a ∧ (it_flag it_ff a b = false ∨ (init = true ∧ own = a)) then (match fs[b]?, it_fkd a b, v with
      | some none, some none, .int x => if it_flag it_fz a b = false ∨ x = 0 ∨ x = 1 then some (st, sh, it_up mem k (upd (mem k) b x)) else none
      | some (some _), some (some _), .ref r => some (st, sh.set k (.inl (ci, fs.set b (some (some r)))), mem)
      | _, _, _ => none) else none
    | _ => none)
  | .iastore, .int x :: .int i :: .ref k :: st => (match sh[k]? with
    | some (.inr (.inl (t, n))) => if t = 0 ∧ ¬ (i < 0 ∨ n ≤ i.toNatClampNeg) then some (st, sh, it_up mem k (upd (mem k) i.toNatClampNeg x)) else none
    | _ => none)
  | .bastore, .int x :: .int i :: .ref k :: st => (match sh[k]? with
    | some (.inr (.inl (t, n))) => if t = 1 ∧ ¬ (i < 0 ∨ n ≤ i.toNatClampNeg) then some (st, sh, it_up mem k (upd (mem k) i.toNatClampNeg x.toInt8.toInt32))
      else if t = 2 ∧ ¬ (i < 0 ∨ n ≤ i.toNatClampNeg) then some (st, sh, it_up mem k (upd (mem k) i.toNatClampNeg (x &&& 1))) else none
    | _ => none)
  | .aastore, .ref r :: .int i :: .ref k :: st => (match sh[k]?, sh[r]? with
    | some (.inr (.inr l)), some (.inl (ci, _)) => if ci = 6 ∧ ¬ (i < 0 ∨ l.length ≤ i.toNatClampNeg) then some (st, sh.set k (.inr (.inr (l.set i.toNatClampNeg (some r)))), mem) else none
    | _, _ => none)
  | .new _, st => (match it_fk[a]? with
    | some fs => if sh.length < it_K then some (.ref sh.length :: st, sh ++ [.inl (a, fs)], it_up mem sh.length (fun _ => 0)) else none
    | none => none)
  | .newarray t, .int n :: st => (match it_tag t with
    | some g => if sh.length < it_K ∧ ¬ n < 0 ∧ n.toNatClampNeg ≤ 1000000 then some (.ref sh.length :: st, sh ++ [.inr (.inl (g, n.toNatClampNeg))], it_up mem sh.length (fun _ => 0)) else none
    | none => none)
  | .anewarray _, .int n :: st => if sh.length < it_K ∧ ¬ n < 0 ∧ n.toNatClampNeg ≤ 1000000 then some (.ref sh.length :: st, sh ++ [.inr (.inr (List.replicate n.toNatClampNeg none))], mem) else none
  | .invokespecial _, .ref _ :: st => if a = 9998 ∧ 1 ≤ fr ∧ (st.map fun v => v.category).sum + 12 ≤ lo then some (st, sh, mem) else none
  | .invokestatic _, .int n :: .int dp :: .ref k1 :: .int sp :: .ref k0 :: st => (match sh[k0]? with
    | some (.inr (.inl (t, n0))) => if a = 9999 ∧ k1 = k0 ∧ t = 0 ∧ 1 ≤ fr ∧ (st.map fun v => v.category).sum + (nativeFrameWords "java/lang/System" "arraycopy" 5 + 11) ≤ lo ∧ ¬ sp < 0 ∧ ¬ dp < 0 ∧ ¬ n < 0 ∧ sp.toNatClampNeg + n.toNatClampNeg ≤ n0 ∧ dp.toNatClampNeg + n.toNatClampNeg ≤ n0
      then some (st, sh, it_up mem k0 (va_cpy (mem k0) (mem k0) sp.toNatClampNeg dp.toNatClampNeg n.toNatClampNeg)) else none
    | _ => none)
  | _, _ => none
/-- group 7: Math.max (9996), Math.min (9997) -/
def it_mth (fr lo a : Nat) (ins : Instr) (st : List Value) : Option (List Value) :=
  match ins, st with
  | .invokestatic _, .int y :: .int x :: st => if 1 ≤ fr ∧ (st.map fun v => v.category).sum + 13 ≤ lo then (if a = 9996 then some (.int (if x < y then y else x) :: st) else if a = 9997 then some (.int (if y < x then y else x) :: st) else none) else none
  | _, _ => none
/-- group 6: the end -/
def it_rt (ret : Option FieldType) (ins : Instr) (st : List Value) : Option (Option Value) :=
  match ins, st, ret with
  | .return_, [], none => some none
  | .ireturn, [.int v], some .int => some (some (.int v))
  | .ireturn, [.int v], some .boolean => if v = 0 ∨ v = 1 then some (some (.int v)) else none
  | .areturn, [.ref r], some (.object _) => some (some (.ref r))
  | .areturn, [.null], some (.object _) => some (some .null)
  | _, _, _ => none
def it_ent (vs : List Value) : it_Ls := vs.flatMap fun v => if v.category = 2 then [some v, none] else [some v]
def it_loc0 (vs : List Value) (n : Nat) : it_Ls := it_ent vs ++ List.replicate (n - (it_ent vs).length) none
/-- is the receiver of the class? (of static methods and constructors nothing is asked) -/
def it_recv (sh : it_Sh) (ci : Nat) (ins : Instr) (as : List Value) : Bool :=
  match ins, as with
  | .invokestatic _, _ => true
  | .invokespecial _, .ref _ :: _ => true
  | .invokevirtual _, .ref k :: _ => (match sh[k]? with
    | some (.inl (c, _)) => c == ci
    | _ => false)
  | _, _ => false
def it_nst : Instr → Nat
  | .invokestatic _ => 0
  | _ => 1
def it_run (kc : it_Kc) : Nat → Nat → Nat → it_Ls → List Value → it_Sh → it_Me → Option (Option Value × it_Sh × it_Me)
  | 0, _, _, _, _, _, _ => none
  | n + 1, y, pc, ls, st, sh, mem =>
    match it_code y pc, it_mt[y]? with
    | some (g, ins, a, b), some M =>
      (match g with
      | 0 => (match it_ops ins b st with
        | some st1 => it_run kc n y (pc + it_len ins) ls st1 sh mem
        | none => none)
      | 1 => (match it_loc ins ls st with
        | some (ls1, st1) => it_run kc n y (pc + it_len ins) ls1 st1 sh mem
        | none => none)
      | 2 => (match it_br pc a sh.length ins st with
        | some (pc1, st1) => it_run kc n y pc1 ls st1 sh mem
        | none => none)
      | 3 => (match it_rd kc sh mem ins a b st with
        | some st1 => it_run kc n y (pc + it_len ins) ls st1 sh mem
        | none => none)
      | 4 => (match it_wr M.1.1 (M.1.2.name == "<init>") M.2.2.2.1 M.2.2.2.2 sh mem ins a b st with
        | some (st1, sh1, mem1) => it_run kc n y (pc + it_len ins) ls st1 sh1 mem1
        | none => none)
      | 5 => (match it_mt[a]? with
        | some M1 =>
          if M1.2.2.1 + it_nst ins ≤ st.length ∧ M1.2.2.2.1 + 1 ≤ M.2.2.2.1 ∧ 8 + (M1.2.1.2.1 + 11) + M1.2.2.2.2 ≤ M.2.2.2.2 ∧ ((st.drop (M1.2.2.1 + it_nst ins)).map fun v => v.category).sum ≤ 8
              ∧ (it_ent (st.take (M1.2.2.1 + it_nst ins)).reverse).length ≤ M1.2.1.2.1 ∧ it_recv sh M1.1.1 ins (st.take (M1.2.2.1 + it_nst ins)).reverse = true then
            (match it_run kc n a 0 (it_loc0 (st.take (M1.2.2.1 + it_nst ins)).reverse M1.2.1.2.1) [] sh mem with
            | some (r, sh1, mem1) => it_run kc n y (pc + 3) ls (r.toList ++ st.drop (M1.2.2.1 + it_nst ins)) sh1 mem1
            | none => none)
          else none
        | none => none)
      | 6 => (match it_rt M.2.1.2.2 ins st with
        | some r => some (r, sh, mem)
        | none => none)
      | 7 => (match it_mth M.2.2.2.1 M.2.2.2.2 a ins st with
        | some st1 => it_run kc n y (pc + it_len ins) ls st1 sh mem
        | none => none)
      | _ => none)
    | _, _ => none
