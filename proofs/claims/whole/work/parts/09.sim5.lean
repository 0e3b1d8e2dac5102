/-! A run of the small machine is a run of the machine. -/
def it_ws (M : it_Mt) : List Cond := Cond.code M.1.2 M.2.1.1 M.2.1.2.1 M.2.1.2.2 :: it_tb
/-- what my lists say is so in the tables and in the code (proved by program, a later part) -/
def it_OK : Prop := it_Ck
  ∧ (∀ (y : Nat) (M : it_Mt), it_mt[y]? = some M → plainName M.1.2.cls = true ∧ Cond.initialized M.1.2.cls ∈ it_tb ∧ (M.1.2.cls ≠ "java/lang/invoke/MethodHandle" ∧ M.1.2.cls ≠ "java/lang/invoke/VarHandle") ∧ (parseMethodDescriptor M.1.2.desc).map (fun d => d.parameters.length) = some M.2.2.1 ∧ it_cn[M.1.1]? = some M.1.2.cls)
  ∧ ∀ (y pc g : Nat) (ins : Instr) (a b : Nat) (M : it_Mt), it_code y pc = some (g, ins, a, b) → it_mt[y]? = some M → (∃ len, decode M.2.1.1 pc = .ok (ins, len) ∧ (it_len ins = 0 ∨ len = it_len ins)) ∧ (g = 2 ∨ it_len ins ≠ 0) ∧ it_Lk M.1.2.cls pc ins a b
    ∧ (g = 5 → a < 9000 ∧ ∀ M1 : it_Mt, it_mt[a]? = some M1 → Cond.code M1.1.2 M1.2.1.1 M1.2.1.2.1 M1.2.1.2.2 ∈ it_tb)
theorem it_warm {args : Array Value} {s : State} (hts : ∀ w ∈ it_tb, w.before args s = true) : ∀ w ∈ it_tb, ∀ (a' : Array Value) (U : State), s.WarmedH U.vm → w.before a' U = true := by
  intro w hw a' U hW
  have hk : it_keep w = true := (List.mem_filter.mp hw).2
  have h0 := hts w hw
  simp only [it_keep, Bool.or_eq_true] at hk
  rcases hk with h | h | h
  · exact word_at hW (good_of_word h) h0
  · cases w <;> first | (exact va_Nw.use rfl (va_Nw.warmF hW (va_Nw.of rfl h0))) | (exact va_Nw.use rfl (va_Nw.warmM hW (va_Nw.of rfl h0))) | cases h
  · cases w with
    | arrayOver t => cases t with
      | object C => exact va_AO.use (va_AO.moved hW.alike (va_AO.of h0))
      | _ => cases h
    | _ => cases h
def it_Iv (sz0 : Nat) (ka : Nat → Nat) (kc : it_Kc) (sh : it_Sh) (mem : it_Me) (U : State) (H : Heap) : Prop :=
  ∃ (D : va_G) (cs : Nat → ClassId), va_P D it_cl (it_w (it_ad sz0 ka) cs sh mem) H ∧ va_K D it_cl [] U ∧ (∀ k e, sh[k]? = some (.inr e) → ArrOfT U (cs k) (it_ty e) ∧ va_RA U (cs k) (it_ty e)) ∧ H.size = sz0 + sh.length ∧ sh.length ≤ it_K ∧ it_Ko sz0 ka kc U H
theorem it_Ko.moved {sz0 : Nat} {ka : Nat → Nat} {kc : it_Kc} {u U : State} {H : Heap} (hvm : u.vm.Alike U.vm) (h : it_Ko sz0 ka kc u H) : it_Ko sz0 ka kc U H := ⟨fun j hj => (h.1 j hj).moved hvm, fun j z hz => (h.2 j z hz).moved hvm⟩
theorem it_Ko.kept {sz0 : Nat} {ka : Nat → Nat} {kc : it_Kc} {U : State} {H H1 : Heap} (h : it_Ko sz0 ka kc U H) (hq : ∀ a : Nat, a < H.size → ¬ it_A sz0 a → H1[a]? = H[a]?) : it_Ko sz0 ka kc U H1 := ⟨fun j hj => (h.1 j hj).kept hq, fun j z hz => (h.2 j z hz).kept hq⟩
theorem it_Iv.moved {sz0 : Nat} {ka : Nat → Nat} {kc : it_Kc} {sh : it_Sh} {mem : it_Me} {u U : State} {H : Heap} (hvm : u.vm.Alike U.vm) (h : it_Iv sz0 ka kc sh mem u H) : it_Iv sz0 ka kc sh mem U H := by
  obtain ⟨D, cs, h1, h2, h3, h4, h5, h6⟩ := h
  exact ⟨D, cs, h1, va_K.moved hvm h2, fun k e hk => ⟨arrOfT_moved hvm (h3 k e hk).1, (h3 k e hk).2.moved hvm⟩, h4, h5, h6.moved hvm⟩
/-- what is made stays -/
theorem it_wr_mono {o fr lo a b : Nat} {init : Bool} {sh sh1 : it_Sh} {mem mem1 : it_Me} {ins : Instr} {st st1 : List Value} (h : it_wr o init fr lo sh mem ins a b st = some (st1, sh1, mem1)) : sh.length ≤ sh1.length ∧ it_sl sh ≤ it_sl sh1 := by
  have same : ∀ sh1 : it_Sh, sh = sh1 → sh.length ≤ sh1.length ∧ it_sl sh ≤ it_sl sh1 := fun _ h => by subst h; exact ⟨Nat.le_refl _, Nat.le_refl _⟩
  have push : ∀ x : it_Ce, sh.length ≤ (sh ++ [x]).length ∧ it_sl sh ≤ it_sl (sh ++ [x]) := fun x => ⟨by simp, by rw [it_sl_push]; omega⟩
  have put : ∀ (k : Nat) (x y : it_Ce), sh[k]? = some x → it_cz y = it_cz x → sh.length ≤ (sh.set k y).length ∧ it_sl sh ≤ it_sl (sh.set k y) := fun k x y h1 h2 => ⟨by simp, by rw [it_sl_set h1 h2]; omega⟩
  unfold it_wr at h
  split at h
  · split at h
    · rename_i hsh
      split at h
      · split at h
        · split at h
          · cases h; exact same _ rfl
          · cases h
        · cases h; exact put _ _ _ hsh (by simp [it_cz])
        · cases h
      · cases h
    · cases h
  · split at h
    · split at h
      · cases h; exact same _ rfl
      · cases h
    · cases h
  · split at h
    · split at h
      · cases h; exact same _ rfl
      · split at h
        · cases h; exact same _ rfl
        · cases h
    · cases h
  · split at h
    · rename_i hsh _
      split at h
      · cases h; exact put _ _ _ hsh (by simp [it_cz])
      · cases h
    · cases h
  · split at h
    · split at h
      · cases h; exact push _
      · cases h
    · cases h
  · split at h
    · split at h
      · cases h; exact push _
      · cases h
    · cases h
  · split at h
    · cases h; exact push _
    · cases h
  · split at h
    · cases h; exact same _ rfl
    · cases h
  · split at h
    · split at h
      · cases h; exact same _ rfl
      · cases h
    · cases h
  · cases h
theorem it_mono (kc : it_Kc) : ∀ (n y pc : Nat) (ls : it_Ls) (st : List Value) (sh : it_Sh) (mem : it_Me) (r : Option Value) (sh1 : it_Sh) (mem1 : it_Me), it_run kc n y pc ls st sh mem = some (r, sh1, mem1) → sh.length ≤ sh1.length ∧ it_sl sh ≤ it_sl sh1
  | 0, _, _, _, _, _, _, _, _, _, h => by simp [it_run] at h
  | n + 1, y, pc, ls, st, sh, mem, r, sh1, mem1, h => by
    rw [it_run] at h
    split at h
    · split at h
      · split at h
        · exact it_mono kc n _ _ _ _ _ _ _ _ _ h
        · cases h
      · split at h
        · exact it_mono kc n _ _ _ _ _ _ _ _ _ h
        · cases h
      · split at h
        · exact it_mono kc n _ _ _ _ _ _ _ _ _ h
        · cases h
      · split at h
        · exact it_mono kc n _ _ _ _ _ _ _ _ _ h
        · cases h
      · split at h
        · rename_i hw
          have h1 := it_wr_mono hw
          have h2 := it_mono kc n _ _ _ _ _ _ _ _ _ h
          omega
        · cases h
      · split at h
        · split at h
          · split at h
            · rename_i hc
              have h1 := it_mono kc n _ _ _ _ _ _ _ _ _ hc
              have h2 := it_mono kc n _ _ _ _ _ _ _ _ _ h
              omega
            · cases h
          · cases h
        · cases h
      · split at h
        · cases h; exact ⟨Nat.le_refl _, Nat.le_refl _⟩
        · cases h
      · split at h
        · exact it_mono kc n _ _ _ _ _ _ _ _ _ h
        · cases h
      · cases h
    · cases h
/-- what is claimed of n steps -/
def it_PW (n : Nat) : Prop := ∀ (kc : it_Kc) (sz0 : Nat) (ka : Nat → Nat) (y pc : Nat) (M : it_Mt) (ls : it_Ls) (st : List Value) (sh : it_Sh) (mem : it_Me) (r : Option Value) (sh' : it_Sh) (mem' : it_Me), it_mt[y]? = some M → it_run kc n y pc ls st sh mem = some (r, sh', mem') →
  ∀ (p : Program) (l : Launch) (e : Env) (R : Room) (s : State) (m : MethodId) (args : Array Value) (below : List Frame) (meth : Method) (c : Code) (D : va_G), p.tables.exec = Jvm.exec → c.code = M.2.1.1 → c.maxLocals = M.2.1.2.1 → s.vm.findClass M.1.2.cls = some m.cls → (∀ w ∈ it_tb, w.before args s = true) → meth.name = M.1.2.name → M.2.2.2.1 ≤ R.frames → M.2.2.2.2 ≤ R.locals → va_K D it_cl [] s → it_Ko sz0 ka kc s s.heap →
  ∀ (H : Heap) (locs : List Loc) (cells slots : Nat) (lsA : Array Slot) (cs : Nat → ClassId) (Q : State → Prop), it_Hp sz0 ka D cs sh mem s H locs → it_Lo lsA M.2.1.2.1 (it_ad sz0 ka) ls → cells + (sh'.length - sh.length) ≤ R.cells → slots + (it_sl sh' - it_sl sh) ≤ R.slots →
  (∀ (D1 : va_G) (H1 : Heap) (locs1 : List Loc) (cs1 : Nat → ClassId) (pc1 : Nat) (lsB : Array Slot) (ins : Instr) (st1 : List Value), va_K D1 it_cl [] s → it_Hp sz0 ka D1 cs1 sh' mem' s H1 locs1 → decode M.2.1.1 pc1 = .ok (ins, it_len ins) → it_rt M.2.1.2.2 ins st1 = some r → W p l e R s m args below meth c H1 locs1 (cells + (sh'.length - sh.length)) (slots + (it_sl sh' - it_sl sh)) Q (F0 m pc1 lsB (st1.map (it_cv (it_ad sz0 ka))))) →
  W p l e R s m args below meth c H locs cells slots Q (F0 m pc lsA (st.map (it_cv (it_ad sz0 ka))))
def it_Qc (sz0 : Nat) (ka : Nat → Nat) (kc : it_Kc) (sh : it_Sh) (mem : it_Me) (r : Option Value) : Array Value → State → Outcome → State → Prop := fun _ st oc t => oc = .returned (r.map (it_cv (it_ad sz0 ka))) ∧ it_Iv sz0 ka kc sh mem t t.heap ∧ va_F (it_A sz0) st t
set_option maxHeartbeats 4000000 in
/-- a method's contract out of its run -/
theorem it_met (ok : it_OK) {n : Nat} (IH : it_PW n) {kc : it_Kc} {sz0 : Nat} {ka : Nat → Nat} {y : Nat} {M : it_Mt} {vs : List Value} {sh sh' : it_Sh} {mem mem' : it_Me} {r : Option Value} (hM : it_mt[y]? = some M) (hent : (it_ent vs).length ≤ M.2.1.2.1) (hrun : it_run kc n y 0 (it_loc0 vs M.2.1.2.1) [] sh mem = some (r, sh', mem')) (l : Launch) :
    Met l M.1.2 (it_ws M) { frames := M.2.2.2.1, cells := sh'.length - sh.length, slots := it_sl sh' - it_sl sh, locals := M.2.2.2.2 } (va_Pc (vs.map (it_cv (it_ad sz0 ka))) (fun U => it_Iv sz0 ka kc sh mem U U.heap)) (it_Qc sz0 ka kc sh' mem' r) (sh'.length - sh.length) (it_sl sh' - it_sl sh) (it_A sz0) := by
  refine Met.ofW (cc := M.2.1.1) (maxL := M.2.1.2.1) (ret := M.2.1.2.2) (ok.2.1 y M hM).1 rfl ?_
  intro p e s m args below meth c s₁ B hml hv
  obtain ⟨rfl, D, cs, hP, hK, hAr, hsz, hlen, hKo⟩ := hv
  have hx := B.exec
  have hb := B.bytes
  have hr := B.returns
  have hts0 := atoms_spec (ws := it_ws M) B.pre
  have hts : ∀ w ∈ it_tb, w.before (vs.map (it_cv (it_ad sz0 ka))).toArray s = true := fun w h => hts0 w (List.mem_cons_of_mem _ h)
  have hown : s.vm.findClass M.1.2.cls = some m.cls := findClass_of_methodNamed B.named
  have hlocks := B.notSynchronized
  have hname : meth.name = M.1.2.name := (name_of_methodNamed B.named B.method).1
  rw [lg_entry_eq]
  refine IH kc sz0 ka y 0 M _ [] sh mem r sh' mem' hM hrun p l e _ s m _ below meth c D hx hb hml hown hts hname (Nat.le_refl _) (Nat.le_refl _) hK hKo s.heap [] 0 0 _ cs _ ⟨hP, hAr, hsz, hlen, va_S.rf⟩ (it_Lo.entry hent) (by rw [Nat.zero_add]; exact Nat.le_refl _) (by rw [Nat.zero_add]; exact Nat.le_refl _) ?_
  intro D1 H1 locs1 cs1 pc1 lsB ins st1 hK1 hH1 hdg hrt
  obtain ⟨hP1, hAr1, hsz1, hlen1, hS1⟩ := hH1
  rw [Nat.zero_add, Nat.zero_add]
  have hq : ∀ (v : Option Value), v = r.map (it_cv (it_ad sz0 ka)) → ∀ t : State, t.heap = H1 → s.WarmedH t.vm → it_Qc sz0 ka kc sh' mem' r (vs.map (it_cv (it_ad sz0 ka))).toArray s (.returned v) t := by
    intro v hv t ht hW
    refine ⟨by rw [hv], ?_, hS1.F ht⟩
    rw [ht]
    exact it_Iv.moved hW.alike ⟨D1, cs1, hP1, hK1, hAr1, hsz1, hlen1, hKo.kept (fun a h1 h2 => hS1.2.1 a h1 h2)⟩
  unfold it_rt at hrt
  split at hrt
  · rename_i hret
    cases hrt
    exact W.vret hx hb (hr.trans hret) (hq none rfl) hS1.2.2 hdg
  · rename_i v hret
    cases hrt
    exact W.iret hx hb (hr.trans hret) (hq _ rfl) hS1.2.2 hdg
  · rename_i v hret
    split at hrt
    · rename_i hv
      cases hrt
      refine W.zret hx hb (hr.trans hret) ?_ (hq _ rfl) hS1.2.2 hdg
      rcases hv with rfl | rfl <;> rfl
    · cases hrt
  · rename_i v nm hret
    cases hrt
    exact W.aret hx hb (hr.trans hret) (Or.inl ⟨_, rfl⟩) (Or.inr ⟨_, rfl⟩) (hq _ rfl) hS1.2.2 hdg
  · rename_i nm hret
    cases hrt
    exact W.aret hx hb (hr.trans hret) (Or.inl ⟨_, rfl⟩) (Or.inl rfl) (hq _ rfl) hS1.2.2 hdg
  · cases hrt
