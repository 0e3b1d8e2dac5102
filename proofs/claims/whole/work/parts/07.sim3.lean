/-! Groups 3 and 4: reads, writes and new cells as steps of the machine. -/
def it_cz : it_Ce → Nat
  | .inl (_, fs) => fs.length
  | .inr (.inl (_, n)) => n
  | .inr (.inr l) => l.length
def it_sl (sh : it_Sh) : Nat := (sh.map it_cz).sum
/-- what the tables and my lists say of the classes -/
def it_Ck : Prop := ∀ a q, it_cl[a]? = some q → it_cn[a]? = some q.1 ∧ (∀ w ∈ u_ws q.1 q.2.1 q.2.2, w ∈ it_tb) ∧ (∃ fs, it_fk[a]? = some fs ∧ fs.length = q.2.2) ∧ ∃ ty : Nat → FieldType, (∀ k, k < q.2.2 → parseFieldDescriptor (q.2.1 k).2.2.1 = some (ty k)) ∧ (∀ i, i < q.2.2 → ∀ j, j < q.2.2 → i ≠ j → (q.2.1 i).2.1 ≠ (q.2.1 j).2.1) ∧
  ∀ k, k < q.2.2 → (q.2.1 k).2.2.2 = it_flag it_ff a k ∧ ((it_fkd a k = some none ∧ ty k = (if it_flag it_fz a k = true then .boolean else .int)) ∨ (it_fkd a k = some (some none) ∧ ((∃ n, ty k = .object n) ∨ ∃ t, ty k = .array t)))
theorem it_ce_up {ad : Nat → Nat} {cs : Nat → ClassId} {mem : it_Me} {k j : Nat} {f : Nat → Int32} {x : it_Ce} (h : j ≠ k) : it_ce ad cs (it_up mem k f) j x = it_ce ad cs mem j x := by
  have hm : it_up mem k f j = mem j := if_neg h
  rcases x with ⟨ci, fs⟩ | ⟨t, n⟩ | r
  · simp only [it_ce]
    congr 2
    have : (fun i g => it_fv ad (it_up mem k f) j i g) = (fun i g => it_fv ad mem j i g) := by
      funext i g
      rcases g with _ | _ | g <;> simp [it_fv, hm]
    rw [this]
  · simp only [it_ce, hm]
  · rfl
theorem it_w_num {ad : Nat → Nat} {cs : Nat → ClassId} {sh : it_Sh} {mem : it_Me} {k t n : Nat} {f : Nat → Int32} (h : sh[k]? = some (.inr (.inl (t, n)))) : (it_w ad cs sh mem).set k (ad k, .inl (cs k, n, .inl f)) = it_w ad cs sh (it_up mem k f) := by
  have hl := it_lt h
  refine List.ext_getElem? fun j => ?_
  by_cases hj : k = j
  · subst hj
    rw [List.getElem?_set_self (by rw [it_w_len]; exact hl), it_w_at h]
    simp [it_ce, it_up]
  · rw [List.getElem?_set_ne hj]
    simp only [it_w, List.getElem?_mapIdx]
    cases hx : sh[j]? with
    | none => rfl
    | some x => simp only [Option.map_some, it_ce_up (Ne.symm hj)]
theorem it_w_int {ad : Nat → Nat} {cs : Nat → ClassId} {sh : it_Sh} {mem : it_Me} {k ci b : Nat} {fs : List (Option (Option Nat))} {x : Int32} (h : sh[k]? = some (.inl (ci, fs))) (hb : fs[b]? = some none) :
    (it_w ad cs sh mem).set k (ad k, .inr (ci, (fs.mapIdx (fun j f => it_fv ad mem k j f)).set b (.int x))) = it_w ad cs sh (it_up mem k (upd (mem k) b x)) := by
  have hl := it_lt h
  have hm : it_up mem k (upd (mem k) b x) k = upd (mem k) b x := if_pos rfl
  refine List.ext_getElem? fun j => ?_
  by_cases hj : k = j
  · subst hj
    rw [List.getElem?_set_self (by rw [it_w_len]; exact hl), it_w_at h]
    simp only [it_ce]
    congr 4
    refine List.ext_getElem? fun i => ?_
    by_cases hi : b = i
    · subst hi
      have hbl := (List.getElem?_eq_some_iff.mp hb).1
      rw [List.getElem?_set_self (by simpa using hbl)]
      simp [List.getElem?_mapIdx, hb, it_fv, hm, upd]
    · rw [List.getElem?_set_ne hi]
      simp only [List.getElem?_mapIdx]
      cases hx : fs[i]? with
      | none => rfl
      | some g =>
        simp only [Option.map_some]
        rcases g with _ | _ | g <;> simp [it_fv, hm, upd, Ne.symm hi]
  · rw [List.getElem?_set_ne hj]
    simp only [it_w, List.getElem?_mapIdx]
    cases hx : sh[j]? with
    | none => rfl
    | some x => simp only [Option.map_some, it_ce_up (Ne.symm hj)]
theorem it_w_ref {ad : Nat → Nat} {cs : Nat → ClassId} {sh : it_Sh} {mem : it_Me} {k ci b r : Nat} {fs : List (Option (Option Nat))} (h : sh[k]? = some (.inl (ci, fs))) :
    (it_w ad cs sh mem).set k (ad k, .inr (ci, (fs.mapIdx (fun j f => it_fv ad mem k j f)).set b (.ref (ad r)))) = it_w ad cs (sh.set k (.inl (ci, fs.set b (some (some r))))) mem := by
  have hl := it_lt h
  refine List.ext_getElem? fun j => ?_
  by_cases hj : k = j
  · subst hj
    rw [List.getElem?_set_self (by rw [it_w_len]; exact hl), it_w_at (e := .inl (ci, fs.set b (some (some r)))) (by rw [List.getElem?_set_self hl])]
    simp only [it_ce]
    congr 4
    refine List.ext_getElem? fun i => ?_
    simp only [List.getElem?_set, List.getElem?_mapIdx, List.length_mapIdx]
    by_cases hi : b = i
    · subst hi
      by_cases hbl : b < fs.length <;> simp [hbl, it_fv]
    · simp [hi]
  · rw [List.getElem?_set_ne hj]
    simp only [it_w, List.getElem?_mapIdx, List.getElem?_set_ne hj]
theorem it_w_arr {ad : Nat → Nat} {cs : Nat → ClassId} {sh : it_Sh} {mem : it_Me} {k i r : Nat} {l : List (Option Nat)} (h : sh[k]? = some (.inr (.inr l))) (hi : i < l.length) :
    (it_w ad cs sh mem).set k (ad k, .inl (cs k, l.length, .inr (.inr (.inr (.inr (va_up (fun i => (l.getD i none).map ad) i (some (ad r)))))))) = it_w ad cs (sh.set k (.inr (.inr (l.set i (some r))))) mem := by
  have hl := it_lt h
  refine List.ext_getElem? fun j => ?_
  by_cases hj : k = j
  · subst hj
    rw [List.getElem?_set_self (by rw [it_w_len]; exact hl), it_w_at (e := .inr (.inr (l.set i (some r)))) (by rw [List.getElem?_set_self hl])]
    simp only [it_ce, List.length_set]
    congr 8
    refine congrArg Sum.inr (funext fun z => ?_)
    by_cases hz : z = i
    · subst hz
      simp [va_up, List.getD_eq_getElem?_getD, hi]
    · simp [va_up, hz, List.getD_eq_getElem?_getD, List.getElem?_set_ne (Ne.symm hz)]
  · rw [List.getElem?_set_ne hj]
    simp only [it_w, List.getElem?_mapIdx, List.getElem?_set_ne hj]
def it_cs1 (cs : Nat → ClassId) (n : Nat) (cA : ClassId) : Nat → ClassId := fun j => if j = n then cA else cs j
theorem it_ce_cs {ad : Nat → Nat} {cs : Nat → ClassId} {mem : it_Me} {j n : Nat} {cA : ClassId} {x : it_Ce} (h : j ≠ n) : it_ce ad (it_cs1 cs n cA) mem j x = it_ce ad cs mem j x := by
  have hm : it_cs1 cs n cA j = cs j := if_neg h
  rcases x with ⟨ci, fs⟩ | ⟨t, n⟩ | r
  · rfl
  · simp only [it_ce, hm]
  · simp only [it_ce, hm]
theorem it_w_push {ad : Nat → Nat} {cs : Nat → ClassId} {sh : it_Sh} {mem mem1 : it_Me} {cA : ClassId} {x : it_Ce} {y : va_E} (hm : ∀ j, j ≠ sh.length → ∀ z, it_ce ad cs mem1 j z = it_ce ad cs mem j z) (hy : it_ce ad (it_cs1 cs sh.length cA) mem1 sh.length x = y) : it_w ad cs sh mem ++ [(ad sh.length, y)] = it_w ad (it_cs1 cs sh.length cA) (sh ++ [x]) mem1 := by
  refine List.ext_getElem? fun j => ?_
  by_cases hj : j < sh.length
  · rw [List.getElem?_append_left (by rw [it_w_len]; exact hj)]
    simp only [it_w, List.getElem?_mapIdx, List.getElem?_append_left hj]
    cases hx : sh[j]? with
    | none => rfl
    | some z => simp only [Option.map_some, it_ce_cs (Nat.ne_of_lt hj), hm j (Nat.ne_of_lt hj)]
  · by_cases hj2 : j = sh.length
    · subst hj2
      rw [List.getElem?_append_right (by rw [it_w_len]; omega), it_w_len, Nat.sub_self]
      rw [it_w_at (e := x) (by rw [List.getElem?_append_right (by omega), Nat.sub_self]; rfl), hy]
      rfl
    · rw [List.getElem?_eq_none (by rw [List.length_append, it_w_len]; simp; omega), List.getElem?_eq_none (by rw [it_w_len, List.length_append]; simp; omega)]
theorem it_K1 {D : va_G} {s : State} (h : va_K D it_cl [] s) {cA : ClassId} {ty : FieldType} (h1 : ArrOfT s cA ty ∧ va_RA s cA ty) : va_K D it_cl [(cA, ty)] s := by
  refine ⟨h.1, fun k q hk => ?_⟩
  have hz : k < 1 := (List.getElem?_eq_some_iff.mp hk).1
  rw [show k = 0 by omega] at hk
  cases hk
  exact h1
section ITS
variable {p : Program} {l : Launch} {e : Env} {R : Room} {s : State} {m : MethodId} {args : Array Value} {below : List Frame} {meth : Method} {c : Code} {H : Heap} {locs : List Loc} {cells slots : Nat} {Q : State → Prop}
variable {cc : ByteArray} {pc : Nat} {lsA : Array Slot} {own : String} {sz0 : Nat} {ka : Nat → Nat} {kc : it_Kc} {D : va_G} {cs : Nat → ClassId} {sh : it_Sh} {mem : it_Me}
set_option maxHeartbeats 4000000 in
theorem it_rdW (hC : it_Ck) (hx : p.tables.exec = Jvm.exec) (hb : c.code = cc) (hown : s.vm.findClass own = some m.cls) (hts : ∀ w ∈ it_tb, w.before args s = true) (K0 : va_K D it_cl [] s) (hKo : it_Ko sz0 ka kc s s.heap) (hH : it_Hp sz0 ka D cs sh mem s H locs) {ins : Instr} {a b : Nat} {st st1 : List Value} (hd : decode cc pc = .ok (ins, it_len ins)) (hl : it_Lk own pc ins a b) (h : it_rd kc sh mem ins a b st = some st1)
    (k : W p l e R s m args below meth c H locs cells slots Q (F0 m (pc + it_len ins) lsA (st1.map (it_cv (it_ad sz0 ka))))) : W p l e R s m args below meth c H locs cells slots Q (F0 m pc lsA (st.map (it_cv (it_ad sz0 ka)))) := by
  obtain ⟨hP, hAr, hsz, hlen, hS⟩ := hH
  have hKa : ∀ j, it_ad sz0 ka (it_K + j) = ka j := fun j => by
    show (if it_K + j < it_K then _ else _) = _
    rw [if_neg (by omega), Nat.add_sub_cancel_left]
  have hKb : ∀ j, ¬ j < it_K → it_ad sz0 ka j = ka (j - it_K) := fun j hj => if_neg hj
  unfold it_rd at h
  split at h
  · split at h
    · rename_i i k0 st2 _ ci fs hsh
      split at h
      · rename_i hca
        subst hca
        obtain ⟨q, hq, hlt, hq1, hlink⟩ := hl
        obtain ⟨-, hin, -⟩ := hC _ _ hq
        have he := it_w_at (ad := it_ad sz0 ka) (cs := cs) (mem := mem) hsh
        have go : ∀ v : Value, (fs.mapIdx (fun j f => it_fv (it_ad sz0 ka) mem k0 j f))[b]? = some v → W p l e R s m args below meth c H locs cells slots Q (F0 m (pc + 3) lsA (v :: st2.map (it_cv (it_ad sz0 ka)))) → W p l e R s m args below meth c H locs cells slots Q (F0 m pc lsA ((Value.ref k0 :: st2).map (it_cv (it_ad sz0 ka)))) := fun v hv kk =>
          va_get (D := D) (C := q.1) (T := q.2.1) (N := q.2.2) hx hb hts hin hown K0 hP k0 he hq b hlt (hts _ hlink) (fun x hx => by rw [hq1] at hx; exact hx) hv hd kk
        split at h
        · rename_i hf; cases h; exact go _ (by simp [List.getElem?_mapIdx, hf]; rfl) k
        · rename_i hf; cases h; exact go _ (by simp [List.getElem?_mapIdx, hf]; rfl) k
        · rename_i r hf; cases h; exact go _ (by simp [List.getElem?_mapIdx, hf]; rfl) k
        · cases h
      · cases h
    · cases h
  · split at h
    · cases h
      obtain ⟨z, hz, hlink⟩ := hl
      have k' := k
      simp only [List.map_cons, it_cv, hKa] at k'
      rcases hlink with hlink | hlink
      · exact va_gets hx hb (hKo.2 a z hz) hS hown (hts _ hlink) (fun _ q => q) hd k'
      · exact va_getsN hx hb (hKo.2 a z hz) hS hown (hts _ hlink) (fun _ q => q) hd k'
    · cases h
  · rename_i i k0 st2
    split at h
    · split at h
      · rename_i hlt _ t n hsh
        split at h
        · rename_i hc
          obtain ⟨rfl, hin⟩ := hc
          cases h
          exact va_iald hx hb (it_K1 K0 (hAr k0 _ hsh)) hP k0 0 (it_w_at hsh) rfl hin hd k
        · cases h
      · cases h
    · rename_i hge
      split at h
      · rename_i hc
        cases h
        have hT := hKo.1 (k0 - it_K) hc.1
        rw [← hKb k0 hge] at hT
        exact va_ti hx hb hT hS hc.2 rfl hd k
      · cases h
  · rename_i i k0 st2
    split at h
    · rename_i t n hsh
      split at h
      · rename_i hc
        obtain ⟨ht, hin⟩ := hc
        cases h
        rcases ht with rfl | rfl
        · exact va_bald hx hb (it_K1 K0 (hAr k0 _ hsh)) hP k0 0 (it_w_at hsh) rfl hin hd k
        · exact va_zald hx hb (it_K1 K0 (hAr k0 _ hsh)) hP k0 0 (it_w_at hsh) rfl hin hd k
      · cases h
    · cases h
  · rename_i i k0 st2
    split at h
    · rename_i lr hsh
      split at h
      · rename_i hin
        have go : ∀ v : Value, va_rf ((lr.getD i.toNatClampNeg none).map (it_ad sz0 ka)) = v → W p l e R s m args below meth c H locs cells slots Q (F0 m (pc + 1) lsA (v :: st2.map (it_cv (it_ad sz0 ka)))) → W p l e R s m args below meth c H locs cells slots Q (F0 m pc lsA ((Value.int i :: Value.ref k0 :: st2).map (it_cv (it_ad sz0 ka)))) := fun v hv kk => by
          subst hv
          exact va_aldq hx hb (it_K1 K0 (hAr k0 _ hsh)) hP k0 0 (it_w_at hsh) rfl hin hd kk
        split at h
        · rename_i r hr; cases h; exact go _ (by simp [List.getD_eq_getElem?_getD, hr, va_rf]; rfl) k
        · rename_i hr; cases h; exact go _ (by simp [List.getD_eq_getElem?_getD, hr, va_rf]; rfl) k
        · cases h
      · cases h
    · cases h
  · rename_i k0 st2
    split at h
    · split at h
      · rename_i hlt _ t n hsh
        cases h
        exact va_alen hx hb (it_K1 K0 (hAr k0 _ hsh)) hP k0 0 (it_w_at hsh) rfl rfl hd k
      · rename_i hlt _ lr hsh
        cases h
        exact va_alen hx hb (it_K1 K0 (hAr k0 _ hsh)) hP k0 0 (it_w_at hsh) rfl rfl hd k
      · cases h
    · rename_i hge
      split at h
      · rename_i hc
        cases h
        have hT := hKo.1 (k0 - it_K) hc
        rw [← hKb k0 hge] at hT
        exact va_tlen hx hb hT hS rfl hd k
      · cases h
  · cases h
end ITS
