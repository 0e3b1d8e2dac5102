/-! Group 4: writes, new cells. -/
theorem it_sl_set {sh : it_Sh} {k : Nat} {x y : it_Ce} (h : sh[k]? = some x) (hz : it_cz y = it_cz x) : it_sl (sh.set k y) = it_sl sh := by
  unfold it_sl
  congr 1
  refine List.ext_getElem? fun j => ?_
  simp only [List.getElem?_map, List.getElem?_set]
  by_cases hj : k = j
  · subst hj
    have h2 := (List.getElem?_eq_some_iff.mp h).2
    simp [it_lt h, hz, h2]
  · simp [hj]
theorem it_sl_push {sh : it_Sh} {x : it_Ce} : it_sl (sh ++ [x]) = it_sl sh + it_cz x := by simp [it_sl]
/-- arrays stay arrays of their type -/
theorem it_ar_set {s : State} {cs : Nat → ClassId} {sh : it_Sh} {k : Nat} {y : it_Ce} (hAr : ∀ k e, sh[k]? = some (.inr e) → ArrOfT s (cs k) (it_ty e) ∧ va_RA s (cs k) (it_ty e)) (hy : ∀ e, y = .inr e → ∃ e0, sh[k]? = some (.inr e0) ∧ it_ty e0 = it_ty e) : ∀ j e, (sh.set k y)[j]? = some (.inr e) → ArrOfT s (cs j) (it_ty e) ∧ va_RA s (cs j) (it_ty e) := by
  intro j e h
  by_cases hj : k = j
  · subst hj
    rw [List.getElem?_set] at h
    simp only [if_true] at h
    split at h
    · obtain ⟨e0, h1, h2⟩ := hy e (Option.some.inj h)
      rw [← h2]
      exact hAr k e0 h1
    · cases h
  · rw [List.getElem?_set_ne hj] at h
    exact hAr j e h
theorem it_ar_push {s : State} {cs : Nat → ClassId} {sh : it_Sh} {cA : ClassId} {y : it_Ce} (hAr : ∀ k e, sh[k]? = some (.inr e) → ArrOfT s (cs k) (it_ty e) ∧ va_RA s (cs k) (it_ty e)) (hy : ∀ e, y = .inr e → ArrOfT s cA (it_ty e) ∧ va_RA s cA (it_ty e)) : ∀ j e, (sh ++ [y])[j]? = some (.inr e) → ArrOfT s (it_cs1 cs sh.length cA j) (it_ty e) ∧ va_RA s (it_cs1 cs sh.length cA j) (it_ty e) := by
  intro j e h
  by_cases hj : j < sh.length
  · rw [List.getElem?_append_left hj] at h
    rw [it_cs1, if_neg (Nat.ne_of_lt hj)]
    exact hAr j e h
  · have hl := (List.getElem?_eq_some_iff.mp h).1
    have hj2 : j = sh.length := by simp at hl; omega
    subst hj2
    rw [List.getElem?_append_right (by omega), Nat.sub_self] at h
    rw [it_cs1, if_pos rfl]
    exact hy e (Option.some.inj h)
section ITS
variable {p : Program} {l : Launch} {e : Env} {R : Room} {s : State} {m : MethodId} {args : Array Value} {below : List Frame} {meth : Method} {c : Code} {H : Heap} {locs : List Loc} {cells slots : Nat} {Q : State → Prop}
variable {cc : ByteArray} {pc : Nat} {lsA : Array Slot} {own : String} {sz0 : Nat} {ka : Nat → Nat} {kc : it_Kc} {D : va_G} {cs : Nat → ClassId} {sh : it_Sh} {mem : it_Me}
set_option maxHeartbeats 8000000 in
theorem it_wrW (hC : it_Ck) (hx : p.tables.exec = Jvm.exec) (hb : c.code = cc) (hml : c.maxLocals = lsA.size) (hown : s.vm.findClass own = some m.cls) (hts : ∀ w ∈ it_tb, w.before args s = true) (K0 : va_K D it_cl [] s) (hH : it_Hp sz0 ka D cs sh mem s H locs) {ins : Instr} {o fr lo a b : Nat} {init : Bool} (hcn : it_cn[o]? = some own) (hinit : init = true → meth.name = "<init>") (hfr : fr ≤ R.frames) (hlo : lo ≤ R.locals) {st st1 : List Value} {sh1 : it_Sh} {mem1 : it_Me} (hd : decode cc pc = .ok (ins, it_len ins)) (hl : it_Lk own pc ins a b) (h : it_wr o init fr lo sh mem ins a b st = some (st1, sh1, mem1))
    (hc1 : cells + (sh1.length - sh.length) ≤ R.cells) (hs1 : slots + (it_sl sh1 - it_sl sh) ≤ R.slots)
    (k : ∀ (H1 : Heap) (locs1 : List Loc) (cs1 : Nat → ClassId), it_Hp sz0 ka D cs1 sh1 mem1 s H1 locs1 → W p l e R s m args below meth c H1 locs1 (cells + (sh1.length - sh.length)) (slots + (it_sl sh1 - it_sl sh)) Q (F0 m (pc + it_len ins) lsA (st1.map (it_cv (it_ad sz0 ka))))) : W p l e R s m args below meth c H locs cells slots Q (F0 m pc lsA (st.map (it_cv (it_ad sz0 ka)))) := by
  obtain ⟨hP, hAr, hsz, hlen, hS⟩ := hH
  have hD : va_D (it_A sz0) (it_w (it_ad sz0 ka) cs sh mem) := it_D hlen
  unfold it_wr at h
  split at h
  · -- putfield
    rename_i idx v k0 st2
    split at h
    · rename_i ci fs hsh
      split at h
      · rename_i hca
        obtain ⟨rfl, hfin⟩ := hca
        obtain ⟨q, hq, hlt, hq1, hlink⟩ := hl
        obtain ⟨hq0, hin, -, ty, hty, hnm, hk⟩ := hC _ _ hq
        obtain ⟨hk1, hk2⟩ := hk b hlt
        have he := it_w_at (ad := it_ad sz0 ka) (cs := cs) (mem := mem) hsh
        have hfin' : (q.2.1 b).2.2.2 = false ∨ ((q.2.1 b).2.2.2 = true ∧ meth.name = "<init>" ∧ q.1 = own) := by
          rw [hk1]
          rcases hfin with h1 | ⟨h1, rfl⟩
          · exact Or.inl h1
          · by_cases hf : it_flag it_ff o b = true
            · exact Or.inr ⟨hf, hinit h1, Option.some.inj (hq0.symm.trans hcn)⟩
            · exact Or.inl (by simpa using hf)
        split at h
        · rename_i x hf hfk
          split at h
          · rename_i hz
            cases h
            rcases hk2 with ⟨-, hty2⟩ | ⟨hbad, -⟩
            · have hn : narrow (ty b) (.int x) = .int x ∧ fits (ty b) (.int x) = true := by
                rw [hty2]
                split
                · rename_i hzt
                  rcases hz with h0 | rfl | rfl
                  · rw [h0] at hzt; cases hzt
                  · exact ⟨rfl, rfl⟩
                  · exact ⟨rfl, rfl⟩
                · exact ⟨rfl, rfl⟩
              refine it_putf (D := D) (C := q.1) (T := q.2.1) (N := q.2.2) hx hb hts hin ty hty hnm hown K0 hP hD hS k0 he hq b hlt hq1 (hts _ hlink) hfin' hn.1 hn.2 (by simpa using (List.getElem?_eq_some_iff.mp hf).1) hd (fun H1 locs1 z1 hP1 hS1 => ?_)
              replace hP1 : va_P D it_cl (it_w (it_ad sz0 ka) cs sh (it_up mem k0 (upd (mem k0) b x))) H1 := by rw [← it_w_int hsh hf]; exact hP1
              exact W.cs (by omega) (by omega) (k H1 locs1 cs ⟨hP1, hAr, by rw [z1, hsz], hlen, hS1⟩)
            · rw [hfk] at hbad; cases hbad
          · cases h
        · rename_i r0 fk0 r hf hfk
          cases h
          have hl1 : (sh.set k0 (.inl (ci, fs.set b (some (some r))))).length = sh.length := List.length_set
          have hl2 : it_sl (sh.set k0 (.inl (ci, fs.set b (some (some r))))) = it_sl sh := it_sl_set hsh (by simp [it_cz])
          rcases hk2 with ⟨hbad, -⟩ | ⟨-, hty2⟩
          · rw [hfk] at hbad; cases hbad
          · have hn : narrow (ty b) (.ref (it_ad sz0 ka r)) = .ref (it_ad sz0 ka r) ∧ fits (ty b) (.ref (it_ad sz0 ka r)) = true := by
              rcases hty2 with ⟨n, hn⟩ | ⟨t, hn⟩ <;> rw [hn] <;> exact ⟨rfl, rfl⟩
            refine it_putf (D := D) (C := q.1) (T := q.2.1) (N := q.2.2) hx hb hts hin ty hty hnm hown K0 hP hD hS k0 he hq b hlt hq1 (hts _ hlink) hfin' hn.1 hn.2 (by simpa using (List.getElem?_eq_some_iff.mp hf).1) hd (fun H1 locs1 z1 hP1 hS1 => ?_)
            replace hP1 : va_P D it_cl (it_w (it_ad sz0 ka) cs (sh.set k0 (.inl (ci, fs.set b (some (some r))))) mem) H1 := by rw [← it_w_ref hsh]; exact hP1
            exact W.cs (by omega) (by omega) (k H1 locs1 cs ⟨hP1, it_ar_set hAr (fun e q => by cases q), by rw [z1, hsz, hl1], by rw [hl1]; exact hlen, hS1⟩)
        · cases h
      · cases h
    · cases h
  · -- iastore
    rename_i x i k0 st2
    split at h
    · rename_i t n hsh
      split at h
      · rename_i hc
        obtain ⟨rfl, hin⟩ := hc
        cases h
        refine it_iast hx hb (it_K1 K0 (hAr k0 _ hsh)) hP hD hS k0 0 (it_w_at hsh) rfl hin hd (fun H1 locs1 z1 hP1 hS1 => ?_)
        rw [it_w_num hsh] at hP1
        exact W.cs (by omega) (by omega) (k H1 locs1 cs ⟨hP1, hAr, by rw [z1, hsz], hlen, hS1⟩)
      · cases h
    · cases h
  · -- bastore
    rename_i x i k0 st2
    split at h
    · rename_i t n hsh
      split at h
      · rename_i hc
        obtain ⟨rfl, hin⟩ := hc
        cases h
        refine it_bast hx hb (it_K1 K0 (hAr k0 _ hsh)) hP hD hS k0 0 (it_w_at hsh) rfl hin hd (fun H1 locs1 z1 hP1 hS1 => ?_)
        rw [it_w_num hsh] at hP1
        exact W.cs (by omega) (by omega) (k H1 locs1 cs ⟨hP1, hAr, by rw [z1, hsz], hlen, hS1⟩)
      · split at h
        · rename_i hc
          obtain ⟨rfl, hin⟩ := hc
          cases h
          refine it_zast hx hb (it_K1 K0 (hAr k0 _ hsh)) hP hD hS k0 0 (it_w_at hsh) rfl hin hd (fun H1 locs1 z1 hP1 hS1 => ?_)
          rw [it_w_num hsh] at hP1
          exact W.cs (by omega) (by omega) (k H1 locs1 cs ⟨hP1, hAr, by rw [z1, hsz], hlen, hS1⟩)
        · cases h
    · cases h
  · -- aastore
    rename_i r i k0 st2
    split at h
    · rename_i lr ci fs hsh hshr
      split at h
      · rename_i hc
        obtain ⟨rfl, hin⟩ := hc
        cases h
        have hl1 : (sh.set k0 (.inr (.inr (lr.set i.toNatClampNeg (some r))))).length = sh.length := List.length_set
        have hl2 : it_sl (sh.set k0 (.inr (.inr (lr.set i.toNatClampNeg (some r))))) = it_sl sh := it_sl_set hsh (by simp [it_cz])
        refine it_astq (r := (RX7, TX7, 19)) hx hb (it_K1 K0 (hAr k0 _ hsh)) hP hD hS k0 0 r 6 (it_w_at hsh) rfl (it_w_at hshr) rfl hin hd (fun H1 locs1 z1 hP1 hS1 => ?_)
        rw [it_w_arr hsh (Nat.not_le.mp fun q => hin (Or.inr q))] at hP1
        exact W.cs (by omega) (by omega) (k H1 locs1 cs ⟨hP1, it_ar_set hAr (fun e q => by cases q; exact ⟨_, hsh, rfl⟩), by rw [z1, hsz, hl1], by rw [hl1]; exact hlen, hS1⟩)
      · cases h
    · cases h
  · -- new
    split at h
    · rename_i fs hfs
      split at h
      · rename_i hK
        cases h
        obtain ⟨q, hq, hcl, hinst, hini⟩ := hl
        obtain ⟨hq0, hin, ⟨fs', hfs', hfl⟩, ty, hty, hnm, hk⟩ := hC _ _ hq
        cases hfs.symm.trans hfs'
        have had : it_ad sz0 ka sh.length = H.size := by rw [it_ad_lt hK, hsz]
        have hl1 : (sh ++ [(.inl (a, fs) : it_Ce)]).length = sh.length + 1 := by simp
        have hl2 : it_sl (sh ++ [(.inl (a, fs) : it_Ce)]) = it_sl sh + q.2.2 := by rw [it_sl_push, ← hfl]; rfl
        have hfd : ∀ j, it_fkd a j = fs[j]? := fun j => by simp only [it_fkd, hfs]
        refine it_newo (D := D) (ci := a) (C := q.1) (T := q.2.1) (N := q.2.2) (fs := fs.mapIdx (fun j f => it_fv (it_ad sz0 ka) (it_up mem sh.length (fun _ => 0)) sh.length j f)) hx hb hts hin ty hty hown (hts _ hcl) (hts _ hinst) (hts _ hini) K0 hP hS hq (fun j hj => ?_) (by omega) (by omega) hd (fun H1 z1 hP1 hS1 => ?_)
        · obtain ⟨-, hk2⟩ := hk j hj
          simp only [vp_V, List.getD_eq_getElem?_getD, List.getElem?_mapIdx]
          rcases hk2 with ⟨h1, h2⟩ | ⟨h1, h2⟩
          · rw [hfd] at h1
            rw [h1, h2]
            split <;> simp [it_fv, it_up, defaultValue]
          · rw [hfd] at h1
            rw [h1]
            rcases h2 with ⟨n, h2⟩ | ⟨t, h2⟩ <;> rw [h2] <;> simp [it_fv, defaultValue]
        · have ew := it_w_push (ad := it_ad sz0 ka) (cs := cs) (sh := sh) (mem := mem) (cA := 0) (mem1 := it_up mem sh.length (fun _ => 0)) (x := .inl (a, fs)) (y := .inr (a, fs.mapIdx (fun j f => it_fv (it_ad sz0 ka) (it_up mem sh.length (fun _ => 0)) sh.length j f))) (fun j hj z => it_ce_up hj) rfl
          rw [← had, ew] at hP1
          have := k H1 locs (it_cs1 cs sh.length 0) ⟨hP1, it_ar_push hAr (fun e q => by cases q), by rw [z1, hsz, hl1]; omega, by rw [hl1]; exact hK, hS1⟩
          rw [← had]
          exact W.cs (by omega) (by omega) this
      · cases h
    · cases h
  · -- newarray
    rename_i t n st2
    split at h
    · rename_i g hg
      split at h
      · rename_i hK
        cases h
        have had : it_ad sz0 ka sh.length = H.size := by rw [it_ad_lt hK.1, hsz]
        have hl1 : (sh ++ [(.inr (.inl (g, n.toNatClampNeg)) : it_Ce)]).length = sh.length + 1 := by simp
        have hl2 : it_sl (sh ++ [(.inr (.inl (g, n.toNatClampNeg)) : it_Ce)]) = it_sl sh + n.toNatClampNeg := by rw [it_sl_push]; rfl
        have hg' : defaultValue (newarray.typeOf t) = .int 0 ∧ n.toNatClampNeg * componentBytes (newarray.typeOf t) ≤ 536870912 ∧ it_ty (.inl (g, n.toNatClampNeg)) = newarray.typeOf t := by
          have := hK.2.2
          cases t <;> cases hg <;> refine ⟨rfl, ?_, rfl⟩ <;> simp only [newarray.typeOf, componentBytes] <;> omega
        refine it_newn hx hb (hts _ hl) hg'.1 hP hS hK.2.1 hg'.2.1 (by omega) (by omega) hd (fun cA H1 z1 hA1 hA2 hP1 hS1 => ?_)
        rw [← had, it_w_push (cA := cA) (mem1 := it_up mem sh.length (fun _ => 0)) (x := .inr (.inl (g, n.toNatClampNeg))) (fun j hj z => it_ce_up hj) (by simp [it_ce, it_cs1, it_up])] at hP1
        have := k H1 locs (it_cs1 cs sh.length cA) ⟨hP1, it_ar_push hAr (fun e q => by cases q; rw [hg'.2.2]; exact ⟨hA1, hA2⟩), by rw [z1, hsz, hl1]; omega, by rw [hl1]; exact hK.1, hS1⟩
        rw [← had]
        exact W.cs (by omega) (by omega) this
      · cases h
    · cases h
  · -- anewarray
    rename_i n st2
    split at h
    · rename_i hK
      cases h
      have had : it_ad sz0 ka sh.length = H.size := by rw [it_ad_lt hK.1, hsz]
      have hl1 : (sh ++ [(.inr (.inr (List.replicate n.toNatClampNeg none)) : it_Ce)]).length = sh.length + 1 := by simp
      have hl2 : it_sl (sh ++ [(.inr (.inr (List.replicate n.toNatClampNeg none)) : it_Ce)]) = it_sl sh + n.toNatClampNeg := by rw [it_sl_push]; simp [it_cz]
      refine it_newr hx hb hown (hts _ hl.1) (hts _ hl.2) hP hS hK.2.1 (by have := hK.2.2; omega) (by omega) (by omega) hd (fun cA H1 z1 hA1 hA2 hP1 hS1 => ?_)
      rw [← had, it_w_push (cA := cA) (mem1 := mem) (x := .inr (.inr (List.replicate n.toNatClampNeg none))) (fun j hj z => rfl) (by
        simp only [it_ce, it_cs1, if_true, List.length_replicate]
        congr 7
        funext z
        by_cases hz : z < n.toNatClampNeg <;> simp [List.getD_eq_getElem?_getD, List.getElem?_replicate, hz])] at hP1
      have := k H1 locs (it_cs1 cs sh.length cA) ⟨hP1, it_ar_push hAr (fun e q => by cases q; exact ⟨hA1, hA2⟩), by rw [z1, hsz, hl1]; omega, by rw [hl1]; exact hK.1, hS1⟩
      rw [← had]
      exact W.cs (by omega) (by omega) this
    · cases h
  · -- Object's constructor
    rename_i idx k0 st2
    split at h
    · rename_i hc
      obtain ⟨rfl, hf1, hl1⟩ := hc
      cases h
      rw [it_Lk, if_pos rfl] at hl
      refine W.objInit hx hb hown (hts _ hl.1) (hts _ hl.2.1) (hts _ hl.2.2) rfl hml.symm rfl hd (Nat.le_trans hf1 hfr) ?_ (W.cs (by omega) (by omega) (k H locs cs ⟨hP, hAr, hsz, hlen, hS⟩))
      have : ((st1.map (it_cv (it_ad sz0 ka))).map fun v => v.category).sum = (st1.map fun v => v.category).sum := by
        rw [List.map_map]
        congr 2
        funext v
        exact it_cv_cat _ v
      show 2 * 0 + ((st1.map (it_cv (it_ad sz0 ka))).map fun v => v.category).sum + 12 ≤ R.locals
      omega
    · cases h
  · -- arraycopy
    rename_i idx n dp k1 sp k0 st2
    split at h
    · rename_i t n0 hsh
      split at h
      · rename_i hc
        obtain ⟨rfl, rfl, rfl, hf1, hl1, g1, g2, g3, g4, g5⟩ := hc
        cases h
        rw [it_Lk, if_pos rfl] at hl
        refine it_copy hx hb hml hown (hts _ hl.1) (hts _ hl.2.1) (hts _ hl.2.2.1) (hts _ hl.2.2.2) (it_K1 K0 (hAr k1 _ hsh)) hP hD hS k1 0 (it_w_at hsh) rfl g1 g2 g3 g4 g5 (Nat.le_trans hf1 hfr) ?_ hd (fun H1 locs1 z1 hP1 hS1 => ?_)
        · have : ((st1.map (it_cv (it_ad sz0 ka))).map fun v => v.category).sum = (st1.map fun v => v.category).sum := by
            rw [List.map_map]
            congr 2
            funext v
            exact it_cv_cat _ v
          exact Nat.le_trans (by rw [this]; exact hl1) hlo
        · rw [it_w_num hsh] at hP1
          exact W.cs (by omega) (by omega) (k H1 locs1 cs ⟨hP1, hAr, by rw [z1, hsz], hlen, hS1⟩)
      · cases h
    · cases h
  · cases h
end ITS
