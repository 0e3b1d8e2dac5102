/-! The theorem of the small machine: by steps, calls by their contracts. -/
section ITC
variable {p : Program} {l : Launch} {e : Env} {R : Room} {s : State} {m : MethodId} {args : Array Value} {below : List Frame} {meth : Method} {c : Code} {H : Heap} {locs : List Loc} {cells slots : Nat} {Q : State → Prop}
variable {pc : Nat} {lsA : Array Slot} {sz0 : Nat} {ka : Nat → Nat} {kc : it_Kc}
theorem it_called {mc ms : Nat} {sh1 : it_Sh} {mem1 : it_Me} {r : Option Value} {a0 : Array Value} {st0 rest : List Value} (hr : va_Run p l e R s m args below meth c H locs cells slots mc ms (F0 m pc lsA st0) rest (it_Qc sz0 ka kc sh1 mem1 r a0) (it_A sz0)) (hS : va_S (it_A sz0) s.heap H locs)
    (kk : ∀ (D1 : va_G) (H1 : Heap) (locs1 : List Loc) (cs1 : Nat → ClassId), va_K D1 it_cl [] s → it_Hp sz0 ka D1 cs1 sh1 mem1 s H1 locs1 → W p l e R s m args below meth c H1 locs1 (cells + mc) (slots + ms) Q (F0 m (pc + 3) lsA ((r.map (it_cv (it_ad sz0 ka))).toList ++ rest))) : W p l e R s m args below meth c H locs cells slots Q (F0 m pc lsA st0) := by
  intro T hT X
  obtain ⟨v, st₀, t, T', L, h0, X', hL, e1, e2, ⟨hv, hIv, hz, hk⟩, st⟩ := hr T hT X
  cases hv
  rw [h0] at hz hk
  obtain ⟨D1, cs1, hP1, hK1, hAr1, hsz1, hlen1, -⟩ := hIv
  have hvm : s.vm.Alike t.vm := by rw [← e2]; exact X'.warmed.alike
  rw [← e1] at hP1 hsz1
  obtain ⟨t2, a1, b1⟩ := kk D1 T'.heap (locs ++ L) cs1 (va_K.moved hvm.symm hK1) ⟨hP1, fun k e hk => ⟨arrOfT_moved hvm.symm (hAr1 k e hk).1, (hAr1 k e hk).2.moved hvm.symm⟩, hsz1, hlen1,
    ⟨Nat.le_trans hS.1 (by rw [e1]; exact hz), fun q h1 h2 => by rw [e1, hk q (Nat.lt_of_lt_of_le h1 hS.1) h2]; exact hS.2.1 q h1 h2, fun q hq => by
      rcases List.mem_append.mp hq with h | h
      · exact hS.2.2 q h
      · exact hL q h⟩⟩ T' rfl X'
  exact ⟨t2, st t2 a1, b1⟩
end ITC
theorem it_cat_sum (ad : Nat → Nat) (l : List Value) : ((l.map (it_cv ad)).map fun v => v.category).sum = (l.map fun v => v.category).sum := by
  rw [List.map_map]
  congr 2
  funext v
  exact it_cv_cat _ v
set_option maxHeartbeats 8000000 in
theorem it_W (ok : it_OK) : ∀ n, it_PW n := by
  intro n
  induction n with
  | zero =>
    intro kc sz0 ka y pc M ls st sh mem r sh' mem' hM hrun
    simp [it_run] at hrun
  | succ n IH =>
    intro kc sz0 ka y pc M ls st sh mem r sh' mem' hM hrun p l e R s m args below meth c D hx hb hml hown hts hname hRf hRl hK hKo H locs cells slots lsA cs Q hH hL hc hs hend
    have hm0 := it_mono kc _ _ _ _ _ _ _ _ _ _ hrun
    rw [it_run] at hrun
    split at hrun
    · rename_i g ins a b M' hcode hM'
      cases hM.symm.trans hM'
      obtain ⟨⟨len, hd, hlen⟩, hg2, hlk, hcall⟩ := ok.2.2 y pc g ins a b M hcode hM
      have hd1 : g ≠ 2 → decode M.2.1.1 pc = .ok (ins, it_len ins) := fun hg => by
        rcases hg2 with h | h
        · exact absurd h hg
        · rcases hlen with h1 | h1
          · exact absurd h1 h
          · rw [hd, h1]
      split at hrun
      · split at hrun
        · rename_i st1 hops
          exact it_opsW hx hb hown hts (hd1 (by decide)) hlk hops (IH kc sz0 ka y _ M ls st1 sh mem r sh' mem' hM hrun p l e R s m args below meth c D hx hb hml hown hts hname hRf hRl hK hKo H locs cells slots lsA cs Q hH hL hc hs hend)
        · cases hrun
      · split at hrun
        · rename_i ls1 st1 hloc
          exact it_locW hx hb (hd1 (by decide)) hL hloc (fun lsB hLB => IH kc sz0 ka y _ M ls1 st1 sh mem r sh' mem' hM hrun p l e R s m args below meth c D hx hb hml hown hts hname hRf hRl hK hKo H locs cells slots lsB cs Q hH hLB hc hs hend)
        · cases hrun
      · split at hrun
        · rename_i pc1 st1 hbr
          have hlenK := hH.2.2.2.1
          exact it_brW (own := M.1.2.cls) (b := b) hx hb hd hlen hlk (fun i j hi hj hij => by
            rw [it_ad_lt (Nat.lt_of_lt_of_le hi hlenK), it_ad_lt (Nat.lt_of_lt_of_le hj hlenK)] at hij
            omega) hbr (IH kc sz0 ka y _ M ls st1 sh mem r sh' mem' hM hrun p l e R s m args below meth c D hx hb hml hown hts hname hRf hRl hK hKo H locs cells slots lsA cs Q hH hL hc hs hend)
        · cases hrun
      · split at hrun
        · rename_i st1 hrd
          exact it_rdW ok.1 hx hb hown hts hK hKo hH (hd1 (by decide)) hlk hrd (IH kc sz0 ka y _ M ls st1 sh mem r sh' mem' hM hrun p l e R s m args below meth c D hx hb hml hown hts hname hRf hRl hK hKo H locs cells slots lsA cs Q hH hL hc hs hend)
        · cases hrun
      · split at hrun
        · rename_i st1 sh1 mem1 hwr
          have hm1 := it_wr_mono hwr
          have hm2 := it_mono kc _ _ _ _ _ _ _ _ _ _ hrun
          refine it_wrW ok.1 hx hb (hml.trans hL.2.1.symm) hown hts hK hH (ok.2.1 y M hM).2.2.2.2 (fun q => by rw [hname]; simpa using q) hRf hRl (hd1 (by decide)) hlk hwr (by omega) (by omega) (fun H1 locs1 cs1 hH1 => ?_)
          exact IH kc sz0 ka y _ M ls st1 sh1 mem1 r sh' mem' hM hrun p l e R s m args below meth c D hx hb hml hown hts hname hRf hRl hK hKo H1 locs1 _ _ lsA cs1 Q hH1 hL (by omega) (by omega) (fun D1 H2 locs2 cs2 pc2 lsB ins2 st2 g1 g2 g3 g4 => W.cs (by omega) (by omega) (hend D1 H2 locs2 cs2 pc2 lsB ins2 st2 g1 g2 g3 g4))
        · cases hrun
      · -- calls
        split at hrun
        · rename_i M1 hM1
          split at hrun
          · rename_i hcond
            obtain ⟨hnp, hrk, hlkr, hcat, hent, hrecv⟩ := hcond
            split at hrun
            · rename_i r1 sh1 mem1 hcrun
              have hm1 := it_mono kc _ _ _ _ _ _ _ _ _ _ hcrun
              have hm2 := it_mono kc _ _ _ _ _ _ _ _ _ _ hrun
              have hMet := it_met (sz0 := sz0) (ka := ka) ok IH hM1 hent hcrun l
              obtain ⟨ha9, hcin⟩ := hcall rfl
              have ha1 : ¬ a = 9998 := by omega
              have ha2 : ¬ a = 9999 := by omega
              have ha3 : ¬ a = 9996 := by omega
              have ha4 : ¬ a = 9997 := by omega
              have hcin := hcin M1 hM1
              obtain ⟨-, hini, hnot, hpar, hcn1⟩ := ok.2.1 a M1 hM1
              have hwarm := it_warm hts
              have hws : ∀ w ∈ it_ws M1, ∀ (a' : Array Value) (U : State), s.WarmedH U.vm → w.before a' U = true := fun w hw => by
                rcases List.mem_cons.mp hw with rfl | hw
                · exact hwarm _ hcin
                · exact hwarm w hw
              have hpar' : ∀ sig, parseMethodDescriptor M1.1.2.desc = some sig → M1.2.2.1 = sig.parameters.length := fun sig h => by
                rw [h] at hpar
                exact (Option.some.inj hpar).symm
              have hrm : M1.2.2.2.1 + 1 ≤ R.frames ∧ 8 + (M1.2.1.2.1 + 11) + M1.2.2.2.2 ≤ R.locals := by omega
              have hIv : it_Iv sz0 ka kc sh mem s H := ⟨D, cs, hH.1, hK, hH.2.1, hH.2.2.1, hH.2.2.2.1, hKo.kept (fun a h1 h2 => hH.2.2.2.2.2.1 a h1 h2)⟩
              have hblind : FrameBlind (va_Pc ((st.take (M1.2.2.1 + it_nst ins)).reverse.map (it_cv (it_ad sz0 ka))) (fun U => it_Iv sz0 ka kc sh mem U U.heap)) := fun a U g mk q => ⟨q.1, it_Iv.moved (u := U) (U := U.calling g mk a) (Vm.Alike.refl U.vm) q.2⟩
              have hpre : ∀ U : State, U.heap = H → s.WarmedH U.vm → va_Pc ((st.take (M1.2.2.1 + it_nst ins)).reverse.map (it_cv (it_ad sz0 ka))) (fun U => it_Iv sz0 ka kc sh mem U U.heap) ((st.take (M1.2.2.1 + it_nst ins)).reverse.map (it_cv (it_ad sz0 ka))).toArray U := fun U hU hW => ⟨rfl, by show it_Iv sz0 ka kc sh mem U U.heap; rw [hU]; exact hIv.moved hW.alike⟩
              have hst : st.map (it_cv (it_ad sz0 ka)) = ((st.take (M1.2.2.1 + it_nst ins)).reverse.map (it_cv (it_ad sz0 ka))).reverse ++ (st.drop (M1.2.2.1 + it_nst ins)).map (it_cv (it_ad sz0 ka)) := by
                rw [← List.map_reverse, List.reverse_reverse, ← List.map_append, List.take_append_drop]
              have hlv : (st.take (M1.2.2.1 + it_nst ins)).reverse.length = M1.2.2.1 + it_nst ins := by simp; omega
              have hcs : (((st.drop (M1.2.2.1 + it_nst ins)).map (it_cv (it_ad sz0 ka))).map fun v => v.category).sum ≤ 8 := by rw [it_cat_sum]; exact hcat
              have hsizeL : lsA.size = M.2.1.2.1 := hL.2.1
              have hd3 := hd1 (by decide)
              have cont : ∀ a0, va_Run p l e R s m args below meth c H locs cells slots (sh1.length - sh.length) (it_sl sh1 - it_sl sh) (F0 m pc lsA (st.map (it_cv (it_ad sz0 ka)))) ((st.drop (M1.2.2.1 + it_nst ins)).map (it_cv (it_ad sz0 ka))) (it_Qc sz0 ka kc sh1 mem1 r1 a0) (it_A sz0) → W p l e R s m args below meth c H locs cells slots Q (F0 m pc lsA (st.map (it_cv (it_ad sz0 ka)))) := by
                intro a0 hrn
                refine it_called hrn hH.2.2.2.2 (fun D1 H1 locs1 cs1 hK1 hH1 => ?_)
                have := IH kc sz0 ka y (pc + 3) M ls (r1.toList ++ st.drop (M1.2.2.1 + it_nst ins)) sh1 mem1 r sh' mem' hM hrun p l e R s m args below meth c D1 hx hb hml hown hts hname hRf hRl hK1 hKo H1 locs1 (cells + (sh1.length - sh.length)) (slots + (it_sl sh1 - it_sl sh)) lsA cs1 Q hH1 hL (by omega) (by omega) (fun D2 H2 locs2 cs2 pc2 lsB ins2 st2 g1 g2 g3 g4 => W.cs (by omega) (by omega) (hend D2 H2 locs2 cs2 pc2 lsB ins2 st2 g1 g2 g3 g4))
                rw [List.map_append] at this
                have hr1 : r1.toList.map (it_cv (it_ad sz0 ka)) = (r1.map (it_cv (it_ad sz0 ka))).toList := by cases r1 <;> rfl
                rw [hr1] at this
                exact this
              unfold it_recv at hrecv
              split at hrecv
              · -- static
                rename_i idx vs0 hvs
                simp only [it_Lk, if_neg ha2, if_neg ha3, if_neg ha4] at hlk
                obtain ⟨hml1, hstat⟩ := hlk M1 hM1
                rcases hml1 with hlink | hlink
                · exact cont _ (va_runS ⟨hx, hb, hml, hown, hts⟩ hMet ⟨⟨rfl, rfl, hrm.1, hrm.2, hws, List.mem_cons_self, hts _ hcin, hts _ hini, hnot, hpar', hts _ hlink⟩, hts _ hstat⟩ ⟨hblind, hpre⟩ rfl (by rw [List.length_map, hlv]; rfl) hsizeL hst (lv_room hcs) hd3 ⟨by omega, by omega⟩)
                · exact cont _ (va_runSN ⟨hx, hb, hml, hown, hts⟩ hMet ⟨⟨⟨rfl, rfl, hrm.1, hrm.2, hws, List.mem_cons_self⟩, hts _ hcin, hts _ hini, hnot, hpar', hts _ hlink⟩, hts _ hstat, trivial⟩ ⟨hblind, hpre⟩ rfl (by rw [List.length_map, hlv]; rfl) hsizeL hst (lv_room hcs) hd3 ⟨by omega, by omega⟩)
              · -- constructors
                rename_i idx k0 vs0 hvs
                simp only [it_Lk, if_neg ha1] at hlk
                obtain ⟨hnm, hret, hml1, hinst⟩ := hlk M1 hM1
                rw [hvs] at hblind hpre hst hlv hMet
                simp only [List.map_cons, List.reverse_cons, List.append_assoc, List.singleton_append] at hst
                have hlen0 : (vs0.map (it_cv (it_ad sz0 ka))).length = M1.2.2.1 := by simp only [List.length_cons, it_nst] at hlv; simp; omega
                rw [it_ws, hret] at hMet
                have hws' : ∀ w ∈ (Cond.code M1.1.2 M1.2.1.1 M1.2.1.2.1 none :: it_tb), ∀ (a' : Array Value) (U : State), s.WarmedH U.vm → w.before a' U = true := by rw [it_ws, hret] at hws; exact hws
                have hcin' : Cond.code M1.1.2 M1.2.1.1 M1.2.1.2.1 none ∈ it_tb := by rw [hret] at hcin; exact hcin
                rcases hml1 with hlink | hlink
                · exact cont _ (va_runI ⟨hx, hb, hml, hown, hts⟩ hMet ⟨⟨rfl, rfl, hrm.1, hrm.2, hws', List.mem_cons_self, hts _ hcin', hts _ hini, hnot, hpar', hts _ hlink⟩, hnm, hts _ hinst⟩ ⟨hblind, hpre⟩ rfl hlen0 hsizeL hst (lv_room hcs) hd3 ⟨by omega, by omega⟩)
                · exact cont _ (va_runIN ⟨hx, hb, hml, hown, hts⟩ hMet ⟨⟨⟨rfl, rfl, hrm.1, hrm.2, hws', List.mem_cons_self⟩, hts _ hcin', hts _ hini, hnot, hpar', hts _ hlink⟩, hnm, hts _ hinst⟩ ⟨hblind, hpre⟩ rfl hlen0 hsizeL hst (lv_room hcs) hd3 ⟨by omega, by omega⟩)
              · -- virtual
                rename_i idx k0 vs0 hvs
                simp only [it_Lk] at hlk
                obtain ⟨hml1, hinst, hsel, q, hq, hqc⟩ := hlk M1 hM1
                split at hrecv
                · rename_i ci fs hsh
                  have hci : ci = M1.1.1 := by simpa using hrecv
                  subst hci
                  rw [hvs] at hblind hpre hst hlv hMet
                  simp only [List.map_cons, List.reverse_cons, List.append_assoc, List.singleton_append] at hst
                  have hlen0 : (vs0.map (it_cv (it_ad sz0 ka))).length = M1.2.2.1 := by simp only [List.length_cons, it_nst] at hlv; simp; omega
                  have hrec := va_recv (q0 := k0) hK hH.1 hq (it_w_at hsh)
                  rw [hqc] at hrec
                  rcases hml1 with hlink | hlink
                  · exact cont _ (va_runV ⟨hx, hb, hml, hown, hts⟩ hMet ⟨⟨rfl, rfl, hrm.1, hrm.2, hws, List.mem_cons_self, hts _ hcin, hts _ hini, hnot, hpar', hts _ hlink⟩, hts _ hinst, hts _ hsel⟩ ⟨hblind, hrec, hpre⟩ rfl hlen0 hsizeL hst (lv_room hcs) hd3 ⟨by omega, by omega⟩)
                  · exact cont _ (va_runVN ⟨hx, hb, hml, hown, hts⟩ hMet ⟨⟨⟨rfl, rfl, hrm.1, hrm.2, hws, List.mem_cons_self⟩, hts _ hcin, hts _ hini, hnot, hpar', hts _ hlink⟩, hts _ hinst, hts _ hsel⟩ ⟨hblind, hrec, hpre⟩ rfl hlen0 hsizeL hst (lv_room hcs) hd3 ⟨by omega, by omega⟩)
                · cases hrecv
              · cases hrecv
            · cases hrun
          · cases hrun
        · cases hrun
      · -- the end
        split at hrun
        · rename_i r1 hrt
          cases hrun
          have := hend D H locs cs pc lsA ins st hK hH (hd1 (by decide)) hrt
          exact W.cs (by omega) (by omega) this
        · cases hrun
      · split at hrun
        · rename_i st1 hmth
          exact it_mthW hx hb (hml.trans hL.2.1.symm) hown hts hRf hRl (by omega) (by omega) (hd1 (by decide)) hlk hmth (IH kc sz0 ka y _ M ls st1 sh mem r sh' mem' hM hrun p l e R s m args below meth c D hx hb hml hown hts hname hRf hRl hK hKo H locs cells slots lsA cs Q hH hL hc hs hend)
        · cases hrun
      · cases hrun
    · cases hrun
