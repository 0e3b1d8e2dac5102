/-! Halfwords in lockstep. Written by wip/whole/gen_c2.py -/
def CX (kc : it_Kc) (i : Nat) (h : Int32) (m : it_Me) (Φ : Int32 → it_Me → Prop) : Prop := (hw h = 0 → w_105 kc 2 h m Φ) ∧ (¬ hw h = 0 → w_106 kc (14 + 5 * i) (hw h) (m (14 + 5 * i) 3 + 2) m Φ)
theorem u_im {kc : it_Kc} {i : Nat} {W p f o v : Int32} {m : it_Me} {Φ : Int32 → it_Me → Prop} (e : W &&& 127 = 19) (ef : it_us W 12 &&& 7 = f) (g1 : f = 1 → it_us W 25 = 0) (g2 : f = 5 → it_us W 25 = 0 ∨ it_us W 25 = 32) (eo : (if it_us W 12 &&& 7 = 5 ∧ it_us W 25 = 32 then (1 : Int32) else 0) = o) (hv : ∀ (m' : it_Me) (Ψ : Int32 → it_Me → Prop), Ψ v m' → w_119 kc f o (m (14 + 5 * i + 2) (Int32.toNatClampNeg (it_us W 15 &&& 31))) (it_shr W 20) m' Ψ) (h : Φ 0 (it_sv (wr m i (it_us W 7 &&& 31) v) (14 + 5 * i) 3 p)) : w_106 kc (14 + 5 * i) W p m Φ := by
  refine o_19 e (c_117 (fun q => q.2 (g1 (by rw [← ef]; exact q.1))) (fun q => (g2 (by rw [← ef]; exact q.1)).elim q.2.1 q.2.2) ?_)
  rw [eo]
  unfold w_117_66
  refine c_109 ?_
  rw [ef]
  exact hv _ _ (c_107 h)
theorem u_I {kc : it_Kc} {i : Nat} {W p rd rs im : Int32} {m : it_Me} {Φ : Int32 → it_Me → Prop} (t : isI W 19 0 rd rs im) (h : Φ 0 (it_sv (wr m i rd (m (14 + 5 * i + 2) (Int32.toNatClampNeg rs) + im)) (14 + 5 * i) 3 p)) : w_106 kc (14 + 5 * i) W p m Φ := by
  obtain ⟨_, t1, t2, t3, t4, t5⟩ := t
  refine u_im t1 t2 (fun q => absurd q (by decide)) (fun q => absurd q (by decide)) (o := 0) (if_neg (fun q => absurd (t2.symm.trans q.1) (by decide))) (v := m (14 + 5 * i + 2) (Int32.toNatClampNeg rs) + im) (fun m' Ψ hΨ => ?_) (by rw [t3]; exact h)
  rw [t4, t5]
  unfold w_119 w_119_57
  exact ⟨fun _ => ⟨fun _ => hΨ, fun q => absurd rfl q⟩, fun q => absurd rfl q⟩
theorem u_A {kc : it_Kc} {i : Nat} {W p rd rs im : Int32} {m : it_Me} {Φ : Int32 → it_Me → Prop} (t : isI W 19 7 rd rs im) (h : Φ 0 (it_sv (wr m i rd (m (14 + 5 * i + 2) (Int32.toNatClampNeg rs) &&& im)) (14 + 5 * i) 3 p)) : w_106 kc (14 + 5 * i) W p m Φ := by
  obtain ⟨_, t1, t2, t3, t4, t5⟩ := t
  refine u_im t1 t2 (fun q => absurd q (by decide)) (fun q => absurd q (by decide)) (o := 0) (if_neg (fun q => absurd (t2.symm.trans q.1) (by decide))) (v := m (14 + 5 * i + 2) (Int32.toNatClampNeg rs) &&& im) (fun m' Ψ hΨ => ?_) (by rw [t3]; exact h)
  rw [t4, t5]
  unfold w_119
  exact ⟨fun q => absurd q (by decide), fun _ => ⟨fun q => absurd q (by decide), fun _ => ⟨fun q => absurd q (by decide), fun _ => ⟨fun q => absurd q (by decide), fun _ => ⟨fun q => absurd q (by decide), fun _ => ⟨fun q => absurd q (by decide), fun _ => ⟨fun q => absurd q (by decide), fun _ => hΨ⟩⟩⟩⟩⟩⟩⟩
theorem u_sl {kc : it_Kc} {i : Nat} {W p rd rs sh : Int32} {m : it_Me} {Φ : Int32 → it_Me → Prop} (t : isH W 1 rd rs 0 sh) (h : Φ 0 (it_sv (wr m i rd (it_shl (m (14 + 5 * i + 2) (Int32.toNatClampNeg rs)) sh)) (14 + 5 * i) 3 p)) : w_106 kc (14 + 5 * i) W p m Φ := by
  obtain ⟨_, t1, t2, t3, t4, t5, t6⟩ := t
  refine u_im t1 t2 (fun _ => t5) (fun q => absurd q (by decide)) (o := 0) (if_neg (fun q => absurd (t2.symm.trans q.1) (by decide))) (v := it_shl (m (14 + 5 * i + 2) (Int32.toNatClampNeg rs)) sh) (fun m' Ψ hΨ => ?_) (by rw [t3]; exact h)
  rw [t4]
  unfold w_119
  rw [t6]
  exact ⟨fun q => absurd q (by decide), fun _ => ⟨fun _ => hΨ, fun q => absurd rfl q⟩⟩
theorem u_sr {kc : it_Kc} {i : Nat} {W p rd rs sh : Int32} {m : it_Me} {Φ : Int32 → it_Me → Prop} (t : isH W 5 rd rs 0 sh) (h : Φ 0 (it_sv (wr m i rd (it_us (m (14 + 5 * i + 2) (Int32.toNatClampNeg rs)) sh)) (14 + 5 * i) 3 p)) : w_106 kc (14 + 5 * i) W p m Φ := by
  obtain ⟨_, t1, t2, t3, t4, t5, t6⟩ := t
  refine u_im t1 t2 (fun q => absurd q (by decide)) (fun _ => Or.inl t5) (o := 0) (if_neg (fun q => absurd (t5.symm.trans q.2) (by decide))) (v := it_us (m (14 + 5 * i + 2) (Int32.toNatClampNeg rs)) sh) (fun m' Ψ hΨ => ?_) (by rw [t3]; exact h)
  rw [t4]
  unfold w_119 w_119_113
  rw [t6]
  exact ⟨fun q => absurd q (by decide), fun _ => ⟨fun q => absurd q (by decide), fun _ => ⟨fun q => absurd q (by decide), fun _ => ⟨fun q => absurd q (by decide), fun _ => ⟨fun q => absurd q (by decide), fun _ => ⟨fun _ => ⟨fun _ => hΨ, fun q => absurd rfl q⟩, fun q => absurd rfl q⟩⟩⟩⟩⟩⟩
theorem u_sa {kc : it_Kc} {i : Nat} {W p rd rs sh : Int32} {m : it_Me} {Φ : Int32 → it_Me → Prop} (t : isH W 5 rd rs 32 sh) (h : Φ 0 (it_sv (wr m i rd (it_shr (m (14 + 5 * i + 2) (Int32.toNatClampNeg rs)) sh)) (14 + 5 * i) 3 p)) : w_106 kc (14 + 5 * i) W p m Φ := by
  obtain ⟨_, t1, t2, t3, t4, t5, t6⟩ := t
  refine u_im t1 t2 (fun q => absurd q (by decide)) (fun _ => Or.inr t5) (o := 1) (if_pos ⟨t2, t5⟩) (v := it_shr (m (14 + 5 * i + 2) (Int32.toNatClampNeg rs)) sh) (fun m' Ψ hΨ => ?_) (by rw [t3]; exact h)
  rw [t4]
  unfold w_119 w_119_113
  rw [t6]
  exact ⟨fun q => absurd q (by decide), fun _ => ⟨fun q => absurd q (by decide), fun _ => ⟨fun q => absurd q (by decide), fun _ => ⟨fun q => absurd q (by decide), fun _ => ⟨fun q => absurd q (by decide), fun _ => ⟨fun _ => ⟨fun q => absurd q (by decide), fun _ => hΨ⟩, fun q => absurd rfl q⟩⟩⟩⟩⟩⟩
theorem u_rg {kc : it_Kc} {i : Nat} {W p f z rd rs r2 o v : Int32} {m : it_Me} {Φ : Int32 → it_Me → Prop} (t : isR W f z rd rs r2) (hz : z = 0 ∧ o = 0 ∨ z = 32 ∧ f = 0 ∧ o = 1) (hv : ∀ (m' : it_Me) (Ψ : Int32 → it_Me → Prop), Ψ v m' → w_119 kc f o (m (14 + 5 * i + 2) (Int32.toNatClampNeg rs)) (m (14 + 5 * i + 2) (Int32.toNatClampNeg r2)) m' Ψ) (h : Φ 0 (it_sv (wr m i rd v) (14 + 5 * i) 3 p)) : w_106 kc (14 + 5 * i) W p m Φ := by
  obtain ⟨_, t1, t2, t3, t4, t5, t6⟩ := t
  refine o_51 t1 ?_
  unfold w_118 w_108
  refine c_109 (c_110 ?_)
  rw [t2, t4, t5, t6]
  rw [← t3] at h
  unfold w_118_78 w_118_94 w_118_71
  rcases hz with ⟨rfl, rfl⟩ | ⟨rfl, rfl, rfl⟩
  · exact ⟨fun q => absurd q (by decide), fun _ => ⟨fun _ => ⟨fun q => absurd q (by decide), fun _ => hv _ _ (c_107 h)⟩, fun q => absurd rfl q⟩⟩
  · exact ⟨fun q => absurd q (by decide), fun _ => ⟨fun q => absurd q (by decide), fun _ => ⟨fun _ => ⟨fun _ => ⟨fun _ => hv _ _ (c_107 h), fun q => absurd rfl q⟩, fun q => absurd rfl q⟩, fun q => absurd rfl q⟩⟩⟩
theorem u_J {kc : it_Kc} {i : Nat} {W p rd d : Int32} {m : it_Me} {Φ : Int32 → it_Me → Prop} (t : isJ W rd d) (h : Φ 0 (it_sv (wr m i rd p) (14 + 5 * i) 3 (m (14 + 5 * i) 3 + d))) : w_106 kc (14 + 5 * i) W p m Φ := by
  obtain ⟨_, t1, t2, t3⟩ := t
  refine o_111 t1 ?_
  unfold w_111
  rw [t3]
  rw [← t2] at h
  exact c_107 h
theorem u_JR {kc : it_Kc} {i : Nat} {W p rd rs : Int32} {m : it_Me} {Φ : Int32 → it_Me → Prop} (t : isI W 103 0 rd rs 0) (h : Φ 0 (it_sv (wr m i rd p) (14 + 5 * i) 3 (m (14 + 5 * i + 2) (Int32.toNatClampNeg rs) &&& (-2 : Int32)))) : w_106 kc (14 + 5 * i) W p m Φ := by
  obtain ⟨_, t1, t2, t3, t4, t5⟩ := t
  refine o_103 t1 ?_
  unfold w_113 w_108
  refine ⟨fun _ => c_109 (c_107 ?_), fun q => absurd t2 q⟩
  rw [t3, t4, t5, Int32.add_zero]
  exact h
theorem jE (W : Int32) {rd d : Int32} (t : isJ W rd d) : d.toInt % 2 = 0 := by rw [← t.2.2.2]; exact joff W
theorem bE2 (W : Int32) {f rs d : Int32} (t : isB W f rs d) : d.toInt % 2 = 0 := by rw [← t.2.2.2.2.2]; exact boff W
theorem u_B {kc : it_Kc} {i : Nat} {W p f rs d u : Int32} {m : it_Me} {Φ : Int32 → it_Me → Prop} (t : isB W f rs d) (h0 : m (14 + 5 * i + 2) 0 = 0) (hf : f = 0 ∨ f = 1) (h : Φ 0 (it_sv m (14 + 5 * i) 3 (if (m (14 + 5 * i + 2) (Int32.toNatClampNeg rs) = 0 ↔ f = 0) then m (14 + 5 * i) 3 + d else p))) : w_106 kc (14 + 5 * i) W p m Φ := by
  obtain ⟨_, t1, t2, t3, t4, t5⟩ := t
  refine o_99 t1 ?_
  unfold w_114 w_108
  refine c_109 (c_110 ?_)
  rw [t2, t3, t4, show Int32.toNatClampNeg 0 = 0 from rfl, h0]
  unfold w_114_76 w_114_93 w_114_171 w_112 w_114_190
  rw [t5]
  rcases hf with rfl | rfl
  · refine ⟨fun _ => ⟨fun q => ⟨fun y => absurd y (by decide), fun _ => ?_⟩, fun q => ⟨fun _ => ?_, fun y => absurd rfl y⟩⟩, fun y => absurd rfl y⟩
    · rw [if_pos ⟨fun _ => rfl, fun _ => q⟩] at h; exact h
    · rw [if_neg (fun y => q (y.2 rfl))] at h; exact h
  · refine ⟨fun y => absurd y (by decide), fun _ => ⟨fun _ => ⟨fun q => ⟨fun _ => ?_, fun y => absurd rfl y⟩, fun q => ⟨fun y => absurd y (by decide), fun _ => ?_⟩⟩, fun y => absurd rfl y⟩⟩
    · rw [if_neg (fun y => absurd (y.1 q) (by decide))] at h; exact h
    · rw [if_pos ⟨fun y => absurd y q, fun y => absurd y (by decide)⟩] at h; exact h
theorem x00 {kc : it_Kc} (hk : KC kc) {B : Nat} {m : it_Me} (hI : Inv B m) (hB : B + 1 < 2147483000) {i : Nat} (hi : i < cnt m) {h : Int32} (t : P00 h) : Lo kc i (CX kc i h) (w_336 kc (nI i) h) (B + 2) m := by
  have h8 := cnt_le hI
  have i8 : i < 8 := by omega
  have hP := hI.p hi
  have ep : (m (14 + 5 * i) 3 + 2).toInt % 2 = 0 := evA hP.pce (by decide)
  obtain ⟨e3, e13, t⟩ := t
  rcases t with ⟨z, t⟩ | ⟨z, t⟩
  · refine x_flt hk hI hB hi 2 h (fun Φ hΦ => ⟨fun _ => hΦ, fun q => absurd t q⟩) (fun M hM Φ hΦ => ?_)
    · unfold w_336 w_336_63
      refine ⟨fun _ => ?_, fun q => absurd e3 q⟩
      rw [e13]
      unfold w_337 w_333 w_337_189 w_337_120 w_321
      exact ⟨fun _ => ⟨fun _ => hΦ, fun q => absurd z q⟩, fun q => absurd rfl q⟩
  · refine x_fin hI hi (x := (8 + (it_us h 2 &&& 7))) (R32_nar _) (m (14 + 5 * i + 2) (Int32.toNatClampNeg (2)) + rO4 h) (m (14 + 5 * i) 3 + 2) (ep) (fun Φ hΦ => ⟨fun q => absurd q t.1, fun _ => u_I t hΦ⟩) (fun M hM Φ hΦ => ?_)
    · unfold w_336 w_336_63
      refine ⟨fun _ => ?_, fun q => absurd e3 q⟩
      rw [e13]
      unfold w_337 w_333 w_337_189 w_337_120 w_321
      exact ⟨fun _ => ⟨fun q => absurd q z, fun _ => r_318 hM i8 hi (R32_n (k := 2) (by omega)) (r_334 i8 (R32_nar _) (by rw [hM.pc hi]; exact hΦ))⟩, fun q => absurd rfl q⟩
theorem x02 {kc : it_Kc} (hk : KC kc) {B : Nat} {m : it_Me} (hI : Inv B m) (hB : B + 1 < 2147483000) {i : Nat} (hi : i < cnt m) {h : Int32} (t : P02 h) : Lo kc i (CX kc i h) (w_336 kc (nI i) h) (B + 2) m := by
  have h8 := cnt_le hI
  have i8 : i < 8 := by omega
  have hP := hI.p hi
  have ep : (m (14 + 5 * i) 3 + 2).toInt % 2 = 0 := evA hP.pce (by decide)
  obtain ⟨e3, e13, t⟩ := t
  refine x_map (x_ld hk hI hB hi (hw h) (f := 2) (by decide) (m (14 + 5 * i + 2) (Int32.toNatClampNeg ((8 + (it_us h 7 &&& 7)))) + rO0 h) (L := 2) (Or.inl rfl)) (fun Φ hΦ => ⟨fun q => absurd q t.1, fun _ => ?_⟩) (fun M hM Φ hΦ => ?_)
  · obtain ⟨_, t1, t2, t3, t4, t5⟩ := t
    refine o_3 t1 ?_
    unfold w_115 w_108
    rw [t2]
    refine ⟨fun q => absurd q (by decide), fun _ => ⟨fun _ => c_109 ?_, fun q => absurd (by decide) q⟩⟩
    rw [t4, t5]
    exact hΦ
  · unfold w_336 w_336_63
    refine ⟨fun _ => ?_, fun q => absurd e3 q⟩
    rw [e13]
    unfold w_337 w_333 w_337_189 w_337_120 w_321
    rw [t.2.2.2.1] at hΦ
    exact ⟨fun q => absurd q (by decide), fun _ => ⟨fun _ => r_318 hM i8 hi (R32_nar _) hΦ, fun q => absurd rfl q⟩⟩
theorem x06 {kc : it_Kc} (hk : KC kc) {B : Nat} {m : it_Me} (hI : Inv B m) (hB : B + 1 < 2147483000) {i : Nat} (hi : i < cnt m) {h : Int32} (t : P06 h) : Lo kc i (CX kc i h) (w_336 kc (nI i) h) (B + 2) m := by
  have h8 := cnt_le hI
  have i8 : i < 8 := by omega
  have hP := hI.p hi
  have ep : (m (14 + 5 * i) 3 + 2).toInt % 2 = 0 := evA hP.pce (by decide)
  obtain ⟨e3, e13, t⟩ := t
  refine x_map (x_st hk hI hB hi (hw h) (f := 2) (by decide) (m (14 + 5 * i + 2) (Int32.toNatClampNeg ((8 + (it_us h 7 &&& 7)))) + rO0 h) (L := 2) (Or.inl rfl)) (fun Φ hΦ => ⟨fun q => absurd q t.1, fun _ => ?_⟩) (fun M hM Φ hΦ => ?_)
  · obtain ⟨_, t1, t2, t3, t4, t5⟩ := t
    refine o_35 t1 ?_
    unfold w_116 w_108
    rw [t2]
    refine ⟨fun _ => c_109 ?_, fun q => absurd (by decide) q⟩
    rw [t3, t5]
    exact hΦ
  · unfold w_336 w_336_63
    refine ⟨fun _ => ?_, fun q => absurd e3 q⟩
    rw [e13]
    unfold w_337 w_333 w_337_189 w_337_120 w_321
    rw [t.2.2.2.2.1] at hΦ
    exact ⟨fun q => absurd q (by decide), fun _ => ⟨fun q => absurd q (by decide), fun _ => ⟨fun _ => r_318 hM i8 hi (R32_nar _) (r_318 hM i8 hi (R32_nar _) hΦ), fun q => absurd rfl q⟩⟩⟩
theorem x01 {kc : it_Kc} (hk : KC kc) {B : Nat} {m : it_Me} (hI : Inv B m) (hB : B + 1 < 2147483000) {i : Nat} (hi : i < cnt m) {h : Int32} (t : P01 h) : Lo kc i (CX kc i h) (w_336 kc (nI i) h) (B + 2) m := by
  have h8 := cnt_le hI
  have i8 : i < 8 := by omega
  have hP := hI.p hi
  have ep : (m (14 + 5 * i) 3 + 2).toInt % 2 = 0 := evA hP.pce (by decide)
  obtain ⟨e3, e13, t⟩ := t
  refine x_flt hk hI hB hi 2 h (fun Φ hΦ => ⟨fun _ => hΦ, fun q => absurd t q⟩) (fun M hM Φ hΦ => ?_)
  · unfold w_336 w_336_63
    refine ⟨fun _ => ?_, fun q => absurd e3 q⟩
    rw [e13]
    unfold w_337 w_333 w_337_189 w_337_120 w_321
    exact ⟨fun q => absurd q (by decide), fun _ => ⟨fun q => absurd q (by decide), fun _ => ⟨fun q => absurd q (by decide), fun _ => hΦ⟩⟩⟩
theorem x03 {kc : it_Kc} (hk : KC kc) {B : Nat} {m : it_Me} (hI : Inv B m) (hB : B + 1 < 2147483000) {i : Nat} (hi : i < cnt m) {h : Int32} (t : P03 h) : Lo kc i (CX kc i h) (w_336 kc (nI i) h) (B + 2) m := by
  have h8 := cnt_le hI
  have i8 : i < 8 := by omega
  have hP := hI.p hi
  have ep : (m (14 + 5 * i) 3 + 2).toInt % 2 = 0 := evA hP.pce (by decide)
  obtain ⟨e3, e13, t⟩ := t
  refine x_flt hk hI hB hi 2 h (fun Φ hΦ => ⟨fun _ => hΦ, fun q => absurd t q⟩) (fun M hM Φ hΦ => ?_)
  · unfold w_336 w_336_63
    refine ⟨fun _ => ?_, fun q => absurd e3 q⟩
    rw [e13]
    unfold w_337 w_333 w_337_189 w_337_120 w_321
    exact ⟨fun q => absurd q (by decide), fun _ => ⟨fun q => absurd q (by decide), fun _ => ⟨fun q => absurd q (by decide), fun _ => hΦ⟩⟩⟩
theorem x04 {kc : it_Kc} (hk : KC kc) {B : Nat} {m : it_Me} (hI : Inv B m) (hB : B + 1 < 2147483000) {i : Nat} (hi : i < cnt m) {h : Int32} (t : P04 h) : Lo kc i (CX kc i h) (w_336 kc (nI i) h) (B + 2) m := by
  have h8 := cnt_le hI
  have i8 : i < 8 := by omega
  have hP := hI.p hi
  have ep : (m (14 + 5 * i) 3 + 2).toInt % 2 = 0 := evA hP.pce (by decide)
  obtain ⟨e3, e13, t⟩ := t
  refine x_flt hk hI hB hi 2 h (fun Φ hΦ => ⟨fun _ => hΦ, fun q => absurd t q⟩) (fun M hM Φ hΦ => ?_)
  · unfold w_336 w_336_63
    refine ⟨fun _ => ?_, fun q => absurd e3 q⟩
    rw [e13]
    unfold w_337 w_333 w_337_189 w_337_120 w_321
    exact ⟨fun q => absurd q (by decide), fun _ => ⟨fun q => absurd q (by decide), fun _ => ⟨fun q => absurd q (by decide), fun _ => hΦ⟩⟩⟩
theorem x05 {kc : it_Kc} (hk : KC kc) {B : Nat} {m : it_Me} (hI : Inv B m) (hB : B + 1 < 2147483000) {i : Nat} (hi : i < cnt m) {h : Int32} (t : P05 h) : Lo kc i (CX kc i h) (w_336 kc (nI i) h) (B + 2) m := by
  have h8 := cnt_le hI
  have i8 : i < 8 := by omega
  have hP := hI.p hi
  have ep : (m (14 + 5 * i) 3 + 2).toInt % 2 = 0 := evA hP.pce (by decide)
  obtain ⟨e3, e13, t⟩ := t
  refine x_flt hk hI hB hi 2 h (fun Φ hΦ => ⟨fun _ => hΦ, fun q => absurd t q⟩) (fun M hM Φ hΦ => ?_)
  · unfold w_336 w_336_63
    refine ⟨fun _ => ?_, fun q => absurd e3 q⟩
    rw [e13]
    unfold w_337 w_333 w_337_189 w_337_120 w_321
    exact ⟨fun q => absurd q (by decide), fun _ => ⟨fun q => absurd q (by decide), fun _ => ⟨fun q => absurd q (by decide), fun _ => hΦ⟩⟩⟩
theorem x07 {kc : it_Kc} (hk : KC kc) {B : Nat} {m : it_Me} (hI : Inv B m) (hB : B + 1 < 2147483000) {i : Nat} (hi : i < cnt m) {h : Int32} (t : P07 h) : Lo kc i (CX kc i h) (w_336 kc (nI i) h) (B + 2) m := by
  have h8 := cnt_le hI
  have i8 : i < 8 := by omega
  have hP := hI.p hi
  have ep : (m (14 + 5 * i) 3 + 2).toInt % 2 = 0 := evA hP.pce (by decide)
  obtain ⟨e3, e13, t⟩ := t
  refine x_flt hk hI hB hi 2 h (fun Φ hΦ => ⟨fun _ => hΦ, fun q => absurd t q⟩) (fun M hM Φ hΦ => ?_)
  · unfold w_336 w_336_63
    refine ⟨fun _ => ?_, fun q => absurd e3 q⟩
    rw [e13]
    unfold w_337 w_333 w_337_189 w_337_120 w_321
    exact ⟨fun q => absurd q (by decide), fun _ => ⟨fun q => absurd q (by decide), fun _ => ⟨fun q => absurd q (by decide), fun _ => hΦ⟩⟩⟩
theorem x10 {kc : it_Kc} (hk : KC kc) {B : Nat} {m : it_Me} (hI : Inv B m) (hB : B + 1 < 2147483000) {i : Nat} (hi : i < cnt m) {h : Int32} (t : P10 h) : Lo kc i (CX kc i h) (w_336 kc (nI i) h) (B + 2) m := by
  have h8 := cnt_le hI
  have i8 : i < 8 := by omega
  have hP := hI.p hi
  have ep : (m (14 + 5 * i) 3 + 2).toInt % 2 = 0 := evA hP.pce (by decide)
  obtain ⟨e3, e13, t⟩ := t
  refine x_fin hI hi (x := (it_us h 7 &&& 31)) (R32_and _) (m (14 + 5 * i + 2) (Int32.toNatClampNeg ((it_us h 7 &&& 31))) + rI6 h) (m (14 + 5 * i) 3 + 2) (ep) (fun Φ hΦ => ⟨fun q => absurd q t.1, fun _ => u_I t hΦ⟩) (fun M hM Φ hΦ => ?_)
  · unfold w_336 w_336_63
    refine ⟨fun q => absurd (e3.symm.trans q) (by decide), fun _ => ⟨fun _ => ?_, fun q => absurd e3 q⟩⟩
    rw [e13]
    unfold w_338 w_338_394
    refine ⟨vI i8, ?_⟩
    unfold w_335 w_333
    exact ⟨fun _ => r_318 hM i8 hi (R32_and _) (r_334 i8 (R32_and _) (by rw [hM.pc hi]; exact hΦ)), fun q => absurd rfl q⟩
theorem x11 {kc : it_Kc} (hk : KC kc) {B : Nat} {m : it_Me} (hI : Inv B m) (hB : B + 1 < 2147483000) {i : Nat} (hi : i < cnt m) {h : Int32} (t : P11 h) : Lo kc i (CX kc i h) (w_336 kc (nI i) h) (B + 2) m := by
  have h8 := cnt_le hI
  have i8 : i < 8 := by omega
  have hP := hI.p hi
  have ep : (m (14 + 5 * i) 3 + 2).toInt % 2 = 0 := evA hP.pce (by decide)
  obtain ⟨e3, e13, t⟩ := t
  refine x_fin hI hi (x := 1) (R32_n (k := 1) (by omega)) (m (14 + 5 * i) 3 + 2) (m (14 + 5 * i) 3 + rJ h) (evA hP.pce (jE _ t)) (fun Φ hΦ => ⟨fun q => absurd q t.1, fun _ => u_J t hΦ⟩) (fun M hM Φ hΦ => ?_)
  · unfold w_336 w_336_63
    refine ⟨fun q => absurd (e3.symm.trans q) (by decide), fun _ => ⟨fun _ => ?_, fun q => absurd e3 q⟩⟩
    rw [e13]
    unfold w_338 w_338_394
    refine ⟨vI i8, ?_⟩
    unfold w_333 w_338_165 w_338_394
    rw [cI i8, hM.pc hi]
    exact ⟨fun q => absurd q (by decide), fun _ => ⟨fun _ => ⟨fun _ => r_319 i8 (R32_n (k := 1) (by omega)) ⟨vI i8, hΦ⟩, fun q => absurd rfl q⟩, fun q => absurd rfl q⟩⟩
theorem x15 {kc : it_Kc} (hk : KC kc) {B : Nat} {m : it_Me} (hI : Inv B m) (hB : B + 1 < 2147483000) {i : Nat} (hi : i < cnt m) {h : Int32} (t : P15 h) : Lo kc i (CX kc i h) (w_336 kc (nI i) h) (B + 2) m := by
  have h8 := cnt_le hI
  have i8 : i < 8 := by omega
  have hP := hI.p hi
  have ep : (m (14 + 5 * i) 3 + 2).toInt % 2 = 0 := evA hP.pce (by decide)
  obtain ⟨e3, e13, t⟩ := t
  refine x_fin hI hi (x := 0) R32_0 (m (14 + 5 * i) 3 + 2) (m (14 + 5 * i) 3 + rJ h) (evA hP.pce (jE _ t)) (fun Φ hΦ => ⟨fun q => absurd q t.1, fun _ => u_J t hΦ⟩) (fun M hM Φ hΦ => ?_)
  · unfold w_336 w_336_63
    refine ⟨fun q => absurd (e3.symm.trans q) (by decide), fun _ => ⟨fun _ => ?_, fun q => absurd e3 q⟩⟩
    rw [e13]
    unfold w_338 w_338_394
    refine ⟨vI i8, ?_⟩
    unfold w_333 w_338_165 w_338_394
    rw [cI i8, hM.pc hi]
    rw [wrM0] at hΦ
    exact ⟨fun q => absurd q (by decide), fun _ => ⟨fun q => absurd q (by decide), fun _ => ⟨fun q => absurd q (by decide), fun _ => ⟨fun q => absurd q (by decide), fun _ => ⟨fun q => absurd q (by decide), fun _ => ⟨fun _ => ⟨fun q => absurd q (by decide), fun _ => ⟨vI i8, hΦ⟩⟩, fun q => absurd rfl q⟩⟩⟩⟩⟩⟩
theorem x12 {kc : it_Kc} (hk : KC kc) {B : Nat} {m : it_Me} (hI : Inv B m) (hB : B + 1 < 2147483000) {i : Nat} (hi : i < cnt m) {h : Int32} (t : P12 h) : Lo kc i (CX kc i h) (w_336 kc (nI i) h) (B + 2) m := by
  have h8 := cnt_le hI
  have i8 : i < 8 := by omega
  have hP := hI.p hi
  have ep : (m (14 + 5 * i) 3 + 2).toInt % 2 = 0 := evA hP.pce (by decide)
  obtain ⟨e3, e13, t⟩ := t
  refine x_fin hI hi (x := (it_us h 7 &&& 31)) (R32_and _) (rI6 h) (m (14 + 5 * i) 3 + 2) (ep) (fun Φ hΦ => ⟨fun q => absurd q t.1, fun _ => u_I t (by rw [show Int32.toNatClampNeg 0 = 0 from rfl, hP.r0, Int32.zero_add]; exact hΦ)⟩) (fun M hM Φ hΦ => ?_)
  · unfold w_336 w_336_63
    refine ⟨fun q => absurd (e3.symm.trans q) (by decide), fun _ => ⟨fun _ => ?_, fun q => absurd e3 q⟩⟩
    rw [e13]
    unfold w_338 w_338_394
    refine ⟨vI i8, ?_⟩
    unfold w_335 w_333
    exact ⟨fun q => absurd q (by decide), fun _ => ⟨fun q => absurd q (by decide), fun _ => ⟨fun _ => r_334 i8 (R32_and _) (by rw [hM.pc hi]; exact hΦ), fun q => absurd rfl q⟩⟩⟩
theorem x13 {kc : it_Kc} (hk : KC kc) {B : Nat} {m : it_Me} (hI : Inv B m) (hB : B + 1 < 2147483000) {i : Nat} (hi : i < cnt m) {h : Int32} (t : P13 h) : Lo kc i (CX kc i h) (w_336 kc (nI i) h) (B + 2) m := by
  have h8 := cnt_le hI
  have i8 : i < 8 := by omega
  have hP := hI.p hi
  have ep : (m (14 + 5 * i) 3 + 2).toInt % 2 = 0 := evA hP.pce (by decide)
  obtain ⟨e3, e13, t⟩ := t
  rcases t with ⟨z, t⟩ | ⟨z, y, t⟩ | ⟨z, y, t0, t1, t2, t3⟩
  · refine x_flt hk hI hB hi 2 h (fun Φ hΦ => ⟨fun _ => hΦ, fun q => absurd t q⟩) (fun M hM Φ hΦ => ?_)
    · unfold w_336 w_336_63
      refine ⟨fun q => absurd (e3.symm.trans q) (by decide), fun _ => ⟨fun _ => ?_, fun q => absurd e3 q⟩⟩
      rw [e13]
      unfold w_338 w_338_394
      refine ⟨vI i8, ?_⟩
      unfold w_335 w_333 w_321
      exact ⟨fun q => absurd q (by decide), fun _ => ⟨fun q => absurd q (by decide), fun _ => ⟨fun q => absurd q (by decide), fun _ => ⟨fun _ => ⟨fun _ => hΦ, fun q => absurd z q⟩, fun q => absurd rfl q⟩⟩⟩⟩
  · refine x_fin hI hi (x := 2) (R32_n (k := 2) (by omega)) (m (14 + 5 * i + 2) (Int32.toNatClampNeg (2)) + rI16 h) (m (14 + 5 * i) 3 + 2) (ep) (fun Φ hΦ => ⟨fun q => absurd q t.1, fun _ => u_I t hΦ⟩) (fun M hM Φ hΦ => ?_)
    · unfold w_336 w_336_63
      refine ⟨fun q => absurd (e3.symm.trans q) (by decide), fun _ => ⟨fun _ => ?_, fun q => absurd e3 q⟩⟩
      rw [e13]
      unfold w_338 w_338_394
      refine ⟨vI i8, ?_⟩
      unfold w_335 w_333 w_321
      exact ⟨fun q => absurd q (by decide), fun _ => ⟨fun q => absurd q (by decide), fun _ => ⟨fun q => absurd q (by decide), fun _ => ⟨fun _ => ⟨fun q => absurd q z, fun _ => ⟨fun _ => r_318 hM i8 hi (R32_n (k := 2) (by omega)) (r_334 i8 (R32_n (k := 2) (by omega)) (by rw [hM.pc hi]; exact hΦ)), fun q => absurd y q⟩⟩, fun q => absurd rfl q⟩⟩⟩⟩
  · refine x_fin hI hi (x := (it_us h 7 &&& 31)) (R32_and _) (it_shl (rI6 h) 12) (m (14 + 5 * i) 3 + 2) (ep) (fun Φ hΦ => ⟨fun q => absurd q t0, fun _ => o_55 t1 (c_107 (by rw [t2, t3]; exact hΦ))⟩) (fun M hM Φ hΦ => ?_)
    · unfold w_336 w_336_63
      refine ⟨fun q => absurd (e3.symm.trans q) (by decide), fun _ => ⟨fun _ => ?_, fun q => absurd e3 q⟩⟩
      rw [e13]
      unfold w_338 w_338_394
      refine ⟨vI i8, ?_⟩
      unfold w_335 w_333 w_321
      exact ⟨fun q => absurd q (by decide), fun _ => ⟨fun q => absurd q (by decide), fun _ => ⟨fun q => absurd q (by decide), fun _ => ⟨fun _ => ⟨fun q => absurd q z, fun _ => ⟨fun q => absurd q y, fun _ => r_334 i8 (R32_and _) (by rw [hM.pc hi]; exact hΦ)⟩⟩, fun q => absurd rfl q⟩⟩⟩⟩
theorem w339 {kc : it_Kc} {m M : it_Me} (hM : Rel m M) {i : Nat} (i8 : i < 8) (hi : i < cnt m) {h : Int32} {Φ : it_Me → Prop} (H : w_339_59 kc Φ (nI i) h (8 + (it_us h 7 &&& 7)) (m (14 + 5 * i + 2) (Int32.toNatClampNeg ((8 + (it_us h 7 &&& 7))))) (m (14 + 5 * i + 2) (Int32.toNatClampNeg ((8 + (it_us h 2 &&& 7))))) (it_us h 10 &&& 3) (if bn h 12 0 = 1 then 1 else 0) M) : w_339 kc (nI i) h M Φ := by
  unfold w_339 w_333
  refine r_318 hM i8 hi (R32_nar _) (r_318 hM i8 hi (R32_nar _) ⟨fun q => ?_, fun q => ?_⟩)
  · rw [if_pos q] at H; exact H
  · rw [if_neg q] at H; exact H
theorem x14 {kc : it_Kc} (hk : KC kc) {B : Nat} {m : it_Me} (hI : Inv B m) (hB : B + 1 < 2147483000) {i : Nat} (hi : i < cnt m) {h : Int32} (t : P14 h) : Lo kc i (CX kc i h) (w_336 kc (nI i) h) (B + 2) m := by
  have h8 := cnt_le hI
  have i8 : i < 8 := by omega
  have hP := hI.p hi
  have ep : (m (14 + 5 * i) 3 + 2).toInt % 2 = 0 := evA hP.pce (by decide)
  obtain ⟨e3, e13, t⟩ := t
  rcases t with ⟨y, t⟩ | ⟨y, z, t⟩ | ⟨y, z, t⟩ | ⟨y, z, t⟩ | ⟨y, z, ⟨y2, t⟩ | ⟨y2, t⟩ | ⟨y2, t⟩ | ⟨y2, t⟩⟩
  · refine x_fin hI hi (x := (8 + (it_us h 7 &&& 7))) (R32_nar _) (m (14 + 5 * i + 2) (Int32.toNatClampNeg ((8 + (it_us h 7 &&& 7)))) &&& rI6 h) (m (14 + 5 * i) 3 + 2) (ep) (fun Φ hΦ => ⟨fun q => absurd q t.1, fun _ => u_A t hΦ⟩) (fun M hM Φ hΦ => ?_)
    · unfold w_336 w_336_63
      refine ⟨fun q => absurd (e3.symm.trans q) (by decide), fun _ => ⟨fun _ => ?_, fun q => absurd e3 q⟩⟩
      rw [e13]
      unfold w_338 w_338_394
      refine ⟨vI i8, ?_⟩
      refine ⟨fun q => absurd q (by decide), fun _ => ⟨fun q => absurd q (by decide), fun _ => ⟨fun q => absurd q (by decide), fun _ => ⟨fun q => absurd q (by decide), fun _ => ⟨fun _ => w339 hM i8 hi ?_, fun q => absurd rfl q⟩⟩⟩⟩⟩
      rw [y, show (2 : Int32) = 2 from rfl]
      unfold w_339_59 w_339_132 w_339_194 w_339_197 w_321 w_335 w_333
      exact ⟨fun _ => r_334 i8 (R32_nar _) (by rw [hM.pc hi]; exact hΦ), fun q => absurd rfl q⟩
  · refine x_flt hk hI hB hi 2 h (fun Φ hΦ => ⟨fun _ => hΦ, fun q => absurd t q⟩) (fun M hM Φ hΦ => ?_)
    · unfold w_336 w_336_63
      refine ⟨fun q => absurd (e3.symm.trans q) (by decide), fun _ => ⟨fun _ => ?_, fun q => absurd e3 q⟩⟩
      rw [e13]
      unfold w_338 w_338_394
      refine ⟨vI i8, ?_⟩
      refine ⟨fun q => absurd q (by decide), fun _ => ⟨fun q => absurd q (by decide), fun _ => ⟨fun q => absurd q (by decide), fun _ => ⟨fun q => absurd q (by decide), fun _ => ⟨fun _ => w339 hM i8 hi ?_, fun q => absurd rfl q⟩⟩⟩⟩⟩
      rw [if_pos z, show (1 : Int32) = 1 from rfl]
      unfold w_339_59 w_339_132 w_339_194 w_339_197 w_321 w_335 w_333
      exact ⟨fun q => absurd q y, fun _ => ⟨fun q => absurd q (by decide), fun _ => hΦ⟩⟩
  · refine x_fin hI hi (x := (8 + (it_us h 7 &&& 7))) (R32_nar _) (it_us (m (14 + 5 * i + 2) (Int32.toNatClampNeg ((8 + (it_us h 7 &&& 7))))) (it_us h 2 &&& 31)) (m (14 + 5 * i) 3 + 2) (ep) (fun Φ hΦ => ⟨fun q => absurd q t.1, fun _ => u_sr t hΦ⟩) (fun M hM Φ hΦ => ?_)
    · unfold w_336 w_336_63
      refine ⟨fun q => absurd (e3.symm.trans q) (by decide), fun _ => ⟨fun _ => ?_, fun q => absurd e3 q⟩⟩
      rw [e13]
      unfold w_338 w_338_394
      refine ⟨vI i8, ?_⟩
      refine ⟨fun q => absurd q (by decide), fun _ => ⟨fun q => absurd q (by decide), fun _ => ⟨fun q => absurd q (by decide), fun _ => ⟨fun q => absurd q (by decide), fun _ => ⟨fun _ => w339 hM i8 hi ?_, fun q => absurd rfl q⟩⟩⟩⟩⟩
      rw [y, if_neg z]
      unfold w_339_59 w_339_132 w_339_194 w_339_197 w_321 w_335 w_333
      exact ⟨fun q => absurd q (by decide), fun _ => ⟨fun _ => ⟨fun q => absurd q (by decide), fun _ => ⟨fun _ => r_334 i8 (R32_nar _) (by rw [hM.pc hi]; exact hΦ), fun q => absurd rfl q⟩⟩, fun q => absurd rfl q⟩⟩
  · refine x_fin hI hi (x := (8 + (it_us h 7 &&& 7))) (R32_nar _) (it_shr (m (14 + 5 * i + 2) (Int32.toNatClampNeg ((8 + (it_us h 7 &&& 7))))) (it_us h 2 &&& 31)) (m (14 + 5 * i) 3 + 2) (ep) (fun Φ hΦ => ⟨fun q => absurd q t.1, fun _ => u_sa t hΦ⟩) (fun M hM Φ hΦ => ?_)
    · unfold w_336 w_336_63
      refine ⟨fun q => absurd (e3.symm.trans q) (by decide), fun _ => ⟨fun _ => ?_, fun q => absurd e3 q⟩⟩
      rw [e13]
      unfold w_338 w_338_394
      refine ⟨vI i8, ?_⟩
      refine ⟨fun q => absurd q (by decide), fun _ => ⟨fun q => absurd q (by decide), fun _ => ⟨fun q => absurd q (by decide), fun _ => ⟨fun q => absurd q (by decide), fun _ => ⟨fun _ => w339 hM i8 hi ?_, fun q => absurd rfl q⟩⟩⟩⟩⟩
      rw [y, if_neg z]
      unfold w_339_59 w_339_132 w_339_194 w_339_197 w_321 w_335 w_333
      exact ⟨fun q => absurd q (by decide), fun _ => ⟨fun _ => ⟨fun q => absurd q (by decide), fun _ => ⟨fun q => absurd q (by decide), fun _ => r_334 i8 (R32_nar _) (by rw [hM.pc hi]; exact hΦ)⟩⟩, fun q => absurd rfl q⟩⟩
  · refine x_fin hI hi (x := (8 + (it_us h 7 &&& 7))) (R32_nar _) (m (14 + 5 * i + 2) (Int32.toNatClampNeg ((8 + (it_us h 7 &&& 7)))) - m (14 + 5 * i + 2) (Int32.toNatClampNeg ((8 + (it_us h 2 &&& 7))))) (m (14 + 5 * i) 3 + 2) (ep) (fun Φ hΦ => ⟨fun q => absurd q t.1, fun _ => u_rg t (Or.inr ⟨rfl, rfl, rfl⟩) (fun m1 Ψ hΨ => by unfold w_119 w_119_57; exact ⟨fun _ => ⟨fun q => absurd q (by decide), fun _ => hΨ⟩, fun q => absurd rfl q⟩) hΦ⟩) (fun M hM Φ hΦ => ?_)
    · unfold w_336 w_336_63
      refine ⟨fun q => absurd (e3.symm.trans q) (by decide), fun _ => ⟨fun _ => ?_, fun q => absurd e3 q⟩⟩
      rw [e13]
      unfold w_338 w_338_394
      refine ⟨vI i8, ?_⟩
      refine ⟨fun q => absurd q (by decide), fun _ => ⟨fun q => absurd q (by decide), fun _ => ⟨fun q => absurd q (by decide), fun _ => ⟨fun q => absurd q (by decide), fun _ => ⟨fun _ => w339 hM i8 hi ?_, fun q => absurd rfl q⟩⟩⟩⟩⟩
      rw [y, if_neg z]
      unfold w_339_59 w_339_132 w_339_194 w_339_197 w_321 w_335 w_333
      exact ⟨fun q => absurd q (by decide), fun _ => ⟨fun _ => ⟨fun _ => ⟨fun _ => r_334 i8 (R32_nar _) (by rw [hM.pc hi]; exact hΦ), fun q => absurd y2 q⟩, fun q => absurd (by decide) q⟩, fun q => absurd rfl q⟩⟩
  · refine x_fin hI hi (x := (8 + (it_us h 7 &&& 7))) (R32_nar _) (m (14 + 5 * i + 2) (Int32.toNatClampNeg ((8 + (it_us h 7 &&& 7)))) ^^^ m (14 + 5 * i + 2) (Int32.toNatClampNeg ((8 + (it_us h 2 &&& 7))))) (m (14 + 5 * i) 3 + 2) (ep) (fun Φ hΦ => ⟨fun q => absurd q t.1, fun _ => u_rg t (Or.inl ⟨rfl, rfl⟩) (fun m1 Ψ hΨ => by unfold w_119 w_119_57; exact ⟨fun q => absurd q (by decide), fun _ => ⟨fun q => absurd q (by decide), fun _ => ⟨fun q => absurd q (by decide), fun _ => ⟨fun q => absurd q (by decide), fun _ => ⟨fun _ => hΨ, fun q => absurd rfl q⟩⟩⟩⟩⟩) hΦ⟩) (fun M hM Φ hΦ => ?_)
    · unfold w_336 w_336_63
      refine ⟨fun q => absurd (e3.symm.trans q) (by decide), fun _ => ⟨fun _ => ?_, fun q => absurd e3 q⟩⟩
      rw [e13]
      unfold w_338 w_338_394
      refine ⟨vI i8, ?_⟩
      refine ⟨fun q => absurd q (by decide), fun _ => ⟨fun q => absurd q (by decide), fun _ => ⟨fun q => absurd q (by decide), fun _ => ⟨fun q => absurd q (by decide), fun _ => ⟨fun _ => w339 hM i8 hi ?_, fun q => absurd rfl q⟩⟩⟩⟩⟩
      rw [y, if_neg z]
      unfold w_339_59 w_339_132 w_339_194 w_339_197 w_321 w_335 w_333
      exact ⟨fun q => absurd q (by decide), fun _ => ⟨fun _ => ⟨fun _ => ⟨fun q => absurd (y2.symm.trans q) (by decide), fun _ => ⟨fun _ => r_334 i8 (R32_nar _) (by rw [hM.pc hi]; exact hΦ), fun q => absurd y2 q⟩⟩, fun q => absurd (by decide) q⟩, fun q => absurd rfl q⟩⟩
  · refine x_fin hI hi (x := (8 + (it_us h 7 &&& 7))) (R32_nar _) (m (14 + 5 * i + 2) (Int32.toNatClampNeg ((8 + (it_us h 7 &&& 7)))) ||| m (14 + 5 * i + 2) (Int32.toNatClampNeg ((8 + (it_us h 2 &&& 7))))) (m (14 + 5 * i) 3 + 2) (ep) (fun Φ hΦ => ⟨fun q => absurd q t.1, fun _ => u_rg t (Or.inl ⟨rfl, rfl⟩) (fun m1 Ψ hΨ => by unfold w_119 w_119_57; exact ⟨fun q => absurd q (by decide), fun _ => ⟨fun q => absurd q (by decide), fun _ => ⟨fun q => absurd q (by decide), fun _ => ⟨fun q => absurd q (by decide), fun _ => ⟨fun q => absurd q (by decide), fun _ => ⟨fun q => absurd q (by decide), fun _ => ⟨fun _ => hΨ, fun q => absurd rfl q⟩⟩⟩⟩⟩⟩⟩) hΦ⟩) (fun M hM Φ hΦ => ?_)
    · unfold w_336 w_336_63
      refine ⟨fun q => absurd (e3.symm.trans q) (by decide), fun _ => ⟨fun _ => ?_, fun q => absurd e3 q⟩⟩
      rw [e13]
      unfold w_338 w_338_394
      refine ⟨vI i8, ?_⟩
      refine ⟨fun q => absurd q (by decide), fun _ => ⟨fun q => absurd q (by decide), fun _ => ⟨fun q => absurd q (by decide), fun _ => ⟨fun q => absurd q (by decide), fun _ => ⟨fun _ => w339 hM i8 hi ?_, fun q => absurd rfl q⟩⟩⟩⟩⟩
      rw [y, if_neg z]
      unfold w_339_59 w_339_132 w_339_194 w_339_197 w_321 w_335 w_333
      exact ⟨fun q => absurd q (by decide), fun _ => ⟨fun _ => ⟨fun _ => ⟨fun q => absurd (y2.symm.trans q) (by decide), fun _ => ⟨fun q => absurd (y2.symm.trans q) (by decide), fun _ => ⟨fun _ => r_334 i8 (R32_nar _) (by rw [hM.pc hi]; exact hΦ), fun q => absurd y2 q⟩⟩⟩, fun q => absurd (by decide) q⟩, fun q => absurd rfl q⟩⟩
  · refine x_fin hI hi (x := (8 + (it_us h 7 &&& 7))) (R32_nar _) (m (14 + 5 * i + 2) (Int32.toNatClampNeg ((8 + (it_us h 7 &&& 7)))) &&& m (14 + 5 * i + 2) (Int32.toNatClampNeg ((8 + (it_us h 2 &&& 7))))) (m (14 + 5 * i) 3 + 2) (ep) (fun Φ hΦ => ⟨fun q => absurd q t.1, fun _ => u_rg t (Or.inl ⟨rfl, rfl⟩) (fun m1 Ψ hΨ => by unfold w_119 w_119_57; exact ⟨fun q => absurd q (by decide), fun _ => ⟨fun q => absurd q (by decide), fun _ => ⟨fun q => absurd q (by decide), fun _ => ⟨fun q => absurd q (by decide), fun _ => ⟨fun q => absurd q (by decide), fun _ => ⟨fun q => absurd q (by decide), fun _ => ⟨fun q => absurd q (by decide), fun _ => hΨ⟩⟩⟩⟩⟩⟩⟩) hΦ⟩) (fun M hM Φ hΦ => ?_)
    · unfold w_336 w_336_63
      refine ⟨fun q => absurd (e3.symm.trans q) (by decide), fun _ => ⟨fun _ => ?_, fun q => absurd e3 q⟩⟩
      rw [e13]
      unfold w_338 w_338_394
      refine ⟨vI i8, ?_⟩
      refine ⟨fun q => absurd q (by decide), fun _ => ⟨fun q => absurd q (by decide), fun _ => ⟨fun q => absurd q (by decide), fun _ => ⟨fun q => absurd q (by decide), fun _ => ⟨fun _ => w339 hM i8 hi ?_, fun q => absurd rfl q⟩⟩⟩⟩⟩
      rw [y, if_neg z]
      unfold w_339_59 w_339_132 w_339_194 w_339_197 w_321 w_335 w_333
      exact ⟨fun q => absurd q (by decide), fun _ => ⟨fun _ => ⟨fun _ => ⟨fun q => absurd (y2.symm.trans q) (by decide), fun _ => ⟨fun q => absurd (y2.symm.trans q) (by decide), fun _ => ⟨fun q => absurd (y2.symm.trans q) (by decide), fun _ => r_334 i8 (R32_nar _) (by rw [hM.pc hi]; exact hΦ)⟩⟩⟩, fun q => absurd (by decide) q⟩, fun q => absurd rfl q⟩⟩
theorem x16 {kc : it_Kc} (hk : KC kc) {B : Nat} {m : it_Me} (hI : Inv B m) (hB : B + 1 < 2147483000) {i : Nat} (hi : i < cnt m) {h : Int32} (t : P16 h) : Lo kc i (CX kc i h) (w_336 kc (nI i) h) (B + 2) m := by
  have h8 := cnt_le hI
  have i8 : i < 8 := by omega
  have hP := hI.p hi
  have ep : (m (14 + 5 * i) 3 + 2).toInt % 2 = 0 := evA hP.pce (by decide)
  obtain ⟨e3, e13, t⟩ := t
  refine x_fin hI hi (x := 0) R32_0 (0) (if (m (14 + 5 * i + 2) (Int32.toNatClampNeg ((8 + (it_us h 7 &&& 7)))) = 0 ↔ (0 : Int32) = 0) then m (14 + 5 * i) 3 + rB h else m (14 + 5 * i) 3 + 2) (by split; exact evA hP.pce (bE2 _ t); exact ep) (fun Φ hΦ => ⟨fun q => absurd q t.1, fun _ => u_B (u := 0) t hP.r0 (by decide) (by rw [wr0] at hΦ; exact hΦ)⟩) (fun M hM Φ hΦ => ?_)
  · unfold w_336 w_336_63
    refine ⟨fun q => absurd (e3.symm.trans q) (by decide), fun _ => ⟨fun _ => ?_, fun q => absurd e3 q⟩⟩
    rw [e13]
    unfold w_338 w_338_394
    refine ⟨vI i8, ?_⟩
    unfold w_333 w_338_372 w_338_383 w_338_392 w_338_394
    rw [cI i8, hM.pc hi]
    rw [wrM0] at hΦ
    refine ⟨fun q => absurd q (by decide), fun _ => ⟨fun q => absurd q (by decide), fun _ => ⟨fun q => absurd q (by decide), fun _ => ⟨fun q => absurd q (by decide), fun _ => ⟨fun q => absurd q (by decide), fun _ => ⟨fun q => absurd q (by decide), fun _ => r_318 hM i8 hi (R32_nar _) ⟨fun q => ?_, fun q => ?_⟩⟩⟩⟩⟩⟩⟩
    · rw [if_pos ⟨fun _ => rfl, fun _ => q⟩] at hΦ
      exact ⟨fun _ => ⟨fun _ => ⟨vI i8, hΦ⟩, fun q => absurd rfl q⟩, fun q => absurd rfl q⟩
    · rw [if_neg (fun y => q (y.2 rfl))] at hΦ
      exact ⟨fun _ => ⟨fun q => absurd q (by decide), fun _ => ⟨vI i8, hΦ⟩⟩, fun q => absurd rfl q⟩
theorem x17 {kc : it_Kc} (hk : KC kc) {B : Nat} {m : it_Me} (hI : Inv B m) (hB : B + 1 < 2147483000) {i : Nat} (hi : i < cnt m) {h : Int32} (t : P17 h) : Lo kc i (CX kc i h) (w_336 kc (nI i) h) (B + 2) m := by
  have h8 := cnt_le hI
  have i8 : i < 8 := by omega
  have hP := hI.p hi
  have ep : (m (14 + 5 * i) 3 + 2).toInt % 2 = 0 := evA hP.pce (by decide)
  obtain ⟨e3, e13, t⟩ := t
  refine x_fin hI hi (x := 0) R32_0 (0) (if (m (14 + 5 * i + 2) (Int32.toNatClampNeg ((8 + (it_us h 7 &&& 7)))) = 0 ↔ (1 : Int32) = 0) then m (14 + 5 * i) 3 + rB h else m (14 + 5 * i) 3 + 2) (by split; exact evA hP.pce (bE2 _ t); exact ep) (fun Φ hΦ => ⟨fun q => absurd q t.1, fun _ => u_B (u := 0) t hP.r0 (by decide) (by rw [wr0] at hΦ; exact hΦ)⟩) (fun M hM Φ hΦ => ?_)
  · unfold w_336 w_336_63
    refine ⟨fun q => absurd (e3.symm.trans q) (by decide), fun _ => ⟨fun _ => ?_, fun q => absurd e3 q⟩⟩
    rw [e13]
    unfold w_338 w_338_394
    refine ⟨vI i8, ?_⟩
    unfold w_333 w_338_372 w_338_383 w_338_392 w_338_394
    rw [cI i8, hM.pc hi]
    rw [wrM0] at hΦ
    refine ⟨fun q => absurd q (by decide), fun _ => ⟨fun q => absurd q (by decide), fun _ => ⟨fun q => absurd q (by decide), fun _ => ⟨fun q => absurd q (by decide), fun _ => ⟨fun q => absurd q (by decide), fun _ => ⟨fun q => absurd q (by decide), fun _ => r_318 hM i8 hi (R32_nar _) ⟨fun q => ?_, fun q => ?_⟩⟩⟩⟩⟩⟩⟩
    · rw [if_neg (fun y => absurd (y.1 q) (by decide))] at hΦ
      exact ⟨fun q => absurd q (by decide), fun _ => ⟨fun q => absurd q (by decide), fun _ => ⟨vI i8, hΦ⟩⟩⟩
    · rw [if_pos ⟨fun y => absurd y q, fun y => absurd y (by decide)⟩] at hΦ
      exact ⟨fun q => absurd q (by decide), fun _ => ⟨fun _ => ⟨vI i8, hΦ⟩, fun q => absurd rfl q⟩⟩
theorem x20 {kc : it_Kc} (hk : KC kc) {B : Nat} {m : it_Me} (hI : Inv B m) (hB : B + 1 < 2147483000) {i : Nat} (hi : i < cnt m) {h : Int32} (t : P20 h) : Lo kc i (CX kc i h) (w_336 kc (nI i) h) (B + 2) m := by
  have h8 := cnt_le hI
  have i8 : i < 8 := by omega
  have hP := hI.p hi
  have ep : (m (14 + 5 * i) 3 + 2).toInt % 2 = 0 := evA hP.pce (by decide)
  obtain ⟨e3, e13, t⟩ := t
  rcases t with ⟨z, t⟩ | ⟨z, t⟩
  · refine x_flt hk hI hB hi 2 h (fun Φ hΦ => ⟨fun _ => hΦ, fun q => absurd t q⟩) (fun M hM Φ hΦ => ?_)
    · unfold w_336 w_336_63
      refine ⟨fun q => absurd (e3.symm.trans q) (by decide), fun _ => ⟨fun q => absurd (e3.symm.trans q) (by decide), fun _ => ?_⟩⟩
      rw [e13]
      unfold w_340 w_333 w_340_33 w_340_72 w_340_126 w_340_225 w_340_273 w_340_294 w_340_262 w_340_219 w_340_300 w_321
      exact ⟨fun _ => ⟨vI i8, ⟨fun _ => ⟨fun q => absurd q (by decide), fun _ => ⟨fun q => absurd q (by decide), fun _ => ⟨fun q => absurd q (by decide), fun _ => ⟨fun q => absurd q (by decide), fun _ => ⟨fun q => absurd q (by decide), fun _ => ⟨fun q => absurd q (by decide), fun _ => hΦ⟩⟩⟩⟩⟩⟩, fun q => absurd rfl q⟩⟩, fun q => absurd z q⟩
  · refine x_fin hI hi (x := (it_us h 7 &&& 31)) (R32_and _) (it_shl (m (14 + 5 * i + 2) (Int32.toNatClampNeg ((it_us h 7 &&& 31)))) (it_us h 2 &&& 31)) (m (14 + 5 * i) 3 + 2) (ep) (fun Φ hΦ => ⟨fun q => absurd q t.1, fun _ => u_sl t hΦ⟩) (fun M hM Φ hΦ => ?_)
    · unfold w_336 w_336_63
      refine ⟨fun q => absurd (e3.symm.trans q) (by decide), fun _ => ⟨fun q => absurd (e3.symm.trans q) (by decide), fun _ => ?_⟩⟩
      rw [e13]
      unfold w_340 w_333 w_340_33 w_340_72 w_340_126 w_340_225 w_340_273 w_340_294 w_340_262 w_340_219 w_340_300 w_321
      exact ⟨fun q => absurd q z, fun _ => ⟨vI i8, ⟨fun _ => ⟨fun _ => r_318 hM i8 hi (R32_and _) (r_334 i8 (R32_and _) (by rw [hM.pc hi]; exact hΦ)), fun q => absurd rfl q⟩, fun q => absurd rfl q⟩⟩⟩
theorem x21 {kc : it_Kc} (hk : KC kc) {B : Nat} {m : it_Me} (hI : Inv B m) (hB : B + 1 < 2147483000) {i : Nat} (hi : i < cnt m) {h : Int32} (t : P21 h) : Lo kc i (CX kc i h) (w_336 kc (nI i) h) (B + 2) m := by
  have h8 := cnt_le hI
  have i8 : i < 8 := by omega
  have hP := hI.p hi
  have ep : (m (14 + 5 * i) 3 + 2).toInt % 2 = 0 := evA hP.pce (by decide)
  obtain ⟨e3, e13, t⟩ := t
  refine x_flt hk hI hB hi 2 h (fun Φ hΦ => ⟨fun _ => hΦ, fun q => absurd t q⟩) (fun M hM Φ hΦ => ?_)
  · unfold w_336 w_336_63
    refine ⟨fun q => absurd (e3.symm.trans q) (by decide), fun _ => ⟨fun q => absurd (e3.symm.trans q) (by decide), fun _ => ?_⟩⟩
    rw [e13]
    unfold w_340 w_333 w_340_33 w_340_72 w_340_126 w_340_225 w_340_273 w_340_294 w_340_262 w_340_219 w_340_300 w_321
    refine ⟨fun q => ?_, fun q => ?_⟩ <;> refine ⟨vI i8, ?_⟩
    · exact ⟨fun q => absurd q (by decide), fun _ => ⟨fun q => absurd q (by decide), fun _ => ⟨fun q => absurd q (by decide), fun _ => ⟨fun q => absurd q (by decide), fun _ => ⟨fun q => absurd q (by decide), fun _ => ⟨fun q => absurd q (by decide), fun _ => hΦ⟩⟩⟩⟩⟩⟩
    · exact ⟨fun q => absurd q (by decide), fun _ => ⟨fun q => absurd q (by decide), fun _ => ⟨fun q => absurd q (by decide), fun _ => ⟨fun q => absurd q (by decide), fun _ => ⟨fun q => absurd q (by decide), fun _ => ⟨fun q => absurd q (by decide), fun _ => hΦ⟩⟩⟩⟩⟩⟩
theorem x23 {kc : it_Kc} (hk : KC kc) {B : Nat} {m : it_Me} (hI : Inv B m) (hB : B + 1 < 2147483000) {i : Nat} (hi : i < cnt m) {h : Int32} (t : P23 h) : Lo kc i (CX kc i h) (w_336 kc (nI i) h) (B + 2) m := by
  have h8 := cnt_le hI
  have i8 : i < 8 := by omega
  have hP := hI.p hi
  have ep : (m (14 + 5 * i) 3 + 2).toInt % 2 = 0 := evA hP.pce (by decide)
  obtain ⟨e3, e13, t⟩ := t
  refine x_flt hk hI hB hi 2 h (fun Φ hΦ => ⟨fun _ => hΦ, fun q => absurd t q⟩) (fun M hM Φ hΦ => ?_)
  · unfold w_336 w_336_63
    refine ⟨fun q => absurd (e3.symm.trans q) (by decide), fun _ => ⟨fun q => absurd (e3.symm.trans q) (by decide), fun _ => ?_⟩⟩
    rw [e13]
    unfold w_340 w_333 w_340_33 w_340_72 w_340_126 w_340_225 w_340_273 w_340_294 w_340_262 w_340_219 w_340_300 w_321
    refine ⟨fun q => ?_, fun q => ?_⟩ <;> refine ⟨vI i8, ?_⟩
    · exact ⟨fun q => absurd q (by decide), fun _ => ⟨fun q => absurd q (by decide), fun _ => ⟨fun q => absurd q (by decide), fun _ => ⟨fun q => absurd q (by decide), fun _ => ⟨fun q => absurd q (by decide), fun _ => ⟨fun q => absurd q (by decide), fun _ => hΦ⟩⟩⟩⟩⟩⟩
    · exact ⟨fun q => absurd q (by decide), fun _ => ⟨fun q => absurd q (by decide), fun _ => ⟨fun q => absurd q (by decide), fun _ => ⟨fun q => absurd q (by decide), fun _ => ⟨fun q => absurd q (by decide), fun _ => ⟨fun q => absurd q (by decide), fun _ => hΦ⟩⟩⟩⟩⟩⟩
theorem x25 {kc : it_Kc} (hk : KC kc) {B : Nat} {m : it_Me} (hI : Inv B m) (hB : B + 1 < 2147483000) {i : Nat} (hi : i < cnt m) {h : Int32} (t : P25 h) : Lo kc i (CX kc i h) (w_336 kc (nI i) h) (B + 2) m := by
  have h8 := cnt_le hI
  have i8 : i < 8 := by omega
  have hP := hI.p hi
  have ep : (m (14 + 5 * i) 3 + 2).toInt % 2 = 0 := evA hP.pce (by decide)
  obtain ⟨e3, e13, t⟩ := t
  refine x_flt hk hI hB hi 2 h (fun Φ hΦ => ⟨fun _ => hΦ, fun q => absurd t q⟩) (fun M hM Φ hΦ => ?_)
  · unfold w_336 w_336_63
    refine ⟨fun q => absurd (e3.symm.trans q) (by decide), fun _ => ⟨fun q => absurd (e3.symm.trans q) (by decide), fun _ => ?_⟩⟩
    rw [e13]
    unfold w_340 w_333 w_340_33 w_340_72 w_340_126 w_340_225 w_340_273 w_340_294 w_340_262 w_340_219 w_340_300 w_321
    refine ⟨fun q => ?_, fun q => ?_⟩ <;> refine ⟨vI i8, ?_⟩
    · exact ⟨fun q => absurd q (by decide), fun _ => ⟨fun q => absurd q (by decide), fun _ => ⟨fun q => absurd q (by decide), fun _ => ⟨fun q => absurd q (by decide), fun _ => ⟨fun q => absurd q (by decide), fun _ => ⟨fun q => absurd q (by decide), fun _ => hΦ⟩⟩⟩⟩⟩⟩
    · exact ⟨fun q => absurd q (by decide), fun _ => ⟨fun q => absurd q (by decide), fun _ => ⟨fun q => absurd q (by decide), fun _ => ⟨fun q => absurd q (by decide), fun _ => ⟨fun q => absurd q (by decide), fun _ => ⟨fun q => absurd q (by decide), fun _ => hΦ⟩⟩⟩⟩⟩⟩
theorem x27 {kc : it_Kc} (hk : KC kc) {B : Nat} {m : it_Me} (hI : Inv B m) (hB : B + 1 < 2147483000) {i : Nat} (hi : i < cnt m) {h : Int32} (t : P27 h) : Lo kc i (CX kc i h) (w_336 kc (nI i) h) (B + 2) m := by
  have h8 := cnt_le hI
  have i8 : i < 8 := by omega
  have hP := hI.p hi
  have ep : (m (14 + 5 * i) 3 + 2).toInt % 2 = 0 := evA hP.pce (by decide)
  obtain ⟨e3, e13, t⟩ := t
  refine x_flt hk hI hB hi 2 h (fun Φ hΦ => ⟨fun _ => hΦ, fun q => absurd t q⟩) (fun M hM Φ hΦ => ?_)
  · unfold w_336 w_336_63
    refine ⟨fun q => absurd (e3.symm.trans q) (by decide), fun _ => ⟨fun q => absurd (e3.symm.trans q) (by decide), fun _ => ?_⟩⟩
    rw [e13]
    unfold w_340 w_333 w_340_33 w_340_72 w_340_126 w_340_225 w_340_273 w_340_294 w_340_262 w_340_219 w_340_300 w_321
    refine ⟨fun q => ?_, fun q => ?_⟩ <;> refine ⟨vI i8, ?_⟩
    · exact ⟨fun q => absurd q (by decide), fun _ => ⟨fun q => absurd q (by decide), fun _ => ⟨fun q => absurd q (by decide), fun _ => ⟨fun q => absurd q (by decide), fun _ => ⟨fun q => absurd q (by decide), fun _ => ⟨fun q => absurd q (by decide), fun _ => hΦ⟩⟩⟩⟩⟩⟩
    · exact ⟨fun q => absurd q (by decide), fun _ => ⟨fun q => absurd q (by decide), fun _ => ⟨fun q => absurd q (by decide), fun _ => ⟨fun q => absurd q (by decide), fun _ => ⟨fun q => absurd q (by decide), fun _ => ⟨fun q => absurd q (by decide), fun _ => hΦ⟩⟩⟩⟩⟩⟩
theorem x22 {kc : it_Kc} (hk : KC kc) {B : Nat} {m : it_Me} (hI : Inv B m) (hB : B + 1 < 2147483000) {i : Nat} (hi : i < cnt m) {h : Int32} (t : P22 h) : Lo kc i (CX kc i h) (w_336 kc (nI i) h) (B + 2) m := by
  have h8 := cnt_le hI
  have i8 : i < 8 := by omega
  have hP := hI.p hi
  have ep : (m (14 + 5 * i) 3 + 2).toInt % 2 = 0 := evA hP.pce (by decide)
  obtain ⟨e3, e13, t⟩ := t
  rcases t with ⟨z, t⟩ | ⟨z, t⟩
  · refine x_flt hk hI hB hi 2 h (fun Φ hΦ => ⟨fun _ => hΦ, fun q => absurd t q⟩) (fun M hM Φ hΦ => ?_)
    · unfold w_336 w_336_63
      refine ⟨fun q => absurd (e3.symm.trans q) (by decide), fun _ => ⟨fun q => absurd (e3.symm.trans q) (by decide), fun _ => ?_⟩⟩
      rw [e13]
      unfold w_340 w_333 w_340_33 w_340_72 w_340_126 w_340_225 w_340_273 w_340_294 w_340_262 w_340_219 w_340_300 w_321
      refine ⟨fun q => ?_, fun q => ?_⟩ <;> refine ⟨vI i8, ?_⟩
      · exact ⟨fun q => absurd q (by decide), fun _ => ⟨fun _ => ⟨fun _ => ⟨fun q => absurd q (by decide), fun _ => ⟨fun q => absurd q (by decide), fun _ => ⟨fun q => absurd q (by decide), fun _ => ⟨fun q => absurd q (by decide), fun _ => hΦ⟩⟩⟩⟩, fun q => absurd z q⟩, fun q => absurd rfl q⟩⟩
      · exact ⟨fun q => absurd q (by decide), fun _ => ⟨fun _ => ⟨fun _ => ⟨fun q => absurd q (by decide), fun _ => ⟨fun q => absurd q (by decide), fun _ => ⟨fun q => absurd q (by decide), fun _ => ⟨fun q => absurd q (by decide), fun _ => hΦ⟩⟩⟩⟩, fun q => absurd z q⟩, fun q => absurd rfl q⟩⟩
  · refine x_map (x_ld hk hI hB hi (hw h) (f := 2) (by decide) (m (14 + 5 * i + 2) (Int32.toNatClampNeg (2)) + rO2 h) (L := 2) (Or.inl rfl)) (fun Φ hΦ => ⟨fun q => absurd q t.1, fun _ => ?_⟩) (fun M hM Φ hΦ => ?_)
    · obtain ⟨_, t1, t2, t3, t4, t5⟩ := t
      refine o_3 t1 ?_
      unfold w_115 w_108
      rw [t2]
      refine ⟨fun q => absurd q (by decide), fun _ => ⟨fun _ => c_109 ?_, fun q => absurd (by decide) q⟩⟩
      rw [t4, t5]
      exact hΦ
    · unfold w_336 w_336_63
      refine ⟨fun q => absurd (e3.symm.trans q) (by decide), fun _ => ⟨fun q => absurd (e3.symm.trans q) (by decide), fun _ => ?_⟩⟩
      rw [e13]
      unfold w_340 w_333 w_340_33 w_340_72 w_340_126 w_340_225 w_340_273 w_340_294 w_340_262 w_340_219 w_340_300 w_321
      rw [t.2.2.2.1] at hΦ
      refine ⟨fun q => ?_, fun q => ?_⟩ <;> refine ⟨vI i8, ?_⟩
      · exact ⟨fun q => absurd q (by decide), fun _ => ⟨fun _ => ⟨fun q => absurd q z, fun _ => r_318 hM i8 hi (R32_n (k := 2) (by omega)) hΦ⟩, fun q => absurd rfl q⟩⟩
      · exact ⟨fun q => absurd q (by decide), fun _ => ⟨fun _ => ⟨fun q => absurd q z, fun _ => r_318 hM i8 hi (R32_n (k := 2) (by omega)) hΦ⟩, fun q => absurd rfl q⟩⟩
theorem x26 {kc : it_Kc} (hk : KC kc) {B : Nat} {m : it_Me} (hI : Inv B m) (hB : B + 1 < 2147483000) {i : Nat} (hi : i < cnt m) {h : Int32} (t : P26 h) : Lo kc i (CX kc i h) (w_336 kc (nI i) h) (B + 2) m := by
  have h8 := cnt_le hI
  have i8 : i < 8 := by omega
  have hP := hI.p hi
  have ep : (m (14 + 5 * i) 3 + 2).toInt % 2 = 0 := evA hP.pce (by decide)
  obtain ⟨e3, e13, t⟩ := t
  refine x_map (x_st hk hI hB hi (hw h) (f := 2) (by decide) (m (14 + 5 * i + 2) (Int32.toNatClampNeg (2)) + rO6 h) (L := 2) (Or.inl rfl)) (fun Φ hΦ => ⟨fun q => absurd q t.1, fun _ => ?_⟩) (fun M hM Φ hΦ => ?_)
  · obtain ⟨_, t1, t2, t3, t4, t5⟩ := t
    refine o_35 t1 ?_
    unfold w_116 w_108
    rw [t2]
    refine ⟨fun _ => c_109 ?_, fun q => absurd (by decide) q⟩
    rw [t3, t5]
    exact hΦ
  · unfold w_336 w_336_63
    refine ⟨fun q => absurd (e3.symm.trans q) (by decide), fun _ => ⟨fun q => absurd (e3.symm.trans q) (by decide), fun _ => ?_⟩⟩
    rw [e13]
    unfold w_340 w_333 w_340_33 w_340_72 w_340_126 w_340_225 w_340_273 w_340_294 w_340_262 w_340_219 w_340_300 w_321
    rw [t.2.2.2.2.1] at hΦ
    refine ⟨fun q => ?_, fun q => ?_⟩ <;> refine ⟨vI i8, ?_⟩
    · exact ⟨fun q => absurd q (by decide), fun _ => ⟨fun q => absurd q (by decide), fun _ => ⟨fun _ => r_318 hM i8 hi (R32_n (k := 2) (by omega)) (r_318 hM i8 hi (R32_and _) hΦ), fun q => absurd rfl q⟩⟩⟩
    · exact ⟨fun q => absurd q (by decide), fun _ => ⟨fun q => absurd q (by decide), fun _ => ⟨fun _ => r_318 hM i8 hi (R32_n (k := 2) (by omega)) (r_318 hM i8 hi (R32_and _) hΦ), fun q => absurd rfl q⟩⟩⟩
theorem x24 {kc : it_Kc} (hk : KC kc) {B : Nat} {m : it_Me} (hI : Inv B m) (hB : B + 1 < 2147483000) {i : Nat} (hi : i < cnt m) {h : Int32} (t : P24 h) : Lo kc i (CX kc i h) (w_336 kc (nI i) h) (B + 2) m := by
  have h8 := cnt_le hI
  have i8 : i < 8 := by omega
  have hP := hI.p hi
  have ep : (m (14 + 5 * i) 3 + 2).toInt % 2 = 0 := evA hP.pce (by decide)
  obtain ⟨e3, e13, t⟩ := t
  rcases t with ⟨w, z, t⟩ | ⟨w, z, t⟩ | ⟨w, x, z, t⟩ | ⟨w, x, z, t⟩ | ⟨w, x, z, t⟩ | ⟨w, x, z, t⟩
  · refine x_fin hI hi (x := (it_us h 7 &&& 31)) (R32_and _) (m (14 + 5 * i + 2) (Int32.toNatClampNeg ((it_us h 2 &&& 31)))) (m (14 + 5 * i) 3 + 2) (ep) (fun Φ hΦ => ⟨fun q => absurd q t.1, fun _ => u_rg (v := m (14 + 5 * i + 2) (Int32.toNatClampNeg (0)) + m (14 + 5 * i + 2) (Int32.toNatClampNeg ((it_us h 2 &&& 31)))) t (Or.inl ⟨rfl, rfl⟩) (fun m1 Ψ hΨ => by unfold w_119 w_119_57; exact ⟨fun _ => ⟨fun _ => hΨ, fun q => absurd rfl q⟩, fun q => absurd rfl q⟩) (by rw [show Int32.toNatClampNeg 0 = 0 from rfl, hP.r0, Int32.zero_add]; exact hΦ)⟩) (fun M hM Φ hΦ => ?_)
    · unfold w_336 w_336_63
      refine ⟨fun q => absurd (e3.symm.trans q) (by decide), fun _ => ⟨fun q => absurd (e3.symm.trans q) (by decide), fun _ => ?_⟩⟩
      rw [e13]
      unfold w_340 w_333 w_340_33 w_340_72 w_340_126 w_340_225 w_340_273 w_340_294 w_340_262 w_340_219 w_340_300 w_321
      exact ⟨fun q => absurd q z, fun _ => ⟨vI i8, ⟨fun q => absurd q (by decide), fun _ => ⟨fun q => absurd q (by decide), fun _ => ⟨fun q => absurd q (by decide), fun _ => ⟨fun _ => ⟨fun q => absurd q w, fun _ => ⟨fun _ => r_318 hM i8 hi (R32_and _) (r_334 i8 (R32_and _) (by rw [hM.pc hi]; exact hΦ)), fun q => absurd rfl q⟩⟩, fun q => absurd rfl q⟩⟩⟩⟩⟩⟩
  · refine x_fin hI hi (x := (it_us h 7 &&& 31)) (R32_and _) (m (14 + 5 * i + 2) (Int32.toNatClampNeg ((it_us h 7 &&& 31))) + m (14 + 5 * i + 2) (Int32.toNatClampNeg ((it_us h 2 &&& 31)))) (m (14 + 5 * i) 3 + 2) (ep) (fun Φ hΦ => ⟨fun q => absurd q t.1, fun _ => u_rg t (Or.inl ⟨rfl, rfl⟩) (fun m1 Ψ hΨ => by unfold w_119 w_119_57; exact ⟨fun _ => ⟨fun _ => hΨ, fun q => absurd rfl q⟩, fun q => absurd rfl q⟩) hΦ⟩) (fun M hM Φ hΦ => ?_)
    · unfold w_336 w_336_63
      refine ⟨fun q => absurd (e3.symm.trans q) (by decide), fun _ => ⟨fun q => absurd (e3.symm.trans q) (by decide), fun _ => ?_⟩⟩
      rw [e13]
      unfold w_340 w_333 w_340_33 w_340_72 w_340_126 w_340_225 w_340_273 w_340_294 w_340_262 w_340_219 w_340_300 w_321
      exact ⟨fun _ => ⟨vI i8, ⟨fun q => absurd q (by decide), fun _ => ⟨fun q => absurd q (by decide), fun _ => ⟨fun q => absurd q (by decide), fun _ => ⟨fun _ => ⟨fun q => absurd q w, fun _ => ⟨fun q => absurd q (by decide), fun _ => r_318 hM i8 hi (R32_and _) (r_318 hM i8 hi (R32_and _) (r_334 i8 (R32_and _) (by rw [hM.pc hi]; exact hΦ)))⟩⟩, fun q => absurd rfl q⟩⟩⟩⟩⟩, fun q => absurd z q⟩
  · refine x_fin hI hi (x := 0) R32_0 (m (14 + 5 * i) 3 + 2) (m (14 + 5 * i + 2) (Int32.toNatClampNeg ((it_us h 7 &&& 31))) &&& (-2 : Int32)) (and_m2 _) (fun Φ hΦ => ⟨fun q => absurd q t.1, fun _ => u_JR t hΦ⟩) (fun M hM Φ hΦ => ?_)
    · unfold w_336 w_336_63
      refine ⟨fun q => absurd (e3.symm.trans q) (by decide), fun _ => ⟨fun q => absurd (e3.symm.trans q) (by decide), fun _ => ?_⟩⟩
      rw [e13]
      unfold w_340 w_333 w_340_33 w_340_72 w_340_126 w_340_225 w_340_273 w_340_294 w_340_262 w_340_219 w_340_300 w_321
      rw [cI i8]
      rw [wrM0] at hΦ
      exact ⟨fun q => absurd q z, fun _ => ⟨vI i8, ⟨fun q => absurd q (by decide), fun _ => ⟨fun q => absurd q (by decide), fun _ => ⟨fun q => absurd q (by decide), fun _ => ⟨fun _ => ⟨fun _ => ⟨fun _ => ⟨fun q => absurd q x, fun _ => r_318 hM i8 hi (R32_and _) ⟨fun _ => ⟨vI i8, hΦ⟩, fun q => absurd rfl q⟩⟩, fun q => absurd rfl q⟩, fun q => absurd w q⟩, fun q => absurd rfl q⟩⟩⟩⟩⟩⟩
  · refine x_fin hI hi (x := 1) (R32_n (k := 1) (by omega)) (m (14 + 5 * i) 3 + 2) (m (14 + 5 * i + 2) (Int32.toNatClampNeg ((it_us h 7 &&& 31))) &&& (-2 : Int32)) (and_m2 _) (fun Φ hΦ => ⟨fun q => absurd q t.1, fun _ => u_JR t hΦ⟩) (fun M hM Φ hΦ => ?_)
    · unfold w_336 w_336_63
      refine ⟨fun q => absurd (e3.symm.trans q) (by decide), fun _ => ⟨fun q => absurd (e3.symm.trans q) (by decide), fun _ => ?_⟩⟩
      rw [e13]
      unfold w_340 w_333 w_340_33 w_340_72 w_340_126 w_340_225 w_340_273 w_340_294 w_340_262 w_340_219 w_340_300 w_321
      rw [cI i8]
      rw [← hM.pc hi] at hΦ
      exact ⟨fun _ => ⟨vI i8, ⟨fun q => absurd q (by decide), fun _ => ⟨fun q => absurd q (by decide), fun _ => ⟨fun q => absurd q (by decide), fun _ => ⟨fun _ => ⟨fun _ => ⟨fun _ => ⟨fun q => absurd q x, fun _ => r_318 hM i8 hi (R32_and _) ⟨fun q => absurd q (by decide), fun _ => r_319 i8 (R32_n (k := 1) (by omega)) ⟨vI i8, hΦ⟩⟩⟩, fun q => absurd rfl q⟩, fun q => absurd w q⟩, fun q => absurd rfl q⟩⟩⟩⟩⟩, fun q => absurd z q⟩
  · refine x_flt hk hI hB hi 3 (m (14 + 5 * i) 3) (fun Φ hΦ => ⟨fun q => absurd (t.symm.trans q) (by decide), fun _ => ?_⟩) (fun M hM Φ hΦ => ?_)
    · refine o_115 (by rw [t]; decide) ?_
      unfold w_125 w_125_37
      exact ⟨fun q => absurd (t.symm.trans q) (by decide), fun _ => ⟨fun _ => hΦ, fun q => absurd t q⟩⟩
    · unfold w_336 w_336_63
      refine ⟨fun q => absurd (e3.symm.trans q) (by decide), fun _ => ⟨fun q => absurd (e3.symm.trans q) (by decide), fun _ => ?_⟩⟩
      rw [e13]
      unfold w_340 w_333 w_340_33 w_340_72 w_340_126 w_340_225 w_340_273 w_340_294 w_340_262 w_340_219 w_340_300 w_321
      rw [cI i8]
      rw [← hM.pc hi] at hΦ
      exact ⟨fun _ => ⟨vI i8, ⟨fun q => absurd q (by decide), fun _ => ⟨fun q => absurd q (by decide), fun _ => ⟨fun q => absurd q (by decide), fun _ => ⟨fun _ => ⟨fun _ => ⟨fun _ => ⟨fun _ => ⟨fun _ => ⟨fun q => absurd q (by decide), fun _ => hΦ⟩, fun q => absurd rfl q⟩, fun q => absurd x q⟩, fun q => absurd rfl q⟩, fun q => absurd w q⟩, fun q => absurd rfl q⟩⟩⟩⟩⟩, fun q => absurd z q⟩
  · refine x_flt hk hI hB hi 2 h (fun Φ hΦ => ⟨fun _ => hΦ, fun q => absurd t q⟩) (fun M hM Φ hΦ => ?_)
    · unfold w_336 w_336_63
      refine ⟨fun q => absurd (e3.symm.trans q) (by decide), fun _ => ⟨fun q => absurd (e3.symm.trans q) (by decide), fun _ => ?_⟩⟩
      rw [e13]
      unfold w_340 w_333 w_340_33 w_340_72 w_340_126 w_340_225 w_340_273 w_340_294 w_340_262 w_340_219 w_340_300 w_321
      exact ⟨fun q => absurd q z, fun _ => ⟨vI i8, ⟨fun q => absurd q (by decide), fun _ => ⟨fun q => absurd q (by decide), fun _ => ⟨fun q => absurd q (by decide), fun _ => ⟨fun _ => ⟨fun _ => ⟨fun _ => ⟨fun _ => ⟨fun _ => ⟨fun _ => hΦ, fun q => absurd rfl q⟩, fun q => absurd rfl q⟩, fun q => absurd x q⟩, fun q => absurd rfl q⟩, fun q => absurd w q⟩, fun q => absurd rfl q⟩⟩⟩⟩⟩⟩
theorem x_cmp {kc : it_Kc} (hk : KC kc) {B : Nat} {m : it_Me} (hI : Inv B m) (hB : B + 1 < 2147483000) {i : Nat} (hi : i < cnt m) {H : Nat} (h3 : H % 4 ≠ 3) (hH : H < 65536) : Lo kc i (CX kc i (nI H)) (w_336 kc (nI i) (nI H)) (B + 2) m := by
  have a : H % 4 = 0 ∨ H % 4 = 1 ∨ H % 4 = 2 := by omega
  have b : H / 8192 = 0 ∨ H / 8192 = 1 ∨ H / 8192 = 2 ∨ H / 8192 = 3 ∨ H / 8192 = 4 ∨ H / 8192 = 5 ∨ H / 8192 = 6 ∨ H / 8192 = 7 := by omega
  rcases a with a | a | a
  · rcases b with b | b | b | b | b | b | b | b
    · exact x00 hk hI hB hi (T00 a b)
    · exact x01 hk hI hB hi (T01 a b)
    · exact x02 hk hI hB hi (T02 a b)
    · exact x03 hk hI hB hi (T03 a b)
    · exact x04 hk hI hB hi (T04 a b)
    · exact x05 hk hI hB hi (T05 a b)
    · exact x06 hk hI hB hi (T06 a b)
    · exact x07 hk hI hB hi (T07 a b)
  · rcases b with b | b | b | b | b | b | b | b
    · exact x10 hk hI hB hi (T10 a b)
    · exact x11 hk hI hB hi (T11 a b)
    · exact x12 hk hI hB hi (T12 a b)
    · exact x13 hk hI hB hi (T13 a b)
    · exact x14 hk hI hB hi (T14 a b)
    · exact x15 hk hI hB hi (T15 a b)
    · exact x16 hk hI hB hi (T16 a b)
    · exact x17 hk hI hB hi (T17 a b)
  · rcases b with b | b | b | b | b | b | b | b
    · exact x20 hk hI hB hi (T20 a b)
    · exact x21 hk hI hB hi (T21 a b)
    · exact x22 hk hI hB hi (T22 a b)
    · exact x23 hk hI hB hi (T23 a b)
    · exact x24 hk hI hB hi (T24 a b)
    · exact x25 hk hI hB hi (T25 a b)
    · exact x26 hk hI hB hi (T26 a b)
    · exact x27 hk hI hB hi (T27 a b)
