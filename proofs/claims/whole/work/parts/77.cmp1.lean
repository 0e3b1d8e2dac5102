/-! Halfwords: what the class expands them to. Written by wip/whole/gen_c1.py -/
def cF (h a b c : Int32) : Int32 := it_shl ((it_us h a) &&& ((it_shl (1 : Int32) b) - (1 : Int32))) c
def cN (h a : Int32) : Int32 := (8 : Int32) + ((it_us h a) &&& (7 : Int32))
def cIm (op f rd rs im : Int32) : Int32 := ((((it_shl im (20 : Int32)) ||| (it_shl rs (15 : Int32))) ||| (it_shl f (12 : Int32))) ||| (it_shl rd (7 : Int32))) ||| op
def cRg (f s rd r1 r2 : Int32) : Int32 := (((((it_shl s (25 : Int32)) ||| (it_shl r2 (20 : Int32))) ||| (it_shl r1 (15 : Int32))) ||| (it_shl f (12 : Int32))) ||| (it_shl rd (7 : Int32))) ||| (51 : Int32)
def cSt (b s d : Int32) : Int32 := (((((it_shl (it_shr d (5 : Int32)) (25 : Int32)) ||| (it_shl s (20 : Int32))) ||| (it_shl b (15 : Int32))) ||| (8192 : Int32)) ||| (it_shl (d &&& (31 : Int32)) (7 : Int32))) ||| (35 : Int32)
def cO0 (h : Int32) : Int32 := (cF h 10 3 3 ||| cF h 6 1 2) ||| cF h 5 1 6
def cO4 (h : Int32) : Int32 := ((cF h 11 2 4 ||| cF h 7 4 6) ||| cF h 6 1 2) ||| cF h 5 1 3
def cw0 (h : Int32) : Int32 := if it_us h 13 = 0 then (if cO4 h = 0 then 0 else cIm 19 0 (cN h 2) 2 (cO4 h)) else if it_us h 13 = 2 then cIm 3 2 (cN h 2) (cN h 7) (cO0 h) else if it_us h 13 = 6 then cSt (cN h 7) (cN h 2) (cO0 h) else 0
def cSg (h n : Int32) : Int32 := it_shl (it_shr (it_shl h (19 : Int32)) (31 : Int32)) n
def cI6 (h : Int32) : Int32 := cSg h 5 ||| ((it_us h (2 : Int32)) &&& (31 : Int32))
def cI16 (h : Int32) : Int32 := (((cSg h 9 ||| cF h 6 1 4) ||| cF h 5 1 6) ||| cF h 3 2 7) ||| cF h 2 1 5
def cJo (h : Int32) : Int32 := ((((((cSg h 11 ||| cF h 11 1 4) ||| cF h 9 2 8) ||| cF h 8 1 10) ||| cF h 7 1 6) ||| cF h 6 1 7) ||| cF h 3 3 1) ||| cF h 2 1 5
def cJ (h r : Int32) : Int32 := ((((cF (cJo h) 20 1 31 ||| cF (cJo h) 1 10 21) ||| cF (cJo h) 11 1 20) ||| (cJo h &&& (1044480 : Int32))) ||| (it_shl r (7 : Int32))) ||| (111 : Int32)
def cBo (h : Int32) : Int32 := (((cSg h 8 ||| cF h 10 2 3) ||| cF h 5 2 6) ||| cF h 3 2 1) ||| cF h 2 1 5
def cB (h f : Int32) : Int32 := (((((cF (cBo h) 12 1 31 ||| cF (cBo h) 5 6 25) ||| (it_shl (cN h 7) (15 : Int32))) ||| (it_shl f (12 : Int32))) ||| cF (cBo h) 1 4 8) ||| cF (cBo h) 11 1 7) ||| (99 : Int32)
def cw4 (h u : Int32) : Int32 := if (it_us h 10) &&& 3 = 0 then (if u = 0 then cIm 19 5 (cN h 7) (cN h 7) (cI6 h) else 0) else if (it_us h 10) &&& 3 = 1 then (if u = 0 then cIm 19 5 (cN h 7) (cN h 7) (cI6 h ||| 1024) else 0) else if (it_us h 10) &&& 3 = 2 then cIm 19 7 (cN h 7) (cN h 7) (cI6 h) else if u = 0 then (if (it_us h 5) &&& 3 = 0 then cRg 0 32 (cN h 7) (cN h 7) (cN h 2) else if (it_us h 5) &&& 3 = 1 then cRg 4 0 (cN h 7) (cN h 7) (cN h 2) else if (it_us h 5) &&& 3 = 2 then cRg 6 0 (cN h 7) (cN h 7) (cN h 2) else cRg 7 0 (cN h 7) (cN h 7) (cN h 2)) else 0
def cw1 (h : Int32) : Int32 := if it_us h 13 = 0 then cIm 19 0 ((it_us h 7) &&& 31) ((it_us h 7) &&& 31) (cI6 h) else if it_us h 13 = 1 then cJ h 1 else if it_us h 13 = 2 then cIm 19 0 ((it_us h 7) &&& 31) 0 (cI6 h) else if it_us h 13 = 3 then (if (it_us h 7) &&& 31 = 2 then (if cI16 h = 0 then 0 else cIm 19 0 2 2 (cI16 h)) else if cI6 h = 0 then 0 else ((it_shl (cI6 h) 12) ||| (it_shl ((it_us h 7) &&& 31) 7)) ||| 55) else if it_us h 13 = 4 then (if (it_us h 12) &&& 1 = 1 then cw4 h 1 else cw4 h 0) else if it_us h 13 = 5 then cJ h 0 else if it_us h 13 = 6 then cB h 0 else cB h 1
def cO2 (h : Int32) : Int32 := (cF h 12 1 5 ||| cF h 4 3 2) ||| cF h 2 2 6
def cO6 (h : Int32) : Int32 := cF h 9 4 2 ||| cF h 7 2 6
def cw2u (h r s u : Int32) : Int32 := if it_us h 13 = 0 then (if u = 0 then cIm 19 1 r r s else 0) else if it_us h 13 = 1 then 0 else if it_us h 13 = 2 then (if r = 0 then 0 else cIm 3 2 r 2 (cO2 h)) else if it_us h 13 = 3 then 0 else if it_us h 13 = 4 then (if s = 0 then (if r = 0 then (if u = 0 then 0 else 1048691) else (if u = 0 then cIm 103 0 0 r 0 else cIm 103 0 1 r 0)) else (if u = 0 then cRg 0 0 r 0 s else cRg 0 0 r r s)) else if it_us h 13 = 5 then 0 else if it_us h 13 = 6 then cSt 2 s (cO6 h) else 0
def cw2 (h : Int32) : Int32 := if (it_us h 12) &&& 1 = 1 then cw2u h ((it_us h 7) &&& 31) ((it_us h 2) &&& 31) 1 else cw2u h ((it_us h 7) &&& 31) ((it_us h 2) &&& 31) 0
def hw (h : Int32) : Int32 := if h &&& 3 = 0 then cw0 h else if h &&& 3 = 1 then cw1 h else cw2 h
theorem c_28 {kc : it_Kc} {w : Int32} {m : it_Me} {Φ : Int32 → it_Me → Prop} (h : Φ (cw0 w) m) : w_28 kc w m Φ := by
  unfold w_28 w_23 w_24 w_25 w_27 w_28_121
  unfold cw0 cO4 cO0 cF cN cIm cSt at h
  (repeat' (first | exact h | (refine ⟨fun q => ?_, fun q => ?_⟩ <;> first | rw [if_pos q] at h | rw [if_neg q] at h)))
theorem c_33 {kc : it_Kc} {w u : Int32} {m : it_Me} {Φ : Int32 → it_Me → Prop} (h : Φ (cw4 w u) m) : w_33_28 kc Φ w (cI6 w) (cN w 7) (cN w 2) u m := by
  unfold w_33_28 w_25 w_26 w_33_82 w_33_105
  unfold cw4 cIm cRg at h
  (repeat' (first | exact h | (refine ⟨fun q => ?_, fun q => ?_⟩ <;> first | rw [if_pos q] at h | rw [if_neg q] at h)))
theorem c_30 {kc : it_Kc} {w : Int32} {m : it_Me} {Φ : Int32 → it_Me → Prop} (h : Φ (if cI16 w = 0 then 0 else cIm 19 0 2 2 (cI16 w)) m) : w_30 kc w m Φ := by
  unfold w_30 w_23 w_25 w_30_63
  unfold cI16 cSg cF cIm at h
  (repeat' (first | exact h | (refine ⟨fun q => ?_, fun q => ?_⟩ <;> first | rw [if_pos q] at h | rw [if_neg q] at h)))
theorem c_29 {kc : it_Kc} {w : Int32} {m : it_Me} {Φ : Int32 → it_Me → Prop} (h : Φ (cw1 w) m) : w_29 kc w m Φ := by
  unfold w_29 w_29_130
  unfold cw1 at h
  refine ⟨fun q => ?_, fun q => ?_⟩ <;> first | rw [if_pos q] at h | rw [if_neg q] at h
  · exact h
  refine ⟨fun q => ?_, fun q => ?_⟩ <;> first | rw [if_pos q] at h | rw [if_neg q] at h
  · unfold w_31 w_23
    exact h
  refine ⟨fun q => ?_, fun q => ?_⟩ <;> first | rw [if_pos q] at h | rw [if_neg q] at h
  · exact h
  refine ⟨fun q => ?_, fun q => ?_⟩ <;> first | rw [if_pos q] at h | rw [if_neg q] at h
  · refine ⟨fun q => ?_, fun q => ?_⟩ <;> first | rw [if_pos q] at h | rw [if_neg q] at h
    · exact c_30 h
    · unfold cI6 cSg at h
      refine ⟨fun q => ?_, fun q => ?_⟩ <;> first | rw [if_pos q] at h | rw [if_neg q] at h
      · exact h
      · exact h
  refine ⟨fun q => ?_, fun q => ?_⟩ <;> first | rw [if_pos q] at h | rw [if_neg q] at h
  · unfold w_33 w_24
    refine ⟨fun q => ?_, fun q => ?_⟩ <;> first | rw [if_pos q] at h | rw [if_neg q] at h
    · exact c_33 h
    · exact c_33 h
  refine ⟨fun q => ?_, fun q => ?_⟩ <;> first | rw [if_pos q] at h | rw [if_neg q] at h
  · unfold w_31 w_23
    exact h
  refine ⟨fun q => ?_, fun q => ?_⟩ <;> first | rw [if_pos q] at h | rw [if_neg q] at h
  · unfold w_32 w_23 w_24
    exact h
  · unfold w_32 w_23 w_24
    exact h
theorem c_34u {kc : it_Kc} {w r s u : Int32} {m : it_Me} {Φ : Int32 → it_Me → Prop} (h : Φ (cw2u w r s u) m) : w_34_30 kc Φ w r s u m := by
  unfold w_34_30 w_23 w_25 w_27 w_34_93 w_34_138 w_34_155 w_34_174 w_34_187 w_25 w_26
  unfold cw2u cO2 cO6 cF cIm cRg cSt at h
  (repeat' (first | exact h | (refine ⟨fun q => ?_, fun q => ?_⟩ <;> first | rw [if_pos q] at h | rw [if_neg q] at h)))
theorem c_22 {kc : it_Kc} {w : Int32} {m : it_Me} {Φ : Int32 → it_Me → Prop} (h : Φ (hw w) m) : w_22 kc w m Φ := by
  unfold w_22
  unfold hw at h
  refine ⟨fun q => ?_, fun q => ?_⟩ <;> first | rw [if_pos q] at h | rw [if_neg q] at h
  · exact c_28 h
  refine ⟨fun q => ?_, fun q => ?_⟩ <;> first | rw [if_pos q] at h | rw [if_neg q] at h
  · exact c_29 h
  · unfold w_34
    unfold cw2 at h
    refine ⟨fun q => ?_, fun q => ?_⟩ <;> first | rw [if_pos q] at h | rw [if_neg q] at h
    · exact c_34u h
    · exact c_34u h
theorem o_3 {kc : it_Kc} {x0 : Nat} {w p : Int32} {m : it_Me} {Φ : Int32 → it_Me → Prop} (e : w &&& 127 = 3) (h : w_115 kc x0 w p m Φ) : w_106 kc x0 w p m Φ := by
  unfold w_106
  exact ⟨fun _ => h, fun q => absurd e q⟩
theorem o_19 {kc : it_Kc} {x0 : Nat} {w p : Int32} {m : it_Me} {Φ : Int32 → it_Me → Prop} (e : w &&& 127 = 19) (h : w_117 kc x0 w p m Φ) : w_106 kc x0 w p m Φ := by
  unfold w_106
  exact ⟨fun q => absurd q (by rw [e]; decide), fun _ => ⟨fun q => absurd q (by rw [e]; decide), fun _ => ⟨fun _ => h, fun q => absurd e q⟩⟩⟩
theorem o_35 {kc : it_Kc} {x0 : Nat} {w p : Int32} {m : it_Me} {Φ : Int32 → it_Me → Prop} (e : w &&& 127 = 35) (h : w_116 kc x0 w p m Φ) : w_106 kc x0 w p m Φ := by
  unfold w_106
  exact ⟨fun q => absurd q (by rw [e]; decide), fun _ => ⟨fun q => absurd q (by rw [e]; decide), fun _ => ⟨fun q => absurd q (by rw [e]; decide), fun _ => ⟨fun q => absurd q (by rw [e]; decide), fun _ => ⟨fun _ => h, fun q => absurd e q⟩⟩⟩⟩⟩
theorem o_51 {kc : it_Kc} {x0 : Nat} {w p : Int32} {m : it_Me} {Φ : Int32 → it_Me → Prop} (e : w &&& 127 = 51) (h : w_118 kc x0 w p m Φ) : w_106 kc x0 w p m Φ := by
  unfold w_106
  exact ⟨fun q => absurd q (by rw [e]; decide), fun _ => ⟨fun q => absurd q (by rw [e]; decide), fun _ => ⟨fun q => absurd q (by rw [e]; decide), fun _ => ⟨fun q => absurd q (by rw [e]; decide), fun _ => ⟨fun q => absurd q (by rw [e]; decide), fun _ => ⟨fun q => absurd q (by rw [e]; decide), fun _ => ⟨fun _ => h, fun q => absurd e q⟩⟩⟩⟩⟩⟩⟩
theorem o_55 {kc : it_Kc} {x0 : Nat} {w p : Int32} {m : it_Me} {Φ : Int32 → it_Me → Prop} (e : w &&& 127 = 55) (h : w_107 kc x0 w (w &&& (-4096 : Int32)) p m Φ) : w_106 kc x0 w p m Φ := by
  unfold w_106
  exact ⟨fun q => absurd q (by rw [e]; decide), fun _ => ⟨fun q => absurd q (by rw [e]; decide), fun _ => ⟨fun q => absurd q (by rw [e]; decide), fun _ => ⟨fun q => absurd q (by rw [e]; decide), fun _ => ⟨fun q => absurd q (by rw [e]; decide), fun _ => ⟨fun q => absurd q (by rw [e]; decide), fun _ => ⟨fun q => absurd q (by rw [e]; decide), fun _ => ⟨fun _ => h, fun q => absurd e q⟩⟩⟩⟩⟩⟩⟩⟩
theorem o_99 {kc : it_Kc} {x0 : Nat} {w p : Int32} {m : it_Me} {Φ : Int32 → it_Me → Prop} (e : w &&& 127 = 99) (h : w_114 kc x0 w p m Φ) : w_106 kc x0 w p m Φ := by
  unfold w_106
  exact ⟨fun q => absurd q (by rw [e]; decide), fun _ => ⟨fun q => absurd q (by rw [e]; decide), fun _ => ⟨fun q => absurd q (by rw [e]; decide), fun _ => ⟨fun q => absurd q (by rw [e]; decide), fun _ => ⟨fun q => absurd q (by rw [e]; decide), fun _ => ⟨fun q => absurd q (by rw [e]; decide), fun _ => ⟨fun q => absurd q (by rw [e]; decide), fun _ => ⟨fun q => absurd q (by rw [e]; decide), fun _ => ⟨fun _ => h, fun q => absurd e q⟩⟩⟩⟩⟩⟩⟩⟩⟩
theorem o_103 {kc : it_Kc} {x0 : Nat} {w p : Int32} {m : it_Me} {Φ : Int32 → it_Me → Prop} (e : w &&& 127 = 103) (h : w_113 kc x0 w p m Φ) : w_106 kc x0 w p m Φ := by
  unfold w_106
  exact ⟨fun q => absurd q (by rw [e]; decide), fun _ => ⟨fun q => absurd q (by rw [e]; decide), fun _ => ⟨fun q => absurd q (by rw [e]; decide), fun _ => ⟨fun q => absurd q (by rw [e]; decide), fun _ => ⟨fun q => absurd q (by rw [e]; decide), fun _ => ⟨fun q => absurd q (by rw [e]; decide), fun _ => ⟨fun q => absurd q (by rw [e]; decide), fun _ => ⟨fun q => absurd q (by rw [e]; decide), fun _ => ⟨fun q => absurd q (by rw [e]; decide), fun _ => ⟨fun _ => h, fun q => absurd e q⟩⟩⟩⟩⟩⟩⟩⟩⟩⟩
theorem o_111 {kc : it_Kc} {x0 : Nat} {w p : Int32} {m : it_Me} {Φ : Int32 → it_Me → Prop} (e : w &&& 127 = 111) (h : w_111 kc w m (fun r21 m22 => w_107 kc x0 w p ((m x0 3) + r21) m22 (fun r23 m24 => Φ r23 m24))) : w_106 kc x0 w p m Φ := by
  unfold w_106
  exact ⟨fun q => absurd q (by rw [e]; decide), fun _ => ⟨fun q => absurd q (by rw [e]; decide), fun _ => ⟨fun q => absurd q (by rw [e]; decide), fun _ => ⟨fun q => absurd q (by rw [e]; decide), fun _ => ⟨fun q => absurd q (by rw [e]; decide), fun _ => ⟨fun q => absurd q (by rw [e]; decide), fun _ => ⟨fun q => absurd q (by rw [e]; decide), fun _ => ⟨fun q => absurd q (by rw [e]; decide), fun _ => ⟨fun q => absurd q (by rw [e]; decide), fun _ => ⟨fun q => absurd q (by rw [e]; decide), fun _ => ⟨fun _ => h, fun q => absurd e q⟩⟩⟩⟩⟩⟩⟩⟩⟩⟩⟩
theorem o_115 {kc : it_Kc} {x0 : Nat} {w p : Int32} {m : it_Me} {Φ : Int32 → it_Me → Prop} (e : w &&& 127 = 115) (h : w_125 kc x0 w p m Φ) : w_106 kc x0 w p m Φ := by
  unfold w_106
  exact ⟨fun q => absurd q (by rw [e]; decide), fun _ => ⟨fun q => absurd q (by rw [e]; decide), fun _ => ⟨fun q => absurd q (by rw [e]; decide), fun _ => ⟨fun q => absurd q (by rw [e]; decide), fun _ => ⟨fun q => absurd q (by rw [e]; decide), fun _ => ⟨fun q => absurd q (by rw [e]; decide), fun _ => ⟨fun q => absurd q (by rw [e]; decide), fun _ => ⟨fun q => absurd q (by rw [e]; decide), fun _ => ⟨fun q => absurd q (by rw [e]; decide), fun _ => ⟨fun q => absurd q (by rw [e]; decide), fun _ => ⟨fun q => absurd q (by rw [e]; decide), fun _ => ⟨fun _ => h, fun q => absurd e q⟩⟩⟩⟩⟩⟩⟩⟩⟩⟩⟩⟩
/-- fields of an expanded word -/
abbrev isI (W op f rd rs im : Int32) : Prop := ¬ W = 0 ∧ W &&& 127 = op ∧ it_us W 12 &&& 7 = f ∧ it_us W 7 &&& 31 = rd ∧ it_us W 15 &&& 31 = rs ∧ it_shr W 20 = im
abbrev isH (W f rd rs z sh : Int32) : Prop := ¬ W = 0 ∧ W &&& 127 = 19 ∧ it_us W 12 &&& 7 = f ∧ it_us W 7 &&& 31 = rd ∧ it_us W 15 &&& 31 = rs ∧ it_us W 25 = z ∧ it_shr W 20 &&& 31 = sh
abbrev isR (W f z rd rs r2 : Int32) : Prop := ¬ W = 0 ∧ W &&& 127 = 51 ∧ it_us W 12 &&& 7 = f ∧ it_us W 7 &&& 31 = rd ∧ it_us W 15 &&& 31 = rs ∧ it_us W 20 &&& 31 = r2 ∧ it_us W 25 = z
abbrev isS (W rs r2 d : Int32) : Prop := ¬ W = 0 ∧ W &&& 127 = 35 ∧ it_us W 12 &&& 7 = 2 ∧ it_us W 15 &&& 31 = rs ∧ it_us W 20 &&& 31 = r2 ∧ (it_shl (it_shr W (25 : Int32)) (5 : Int32)) ||| ((it_us W (7 : Int32)) &&& (31 : Int32)) = d
abbrev isJ (W rd d : Int32) : Prop := ¬ W = 0 ∧ W &&& 127 = 111 ∧ it_us W 7 &&& 31 = rd ∧ (((it_shl (it_shr W (31 : Int32)) (20 : Int32)) ||| (W &&& (1044480 : Int32))) ||| (it_shl ((it_us W (20 : Int32)) &&& (1 : Int32)) (11 : Int32))) ||| (it_shl ((it_us W (21 : Int32)) &&& (1023 : Int32)) (1 : Int32)) = d
abbrev isB (W f rs d : Int32) : Prop := ¬ W = 0 ∧ W &&& 127 = 99 ∧ it_us W 12 &&& 7 = f ∧ it_us W 15 &&& 31 = rs ∧ it_us W 20 &&& 31 = 0 ∧ (((it_shl (it_shr W (31 : Int32)) (12 : Int32)) ||| (it_shl ((it_us W (7 : Int32)) &&& (1 : Int32)) (11 : Int32))) ||| (it_shl ((it_us W (25 : Int32)) &&& (63 : Int32)) (5 : Int32))) ||| (it_shl ((it_us W (8 : Int32)) &&& (15 : Int32)) (1 : Int32)) = d
abbrev bn (h a c : Int32) : Int32 := it_shl ((it_us h a) &&& (1 : Int32)) c
abbrev rO4 (h : Int32) : Int32 := (((it_shl ((it_us h (11 : Int32)) &&& (3 : Int32)) (4 : Int32)) ||| (it_shl ((it_us h (7 : Int32)) &&& (15 : Int32)) (6 : Int32))) ||| bn h 6 2) ||| bn h 5 3
abbrev rO0 (h : Int32) : Int32 := ((it_shl ((it_us h (10 : Int32)) &&& (7 : Int32)) (3 : Int32)) ||| bn h 6 2) ||| bn h 5 6
abbrev rI6 (h : Int32) : Int32 := (-(bn h 12 5)) ||| ((it_us h (2 : Int32)) &&& (31 : Int32))
abbrev rI16 (h : Int32) : Int32 := ((((-(bn h 12 9)) ||| bn h 6 4) ||| bn h 5 6) ||| (it_shl ((it_us h (3 : Int32)) &&& (3 : Int32)) (7 : Int32))) ||| bn h 2 5
abbrev rJ (h : Int32) : Int32 := (((((((-(bn h 12 11)) ||| bn h 11 4) ||| (it_shl ((it_us h (9 : Int32)) &&& (3 : Int32)) (8 : Int32))) ||| bn h 8 10) ||| bn h 7 6) ||| bn h 6 7) ||| (it_shl ((it_us h (3 : Int32)) &&& (7 : Int32)) (1 : Int32))) ||| bn h 2 5
abbrev rB (h : Int32) : Int32 := ((((-(bn h 12 8)) ||| (it_shl ((it_us h (10 : Int32)) &&& (3 : Int32)) (3 : Int32))) ||| (it_shl ((it_us h (5 : Int32)) &&& (3 : Int32)) (6 : Int32))) ||| (it_shl ((it_us h (3 : Int32)) &&& (3 : Int32)) (1 : Int32))) ||| bn h 2 5
abbrev rO2 (h : Int32) : Int32 := (bn h 12 5 ||| (it_shl ((it_us h (4 : Int32)) &&& (7 : Int32)) (2 : Int32))) ||| (it_shl ((it_us h (2 : Int32)) &&& (3 : Int32)) (6 : Int32))
abbrev rO6 (h : Int32) : Int32 := (it_shl ((it_us h (9 : Int32)) &&& (15 : Int32)) (2 : Int32)) ||| (it_shl ((it_us h (7 : Int32)) &&& (3 : Int32)) (6 : Int32))
theorem tbl {q f : Nat} {P : Int32 → Prop} (t : ∀ a, a < 32 → ∀ b, b < 64 → P (nI (8192 * f + 4 * (64 * a + b) + q))) {H : Nat} (e1 : H % 4 = q) (e2 : H / 8192 = f) : P (nI H) := by
  have := t (H % 8192 / 4 / 64) (by omega) (H % 8192 / 4 % 64) (by omega)
  rw [show 8192 * f + 4 * (64 * (H % 8192 / 4 / 64) + H % 8192 / 4 % 64) + q = H by omega] at this
  exact this
