/-! The reference's opening of the store leaves 66 7, 66 8, 66 9 alone. Written by wip/whole/gen_fr2.py -/
/-- these three from S, the others from N -/
def mxb (N S : it_Me) : it_Me := fun k j => if k = 66 ∧ (j = 7 ∨ j = 8 ∨ j = 9) then S k j else N k j
theorem mxb_n (N S : it_Me) {k : Nat} (j : Nat) (h : k ≠ 66) : mxb N S k j = N k j := by unfold mxb; rw [if_neg (by omega)]
theorem mxb_66 (N S : it_Me) {j : Nat} (h : j ≠ 7 ∧ j ≠ 8 ∧ j ≠ 9) : mxb N S 66 j = N 66 j := by unfold mxb; rw [if_neg (by omega)]
theorem sv_mxb (N S : it_Me) {k j : Nat} (v : Int32) (h : k ≠ 66 ∨ (j ≠ 7 ∧ j ≠ 8 ∧ j ≠ 9)) : it_sv (mxb N S) k j v = mxb (it_sv N k j v) S := by
  funext a b
  rw [sv_rd]
  unfold mxb
  by_cases e : a = k ∧ b = j
  · rw [if_pos e, if_neg (by omega), sv_rd, if_pos e]
  · rw [if_neg e, sv_rd, if_neg e]
theorem g_218 {kc : it_Kc} {S N : it_Me} {x0 : Int32} {Φ Ψ : Int32 → it_Me → Prop} (h : w_218 kc x0 N Φ) (hΨ : ∀ r N, Φ r N → Ψ r (mxb N S)) : w_218 kc x0 (mxb N S) Ψ := by
  unfold w_218 at h ⊢
  try simp (disch := omega) only [mxb_n, mxb_66, sv_mxb] at h ⊢
  repeat' (first | (with_reducible first | exact h | exact hΨ _ _ h | (refine ⟨(fun h => ?_) h.1, (fun h => ?_) h.2⟩) | (refine fun c => (fun h => ?_) (h c))) | (simp (disch := omega) only [mxb_n, mxb_66, sv_mxb]))
theorem g_219 {kc : it_Kc} {S N : it_Me} {x0 : Int32} {Φ Ψ : Int32 → it_Me → Prop} (h : w_219 kc x0 N Φ) (hΨ : ∀ r N, Φ r N → Ψ r (mxb N S)) : w_219 kc x0 (mxb N S) Ψ := by
  unfold w_219 at h ⊢
  try simp (disch := omega) only [mxb_n, mxb_66, sv_mxb] at h ⊢
  repeat' (first | (with_reducible first | exact h | exact hΨ _ _ h | (refine g_218 h (fun r N1 h => ?_)) | (refine ⟨(fun h => ?_) h.1, (fun h => ?_) h.2⟩) | (refine fun c => (fun h => ?_) (h c))) | (simp (disch := omega) only [mxb_n, mxb_66, sv_mxb]))
theorem g_220 {kc : it_Kc} {S N : it_Me} {x0 : Int32} {Φ Ψ : Int32 → it_Me → Prop} (h : w_220 kc x0 N Φ) (hΨ : ∀ r N, Φ r N → Ψ r (mxb N S)) : w_220 kc x0 (mxb N S) Ψ := by
  unfold w_220 at h ⊢
  try simp (disch := omega) only [mxb_n, mxb_66, sv_mxb] at h ⊢
  repeat' (first | (with_reducible first | exact h | exact hΨ _ _ h | (refine g_219 h (fun r N1 h => ?_)) | (refine ⟨(fun h => ?_) h.1, (fun h => ?_) h.2⟩) | (refine fun c => (fun h => ?_) (h c))) | (simp (disch := omega) only [mxb_n, mxb_66, sv_mxb]))
theorem gl_221_2 {kc : it_Kc} {S : it_Me} {Φ Ψ : it_Me → Prop} {K28 K28p : it_Me → Prop} (hΨ : ∀ N, Φ N → Ψ (mxb N S)) (hK28 : ∀  N, K28  N → K28p  (mxb N S)) : ∀ (n : Nat) (a0 : Int32) (a1 : Int32) (a2 : Int32) (N : it_Me), w_221_2 kc Φ K28 n a0 a1 a2 N → w_221_2 kc Ψ K28p n a0 a1 a2 (mxb N S) := by
  intro n
  induction n with
  | zero => intro a0 a1 a2 N h; exact h.elim
  | succ n ih =>
    intro a0 a1 a2 N h
    unfold w_221_2 at h ⊢
    
    try simp (disch := omega) only [mxb_n, mxb_66, sv_mxb, w_221_28] at h ⊢
    repeat' (first | (with_reducible first | exact h | exact ih _ _ _ _ h | exact hΨ _ h | exact hK28 _ h | (refine ⟨(fun h => ?_) h.1, (fun h => ?_) h.2⟩) | (refine fun c => (fun h => ?_) (h c))) | (simp (disch := omega) only [mxb_n, mxb_66, sv_mxb]))
theorem g_221 {kc : it_Kc} {S N : it_Me} {x0 : Int32} {x1 : Int32} {Φ Ψ : it_Me → Prop} (h : w_221 kc x0 x1 N Φ) (hΨ : ∀ N, Φ N → Ψ (mxb N S)) : w_221 kc x0 x1 (mxb N S) Ψ := by
  unfold w_221 at h ⊢
  try simp (disch := omega) only [mxb_n, mxb_66, sv_mxb, w_221_28] at h ⊢
  repeat' (first | (with_reducible first | exact h | exact hΨ _ h | (obtain ⟨e, h⟩ := h; refine ⟨e, gl_221_2 hΨ (fun N1 h => ?_) e _ _ _ _ h⟩) | (refine ⟨(fun h => ?_) h.1, (fun h => ?_) h.2⟩) | (refine fun c => (fun h => ?_) (h c))) | (simp (disch := omega) only [mxb_n, mxb_66, sv_mxb]))
theorem g_230 {kc : it_Kc} {S N : it_Me}  {Φ Ψ : Int32 → it_Me → Prop} (h : w_230 kc  N Φ) (hΨ : ∀ r N, Φ r N → Ψ r (mxb N S)) : w_230 kc  (mxb N S) Ψ := by
  unfold w_230 at h ⊢
  try simp (disch := omega) only [mxb_n, mxb_66, sv_mxb, w_230_38] at h ⊢
  repeat' (first | (with_reducible first | exact h | exact hΨ _ _ h | (refine ⟨(fun h => ?_) h.1, (fun h => ?_) h.2⟩) | (refine fun c => (fun h => ?_) (h c))) | (simp (disch := omega) only [mxb_n, mxb_66, sv_mxb]))
theorem g_231 {kc : it_Kc} {S N : it_Me} {x0 : Int32} {x1 : Int32} {Φ Ψ : it_Me → Prop} (h : w_231 kc x0 x1 N Φ) (hΨ : ∀ N, Φ N → Ψ (mxb N S)) : w_231 kc x0 x1 (mxb N S) Ψ := by
  unfold w_231 at h ⊢
  try simp (disch := omega) only [mxb_n, mxb_66, sv_mxb, w_231_20] at h ⊢
  repeat' (first | (with_reducible first | exact h | exact hΨ _ h | (refine g_221 h (fun N1 h => ?_)) | (refine g_230 h (fun r N1 h => ?_)) | (refine ⟨(fun h => ?_) h.1, (fun h => ?_) h.2⟩) | (refine fun c => (fun h => ?_) (h c))) | (simp (disch := omega) only [mxb_n, mxb_66, sv_mxb]))
theorem gl_232_27 {kc : it_Kc} {S : it_Me} {Φ Ψ : it_Me → Prop} {K54 K54p : it_Me → Prop} (hΨ : ∀ N, Φ N → Ψ (mxb N S)) (hK54 : ∀  N, K54  N → K54p  (mxb N S)) : ∀ (n : Nat) (a0 : Int32) (a1 : Int32) (a2 : Int32) (N : it_Me), w_232_27 kc Φ K54 n a0 a1 a2 N → w_232_27 kc Ψ K54p n a0 a1 a2 (mxb N S) := by
  intro n
  induction n with
  | zero => intro a0 a1 a2 N h; exact h.elim
  | succ n ih =>
    intro a0 a1 a2 N h
    unfold w_232_27 at h ⊢
    
    try simp (disch := omega) only [mxb_n, mxb_66, sv_mxb, w_232_54, w_232_24] at h ⊢
    repeat' (first | (with_reducible first | exact h | exact ih _ _ _ _ h | exact hΨ _ h | exact hK54 _ h | (refine g_230 h (fun r N1 h => ?_)) | (refine ⟨(fun h => ?_) h.1, (fun h => ?_) h.2⟩) | (refine fun c => (fun h => ?_) (h c))) | (simp (disch := omega) only [mxb_n, mxb_66, sv_mxb]))
theorem g_232 {kc : it_Kc} {S N : it_Me} {x0 : Int32} {Φ Ψ : it_Me → Prop} (h : w_232 kc x0 N Φ) (hΨ : ∀ N, Φ N → Ψ (mxb N S)) : w_232 kc x0 (mxb N S) Ψ := by
  unfold w_232 at h ⊢
  try simp (disch := omega) only [mxb_n, mxb_66, sv_mxb, w_232_54, w_232_24] at h ⊢
  repeat' (first | (with_reducible first | exact h | exact hΨ _ h | (obtain ⟨e, h⟩ := h; refine ⟨e, gl_232_27 hΨ (fun N1 h => ?_) e _ _ _ _ h⟩) | (refine g_230 h (fun r N1 h => ?_)) | (refine ⟨(fun h => ?_) h.1, (fun h => ?_) h.2⟩) | (refine fun c => (fun h => ?_) (h c))) | (simp (disch := omega) only [mxb_n, mxb_66, sv_mxb]))
theorem g_233 {kc : it_Kc} {S N : it_Me} {x0 : Int32} {Φ Ψ : Int32 → it_Me → Prop} (h : w_233 kc x0 N Φ) (hΨ : ∀ r N, Φ r N → Ψ r (mxb N S)) : w_233 kc x0 (mxb N S) Ψ := by
  unfold w_233 at h ⊢
  try simp (disch := omega) only [mxb_n, mxb_66, sv_mxb] at h ⊢
  repeat' (first | (with_reducible first | exact h | exact hΨ _ _ h | (refine ⟨(fun h => ?_) h.1, (fun h => ?_) h.2⟩) | (refine fun c => (fun h => ?_) (h c))) | (simp (disch := omega) only [mxb_n, mxb_66, sv_mxb]))
theorem g_234 {kc : it_Kc} {S N : it_Me} {x0 : Int32} {Φ Ψ : Int32 → it_Me → Prop} (h : w_234 kc x0 N Φ) (hΨ : ∀ r N, Φ r N → Ψ r (mxb N S)) : w_234 kc x0 (mxb N S) Ψ := by
  unfold w_234 at h ⊢
  try simp (disch := omega) only [mxb_n, mxb_66, sv_mxb, w_234_23] at h ⊢
  repeat' (first | (with_reducible first | exact h | exact hΨ _ _ h | (refine g_220 h (fun r N1 h => ?_)) | (refine g_233 h (fun r N1 h => ?_)) | (refine ⟨(fun h => ?_) h.1, (fun h => ?_) h.2⟩) | (refine fun c => (fun h => ?_) (h c))) | (simp (disch := omega) only [mxb_n, mxb_66, sv_mxb]))
theorem gl_235_114 {kc : it_Kc} {S : it_Me} {Φ Ψ : Int32 → it_Me → Prop} {K140 K140p : Int32 → Int32 → it_Me → Prop} (hΨ : ∀ r N, Φ r N → Ψ r (mxb N S)) (hK140 : ∀ b0 b1 N, K140 b0 b1 N → K140p b0 b1 (mxb N S)) : ∀ (n : Nat) (a0 : Int32) (a1 : Int32) (a2 : Int32) (N : it_Me), w_235_114 kc Φ K140 n a0 a1 a2 N → w_235_114 kc Ψ K140p n a0 a1 a2 (mxb N S) := by
  intro n
  induction n with
  | zero => intro a0 a1 a2 N h; exact h.elim
  | succ n ih =>
    intro a0 a1 a2 N h
    unfold w_235_114 at h ⊢
    
    try simp (disch := omega) only [mxb_n, mxb_66, sv_mxb, w_235_27, w_235_169, w_235_152, w_235_140, w_235_86, w_235_64] at h ⊢
    repeat' (first | (with_reducible first | exact h | exact ih _ _ _ _ h | exact hΨ _ _ h | exact hK140 _ _ _ h | (refine g_220 h (fun r N1 h => ?_)) | (refine g_233 h (fun r N1 h => ?_)) | (refine ⟨(fun h => ?_) h.1, (fun h => ?_) h.2⟩) | (refine fun c => (fun h => ?_) (h c))) | (simp (disch := omega) only [mxb_n, mxb_66, sv_mxb]))
theorem g_235 {kc : it_Kc} {S N : it_Me} {x0 : Int32} {x1 : Int32} {Φ Ψ : Int32 → it_Me → Prop} (h : w_235 kc x0 x1 N Φ) (hΨ : ∀ r N, Φ r N → Ψ r (mxb N S)) : w_235 kc x0 x1 (mxb N S) Ψ := by
  unfold w_235 at h ⊢
  try simp (disch := omega) only [mxb_n, mxb_66, sv_mxb, w_235_27, w_235_169, w_235_152, w_235_140, w_235_86, w_235_64] at h ⊢
  repeat' (first | (with_reducible first | exact h | exact hΨ _ _ h | (obtain ⟨e, h⟩ := h; refine ⟨e, gl_235_114 hΨ (fun _ _ N1 h => ?_) e _ _ _ _ h⟩) | (refine g_220 h (fun r N1 h => ?_)) | (refine g_233 h (fun r N1 h => ?_)) | (refine ⟨(fun h => ?_) h.1, (fun h => ?_) h.2⟩) | (refine fun c => (fun h => ?_) (h c))) | (simp (disch := omega) only [mxb_n, mxb_66, sv_mxb]))
theorem gl_236_15 {kc : it_Kc} {S : it_Me} {Φ Ψ : Int32 → it_Me → Prop} {K32 K32p : Int32 → it_Me → Prop} (hΨ : ∀ r N, Φ r N → Ψ r (mxb N S)) (hK32 : ∀ b0 N, K32 b0 N → K32p b0 (mxb N S)) : ∀ (n : Nat) (a0 : Int32) (a1 : Int32) (a2 : Int32) (N : it_Me), w_236_15 kc Φ K32 n a0 a1 a2 N → w_236_15 kc Ψ K32p n a0 a1 a2 (mxb N S) := by
  intro n
  induction n with
  | zero => intro a0 a1 a2 N h; exact h.elim
  | succ n ih =>
    intro a0 a1 a2 N h
    unfold w_236_15 at h ⊢
    
    try simp (disch := omega) only [mxb_n, mxb_66, sv_mxb, w_236_32] at h ⊢
    repeat' (first | (with_reducible first | exact h | exact ih _ _ _ _ h | exact hΨ _ _ h | exact hK32 _ _ h | (refine g_233 h (fun r N1 h => ?_)) | (refine g_235 h (fun r N1 h => ?_)) | (refine ⟨(fun h => ?_) h.1, (fun h => ?_) h.2⟩) | (refine fun c => (fun h => ?_) (h c))) | (simp (disch := omega) only [mxb_n, mxb_66, sv_mxb]))
theorem g_236 {kc : it_Kc} {S N : it_Me} {x0 : Int32} {Φ Ψ : Int32 → it_Me → Prop} (h : w_236 kc x0 N Φ) (hΨ : ∀ r N, Φ r N → Ψ r (mxb N S)) : w_236 kc x0 (mxb N S) Ψ := by
  unfold w_236 at h ⊢
  try simp (disch := omega) only [mxb_n, mxb_66, sv_mxb, w_236_32] at h ⊢
  repeat' (first | (with_reducible first | exact h | exact hΨ _ _ h | (obtain ⟨e, h⟩ := h; refine ⟨e, gl_236_15 hΨ (fun _ N1 h => ?_) e _ _ _ _ h⟩) | (refine g_233 h (fun r N1 h => ?_)) | (refine g_235 h (fun r N1 h => ?_)) | (refine ⟨(fun h => ?_) h.1, (fun h => ?_) h.2⟩) | (refine fun c => (fun h => ?_) (h c))) | (simp (disch := omega) only [mxb_n, mxb_66, sv_mxb]))
theorem gl_237_6 {kc : it_Kc} {S : it_Me} {Φ Ψ : Int32 → it_Me → Prop} {K29 K29p : it_Me → Prop} {K37 K37p : it_Me → Prop} (hΨ : ∀ r N, Φ r N → Ψ r (mxb N S)) (hK29 : ∀  N, K29  N → K29p  (mxb N S)) (hK37 : ∀  N, K37  N → K37p  (mxb N S)) : ∀ (n : Nat) (a0 : Int32) (a1 : Int32) (N : it_Me), w_237_6 kc Φ K29 K37 n a0 a1 N → w_237_6 kc Ψ K29p K37p n a0 a1 (mxb N S) := by
  intro n
  induction n with
  | zero => intro a0 a1 N h; exact h.elim
  | succ n ih =>
    intro a0 a1 N h
    unfold w_237_6 at h ⊢
    
    try simp (disch := omega) only [mxb_n, mxb_66, sv_mxb, w_237_29, w_237_37] at h ⊢
    repeat' (first | (with_reducible first | exact h | exact ih _ _ _ h | exact hΨ _ _ h | exact hK29 _ h | exact hK37 _ h | (refine g_233 h (fun r N1 h => ?_)) | (refine g_236 h (fun r N1 h => ?_)) | (refine ⟨(fun h => ?_) h.1, (fun h => ?_) h.2⟩) | (refine fun c => (fun h => ?_) (h c))) | (simp (disch := omega) only [mxb_n, mxb_66, sv_mxb]))
theorem g_237 {kc : it_Kc} {S N : it_Me} {x0 : Int32} {Φ Ψ : Int32 → it_Me → Prop} (h : w_237 kc x0 N Φ) (hΨ : ∀ r N, Φ r N → Ψ r (mxb N S)) : w_237 kc x0 (mxb N S) Ψ := by
  unfold w_237 at h ⊢
  try simp (disch := omega) only [mxb_n, mxb_66, sv_mxb, w_237_29, w_237_37] at h ⊢
  repeat' (first | (with_reducible first | exact h | exact hΨ _ _ h | (obtain ⟨e, h⟩ := h; refine ⟨e, gl_237_6 hΨ (fun N1 h => ?_) (fun N1 h => ?_) e _ _ _ h⟩) | (refine g_233 h (fun r N1 h => ?_)) | (refine g_236 h (fun r N1 h => ?_)) | (refine ⟨(fun h => ?_) h.1, (fun h => ?_) h.2⟩) | (refine fun c => (fun h => ?_) (h c))) | (simp (disch := omega) only [mxb_n, mxb_66, sv_mxb]))
theorem gl_238_21 {kc : it_Kc} {S : it_Me} {Φ Ψ : Int32 → it_Me → Prop} {K74 K74p : Int32 → it_Me → Prop} (hΨ : ∀ r N, Φ r N → Ψ r (mxb N S)) (hK74 : ∀ b0 N, K74 b0 N → K74p b0 (mxb N S)) : ∀ (n : Nat) (a0 : Int32) (a1 : Int32) (a2 : Int32) (a3 : Int32) (a4 : Int32) (a5 : Int32) (N : it_Me), w_238_21 kc Φ K74 n a0 a1 a2 a3 a4 a5 N → w_238_21 kc Ψ K74p n a0 a1 a2 a3 a4 a5 (mxb N S) := by
  intro n
  induction n with
  | zero => intro a0 a1 a2 a3 a4 a5 N h; exact h.elim
  | succ n ih =>
    intro a0 a1 a2 a3 a4 a5 N h
    unfold w_238_21 at h ⊢
    
    try simp (disch := omega) only [mxb_n, mxb_66, sv_mxb, w_238_56, w_238_54, w_238_74] at h ⊢
    repeat' (first | (with_reducible first | exact h | exact ih _ _ _ _ _ _ _ h | exact hΨ _ _ h | exact hK74 _ _ h | (refine g_220 h (fun r N1 h => ?_)) | (refine g_233 h (fun r N1 h => ?_)) | (refine g_235 h (fun r N1 h => ?_)) | (refine ⟨(fun h => ?_) h.1, (fun h => ?_) h.2⟩) | (refine fun c => (fun h => ?_) (h c))) | (simp (disch := omega) only [mxb_n, mxb_66, sv_mxb]))
theorem g_238 {kc : it_Kc} {S N : it_Me} {x0 : Int32} {x1 : Int32} {x2 : Int32} {Φ Ψ : Int32 → it_Me → Prop} (h : w_238 kc x0 x1 x2 N Φ) (hΨ : ∀ r N, Φ r N → Ψ r (mxb N S)) : w_238 kc x0 x1 x2 (mxb N S) Ψ := by
  unfold w_238 at h ⊢
  try simp (disch := omega) only [mxb_n, mxb_66, sv_mxb, w_238_56, w_238_54, w_238_74] at h ⊢
  repeat' (first | (with_reducible first | exact h | exact hΨ _ _ h | (obtain ⟨e, h⟩ := h; refine ⟨e, gl_238_21 hΨ (fun _ N1 h => ?_) e _ _ _ _ _ _ _ h⟩) | (refine g_220 h (fun r N1 h => ?_)) | (refine g_233 h (fun r N1 h => ?_)) | (refine g_235 h (fun r N1 h => ?_)) | (refine ⟨(fun h => ?_) h.1, (fun h => ?_) h.2⟩) | (refine fun c => (fun h => ?_) (h c))) | (simp (disch := omega) only [mxb_n, mxb_66, sv_mxb]))
theorem gl_240_120 {kc : it_Kc} {S : it_Me} {Φ Ψ : it_Me → Prop} {K153 K153p : Int32 → Int32 → Int32 → Int32 → Int32 → it_Me → Prop} (hΨ : ∀ N, Φ N → Ψ (mxb N S)) (hK153 : ∀ b0 b1 b2 b3 b4 N, K153 b0 b1 b2 b3 b4 N → K153p b0 b1 b2 b3 b4 (mxb N S)) : ∀ (n : Nat) (a0 : Int32) (a1 : Int32) (a2 : Int32) (a3 : Int32) (a4 : Int32) (a5 : Int32) (a6 : Int32) (N : it_Me), w_240_120 kc Φ K153 n a0 a1 a2 a3 a4 a5 a6 N → w_240_120 kc Ψ K153p n a0 a1 a2 a3 a4 a5 a6 (mxb N S) := by
  intro n
  induction n with
  | zero => intro a0 a1 a2 a3 a4 a5 a6 N h; exact h.elim
  | succ n ih =>
    intro a0 a1 a2 a3 a4 a5 a6 N h
    unfold w_240_120 at h ⊢
    
    try simp (disch := omega) only [mxb_n, mxb_66, sv_mxb, w_240_153, w_240_114, w_240_113, w_240_203, w_240_169] at h ⊢
    repeat' (first | (with_reducible first | exact h | exact ih _ _ _ _ _ _ _ _ h | exact hΨ _ h | exact hK153 _ _ _ _ _ _ h | (refine g_220 h (fun r N1 h => ?_)) | (refine g_231 h (fun N1 h => ?_)) | (refine g_232 h (fun N1 h => ?_)) | (refine g_233 h (fun r N1 h => ?_)) | (refine g_235 h (fun r N1 h => ?_)) | (refine g_238 h (fun r N1 h => ?_)) | (refine ⟨(fun h => ?_) h.1, (fun h => ?_) h.2⟩) | (refine fun c => (fun h => ?_) (h c))) | (simp (disch := omega) only [mxb_n, mxb_66, sv_mxb]))
theorem gl_240_57 {kc : it_Kc} {S : it_Me} {Φ Ψ : it_Me → Prop} {K169 K169p : Int32 → Int32 → it_Me → Prop} (hΨ : ∀ N, Φ N → Ψ (mxb N S)) (hK169 : ∀ b0 b1 N, K169 b0 b1 N → K169p b0 b1 (mxb N S)) : ∀ (n : Nat) (a0 : Int32) (a1 : Int32) (a2 : Int32) (a3 : Int32) (a4 : Int32) (a5 : Int32) (N : it_Me), w_240_57 kc Φ K169 n a0 a1 a2 a3 a4 a5 N → w_240_57 kc Ψ K169p n a0 a1 a2 a3 a4 a5 (mxb N S) := by
  intro n
  induction n with
  | zero => intro a0 a1 a2 a3 a4 a5 N h; exact h.elim
  | succ n ih =>
    intro a0 a1 a2 a3 a4 a5 N h
    unfold w_240_57 at h ⊢
    
    try simp (disch := omega) only [mxb_n, mxb_66, sv_mxb, w_240_153, w_240_114, w_240_113, w_240_203, w_240_169] at h ⊢
    repeat' (first | (with_reducible first | exact h | exact ih _ _ _ _ _ _ _ h | exact hΨ _ h | (obtain ⟨e, h⟩ := h; refine ⟨e, gl_240_120 hΨ (fun _ _ _ _ _ N1 h => ?_) e _ _ _ _ _ _ _ _ h⟩) | exact hK169 _ _ _ h | (refine g_220 h (fun r N1 h => ?_)) | (refine g_231 h (fun N1 h => ?_)) | (refine g_232 h (fun N1 h => ?_)) | (refine g_233 h (fun r N1 h => ?_)) | (refine g_235 h (fun r N1 h => ?_)) | (refine g_238 h (fun r N1 h => ?_)) | (refine ⟨(fun h => ?_) h.1, (fun h => ?_) h.2⟩) | (refine fun c => (fun h => ?_) (h c))) | (simp (disch := omega) only [mxb_n, mxb_66, sv_mxb]))
theorem g_240 {kc : it_Kc} {S N : it_Me}  {Φ Ψ : it_Me → Prop} (h : w_240 kc  N Φ) (hΨ : ∀ N, Φ N → Ψ (mxb N S)) : w_240 kc  (mxb N S) Ψ := by
  unfold w_240 at h ⊢
  try simp (disch := omega) only [mxb_n, mxb_66, sv_mxb, w_240_153, w_240_114, w_240_113, w_240_203, w_240_169] at h ⊢
  repeat' (first | (with_reducible first | exact h | exact hΨ _ h | (obtain ⟨e, h⟩ := h; refine ⟨e, gl_240_120 hΨ (fun _ _ _ _ _ N1 h => ?_) e _ _ _ _ _ _ _ _ h⟩) | (obtain ⟨e, h⟩ := h; refine ⟨e, gl_240_57 hΨ (fun _ _ N1 h => ?_) e _ _ _ _ _ _ _ h⟩) | (refine g_220 h (fun r N1 h => ?_)) | (refine g_231 h (fun N1 h => ?_)) | (refine g_232 h (fun N1 h => ?_)) | (refine g_233 h (fun r N1 h => ?_)) | (refine g_235 h (fun r N1 h => ?_)) | (refine g_238 h (fun r N1 h => ?_)) | (refine ⟨(fun h => ?_) h.1, (fun h => ?_) h.2⟩) | (refine fun c => (fun h => ?_) (h c))) | (simp (disch := omega) only [mxb_n, mxb_66, sv_mxb]))
theorem g_241 {kc : it_Kc} {S N : it_Me}  {Φ Ψ : it_Me → Prop} (h : w_241 kc  N Φ) (hΨ : ∀ N, Φ N → Ψ (mxb N S)) : w_241 kc  (mxb N S) Ψ := by
  unfold w_241 at h ⊢
  try simp (disch := omega) only [mxb_n, mxb_66, sv_mxb, w_241_121, w_241_103, w_241_90, w_241_94, w_241_42] at h ⊢
  repeat' (first | (with_reducible first | exact h | exact hΨ _ h | (refine g_220 h (fun r N1 h => ?_)) | (refine g_231 h (fun N1 h => ?_)) | (refine g_232 h (fun N1 h => ?_)) | (refine g_233 h (fun r N1 h => ?_)) | (refine g_234 h (fun r N1 h => ?_)) | (refine g_237 h (fun r N1 h => ?_)) | (refine g_240 h (fun N1 h => ?_)) | (refine ⟨(fun h => ?_) h.1, (fun h => ?_) h.2⟩) | (refine fun c => (fun h => ?_) (h c))) | (simp (disch := omega) only [mxb_n, mxb_66, sv_mxb]))
