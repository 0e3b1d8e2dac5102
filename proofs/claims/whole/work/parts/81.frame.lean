/-! The ticks of the reference leave the scheduler alone. Written by wip/whole/gen_fr.py -/
/-- the scheduler's cells from S, the others from N -/
def mix (N S : it_Me) : it_Me := fun k j => if k = 106 ∨ k = 107 ∨ k = 108 ∨ (k = 66 ∧ j = 70) then S k j else N k j
theorem mix_n (N S : it_Me) {k : Nat} (j : Nat) (h : k ≠ 106 ∧ k ≠ 107 ∧ k ≠ 108 ∧ k ≠ 66) : mix N S k j = N k j := by unfold mix; rw [if_neg (by omega)]
theorem mix_66 (N S : it_Me) {j : Nat} (h : j ≠ 70) : mix N S 66 j = N 66 j := by unfold mix; rw [if_neg (by omega)]
theorem sv_mix (N S : it_Me) {k : Nat} (j : Nat) (v : Int32) (h : k ≠ 106 ∧ k ≠ 107 ∧ k ≠ 108 ∧ k ≠ 66) : it_sv (mix N S) k j v = mix (it_sv N k j v) S := by
  funext a b
  rw [sv_rd]
  unfold mix
  by_cases e : a = k ∧ b = j
  · rw [if_pos e, if_neg (by omega), sv_rd, if_pos e]
  · rw [if_neg e, sv_rd, if_neg e]
theorem f_218 {kc : it_Kc} {S N : it_Me} {x0 : Int32} {Φ Ψ : Int32 → it_Me → Prop} (h : w_218 kc x0 N Φ) (hΨ : ∀ r N, Φ r N → Ψ r (mix N S)) : w_218 kc x0 (mix N S) Ψ := by
  unfold w_218 at h ⊢
  try simp (disch := omega) only [mix_n, mix_66, sv_mix] at h ⊢
  repeat' (first | (with_reducible first | exact h | exact hΨ _ _ h | (refine ⟨(fun h => ?_) h.1, (fun h => ?_) h.2⟩) | (refine fun c => (fun h => ?_) (h c))) | (simp (disch := omega) only [mix_n, mix_66, sv_mix]))
theorem f_219 {kc : it_Kc} {S N : it_Me} {x0 : Int32} {Φ Ψ : Int32 → it_Me → Prop} (h : w_219 kc x0 N Φ) (hΨ : ∀ r N, Φ r N → Ψ r (mix N S)) : w_219 kc x0 (mix N S) Ψ := by
  unfold w_219 at h ⊢
  try simp (disch := omega) only [mix_n, mix_66, sv_mix] at h ⊢
  repeat' (first | (with_reducible first | exact h | exact hΨ _ _ h | (refine f_218 h (fun r N1 h => ?_)) | (refine ⟨(fun h => ?_) h.1, (fun h => ?_) h.2⟩) | (refine fun c => (fun h => ?_) (h c))) | (simp (disch := omega) only [mix_n, mix_66, sv_mix]))
theorem f_220 {kc : it_Kc} {S N : it_Me} {x0 : Int32} {Φ Ψ : Int32 → it_Me → Prop} (h : w_220 kc x0 N Φ) (hΨ : ∀ r N, Φ r N → Ψ r (mix N S)) : w_220 kc x0 (mix N S) Ψ := by
  unfold w_220 at h ⊢
  try simp (disch := omega) only [mix_n, mix_66, sv_mix] at h ⊢
  repeat' (first | (with_reducible first | exact h | exact hΨ _ _ h | (refine f_219 h (fun r N1 h => ?_)) | (refine ⟨(fun h => ?_) h.1, (fun h => ?_) h.2⟩) | (refine fun c => (fun h => ?_) (h c))) | (simp (disch := omega) only [mix_n, mix_66, sv_mix]))
theorem fl_221_2 {kc : it_Kc} {S : it_Me} {Φ Ψ : it_Me → Prop} {K28 K28p : it_Me → Prop} (hΨ : ∀ N, Φ N → Ψ (mix N S)) (hK28 : ∀  N, K28  N → K28p  (mix N S)) : ∀ (n : Nat) (a0 : Int32) (a1 : Int32) (a2 : Int32) (N : it_Me), w_221_2 kc Φ K28 n a0 a1 a2 N → w_221_2 kc Ψ K28p n a0 a1 a2 (mix N S) := by
  intro n
  induction n with
  | zero => intro a0 a1 a2 N h; exact h.elim
  | succ n ih =>
    intro a0 a1 a2 N h
    unfold w_221_2 at h ⊢
    
    try simp (disch := omega) only [mix_n, mix_66, sv_mix, w_221_28] at h ⊢
    repeat' (first | (with_reducible first | exact h | exact ih _ _ _ _ h | exact hΨ _ h | exact hK28 _ h | (refine ⟨(fun h => ?_) h.1, (fun h => ?_) h.2⟩) | (refine fun c => (fun h => ?_) (h c))) | (simp (disch := omega) only [mix_n, mix_66, sv_mix]))
theorem f_221 {kc : it_Kc} {S N : it_Me} {x0 : Int32} {x1 : Int32} {Φ Ψ : it_Me → Prop} (h : w_221 kc x0 x1 N Φ) (hΨ : ∀ N, Φ N → Ψ (mix N S)) : w_221 kc x0 x1 (mix N S) Ψ := by
  unfold w_221 at h ⊢
  try simp (disch := omega) only [mix_n, mix_66, sv_mix, w_221_28] at h ⊢
  repeat' (first | (with_reducible first | exact h | exact hΨ _ h | (obtain ⟨e, h⟩ := h; refine ⟨e, fl_221_2 hΨ (fun N1 h => ?_) e _ _ _ _ h⟩) | (refine ⟨(fun h => ?_) h.1, (fun h => ?_) h.2⟩) | (refine fun c => (fun h => ?_) (h c))) | (simp (disch := omega) only [mix_n, mix_66, sv_mix]))
theorem f_247 {kc : it_Kc} {S N : it_Me} {x0 : Int32} {x1 : Int32} {Φ Ψ : Int32 → it_Me → Prop} (h : w_247 kc x0 x1 N Φ) (hΨ : ∀ r N, Φ r N → Ψ r (mix N S)) : w_247 kc x0 x1 (mix N S) Ψ := by
  unfold w_247 at h ⊢
  try simp (disch := omega) only [mix_n, mix_66, sv_mix, w_247_21] at h ⊢
  repeat' (first | (with_reducible first | exact h | exact hΨ _ _ h | (refine ⟨(fun h => ?_) h.1, (fun h => ?_) h.2⟩) | (refine fun c => (fun h => ?_) (h c))) | (simp (disch := omega) only [mix_n, mix_66, sv_mix]))
theorem f_252 {kc : it_Kc} {S N : it_Me} {x0 : Int32} {Φ Ψ : Int32 → it_Me → Prop} (h : w_252 kc x0 N Φ) (hΨ : ∀ r N, Φ r N → Ψ r (mix N S)) : w_252 kc x0 (mix N S) Ψ := by
  unfold w_252 at h ⊢
  try simp (disch := omega) only [mix_n, mix_66, sv_mix] at h ⊢
  repeat' (first | (with_reducible first | exact h | exact hΨ _ _ h | (refine ⟨(fun h => ?_) h.1, (fun h => ?_) h.2⟩) | (refine fun c => (fun h => ?_) (h c))) | (simp (disch := omega) only [mix_n, mix_66, sv_mix]))
theorem f_257 {kc : it_Kc} {S N : it_Me} {x0 : Int32} {x1 : Int32} {x2 : Int32} {Φ Ψ : it_Me → Prop} (h : w_257 kc x0 x1 x2 N Φ) (hΨ : ∀ N, Φ N → Ψ (mix N S)) : w_257 kc x0 x1 x2 (mix N S) Ψ := by
  unfold w_257 at h ⊢
  try simp (disch := omega) only [mix_n, mix_66, sv_mix] at h ⊢
  repeat' (first | (with_reducible first | exact h | exact hΨ _ h | (refine ⟨(fun h => ?_) h.1, (fun h => ?_) h.2⟩) | (refine fun c => (fun h => ?_) (h c))) | (simp (disch := omega) only [mix_n, mix_66, sv_mix]))
theorem f_264 {kc : it_Kc} {S N : it_Me} {x0 : Int32} {Φ Ψ : Int32 → it_Me → Prop} (h : w_264 kc x0 N Φ) (hΨ : ∀ r N, Φ r N → Ψ r (mix N S)) : w_264 kc x0 (mix N S) Ψ := by
  unfold w_264 at h ⊢
  try simp (disch := omega) only [mix_n, mix_66, sv_mix, w_264_25, w_264_20] at h ⊢
  repeat' (first | (with_reducible first | exact h | exact hΨ _ _ h | (refine ⟨(fun h => ?_) h.1, (fun h => ?_) h.2⟩) | (refine fun c => (fun h => ?_) (h c))) | (simp (disch := omega) only [mix_n, mix_66, sv_mix]))
theorem f_265 {kc : it_Kc} {S N : it_Me} {x0 : Int32} {Φ Ψ : Int32 → it_Me → Prop} (h : w_265 kc x0 N Φ) (hΨ : ∀ r N, Φ r N → Ψ r (mix N S)) : w_265 kc x0 (mix N S) Ψ := by
  unfold w_265 at h ⊢
  try simp (disch := omega) only [mix_n, mix_66, sv_mix, w_265_31, w_265_26] at h ⊢
  repeat' (first | (with_reducible first | exact h | exact hΨ _ _ h | (refine ⟨(fun h => ?_) h.1, (fun h => ?_) h.2⟩) | (refine fun c => (fun h => ?_) (h c))) | (simp (disch := omega) only [mix_n, mix_66, sv_mix]))
theorem f_266 {kc : it_Kc} {S N : it_Me} {x0 : Int32} {Φ Ψ : Int32 → it_Me → Prop} (h : w_266 kc x0 N Φ) (hΨ : ∀ r N, Φ r N → Ψ r (mix N S)) : w_266 kc x0 (mix N S) Ψ := by
  unfold w_266 at h ⊢
  try simp (disch := omega) only [mix_n, mix_66, sv_mix, w_266_30, w_266_25] at h ⊢
  repeat' (first | (with_reducible first | exact h | exact hΨ _ _ h | (refine ⟨(fun h => ?_) h.1, (fun h => ?_) h.2⟩) | (refine fun c => (fun h => ?_) (h c))) | (simp (disch := omega) only [mix_n, mix_66, sv_mix]))
theorem f_267 {kc : it_Kc} {S N : it_Me} {x0 : Int32} {Φ Ψ : Int32 → it_Me → Prop} (h : w_267 kc x0 N Φ) (hΨ : ∀ r N, Φ r N → Ψ r (mix N S)) : w_267 kc x0 (mix N S) Ψ := by
  unfold w_267 at h ⊢
  try simp (disch := omega) only [mix_n, mix_66, sv_mix, w_267_39, w_267_10, w_267_34] at h ⊢
  repeat' (first | (with_reducible first | exact h | exact hΨ _ _ h | (refine ⟨(fun h => ?_) h.1, (fun h => ?_) h.2⟩) | (refine fun c => (fun h => ?_) (h c))) | (simp (disch := omega) only [mix_n, mix_66, sv_mix]))
theorem f_268 {kc : it_Kc} {S N : it_Me} {x0 : Int32} {Φ Ψ : Int32 → it_Me → Prop} (h : w_268 kc x0 N Φ) (hΨ : ∀ r N, Φ r N → Ψ r (mix N S)) : w_268 kc x0 (mix N S) Ψ := by
  unfold w_268 at h ⊢
  try simp (disch := omega) only [mix_n, mix_66, sv_mix] at h ⊢
  repeat' (first | (with_reducible first | exact h | exact hΨ _ _ h | (refine f_264 h (fun r N1 h => ?_)) | (refine f_265 h (fun r N1 h => ?_)) | (refine f_266 h (fun r N1 h => ?_)) | (refine f_267 h (fun r N1 h => ?_)) | (refine ⟨(fun h => ?_) h.1, (fun h => ?_) h.2⟩) | (refine fun c => (fun h => ?_) (h c))) | (simp (disch := omega) only [mix_n, mix_66, sv_mix]))
theorem f_269 {kc : it_Kc} {S N : it_Me} {x0 : Int32} {x1 : Int32} {Φ Ψ : Int32 → it_Me → Prop} (h : w_269 kc x0 x1 N Φ) (hΨ : ∀ r N, Φ r N → Ψ r (mix N S)) : w_269 kc x0 x1 (mix N S) Ψ := by
  unfold w_269 at h ⊢
  try simp (disch := omega) only [mix_n, mix_66, sv_mix] at h ⊢
  repeat' (first | (with_reducible first | exact h | exact hΨ _ _ h | (refine f_264 h (fun r N1 h => ?_)) | (refine f_265 h (fun r N1 h => ?_)) | (refine f_266 h (fun r N1 h => ?_)) | (refine ⟨(fun h => ?_) h.1, (fun h => ?_) h.2⟩) | (refine fun c => (fun h => ?_) (h c))) | (simp (disch := omega) only [mix_n, mix_66, sv_mix]))
theorem f_270 {kc : it_Kc} {S N : it_Me} {x0 : Int32} {x1 : Int32} {x2 : Int32} {Φ Ψ : Int32 → it_Me → Prop} (h : w_270 kc x0 x1 x2 N Φ) (hΨ : ∀ r N, Φ r N → Ψ r (mix N S)) : w_270 kc x0 x1 x2 (mix N S) Ψ := by
  unfold w_270 at h ⊢
  try simp (disch := omega) only [mix_n, mix_66, sv_mix] at h ⊢
  repeat' (first | (with_reducible first | exact h | exact hΨ _ _ h | (refine f_264 h (fun r N1 h => ?_)) | (refine ⟨(fun h => ?_) h.1, (fun h => ?_) h.2⟩) | (refine fun c => (fun h => ?_) (h c))) | (simp (disch := omega) only [mix_n, mix_66, sv_mix]))
theorem fl_272_7 {kc : it_Kc} {S : it_Me} {Φ Ψ : Int32 → it_Me → Prop} {K25 K25p : Int32 → it_Me → Prop} {K41 K41p : it_Me → Prop} (hΨ : ∀ r N, Φ r N → Ψ r (mix N S)) (hK25 : ∀ b0 N, K25 b0 N → K25p b0 (mix N S)) (hK41 : ∀  N, K41  N → K41p  (mix N S)) : ∀ (n : Nat) (a0 : Int32) (a1 : Int32) (a2 : Int32) (N : it_Me), w_272_7 kc Φ K25 K41 n a0 a1 a2 N → w_272_7 kc Ψ K25p K41p n a0 a1 a2 (mix N S) := by
  intro n
  induction n with
  | zero => intro a0 a1 a2 N h; exact h.elim
  | succ n ih =>
    intro a0 a1 a2 N h
    unfold w_272_7 at h ⊢
    
    try simp (disch := omega) only [mix_n, mix_66, sv_mix, w_272_25, w_272_41] at h ⊢
    repeat' (first | (with_reducible first | exact h | exact ih _ _ _ _ h | exact hΨ _ _ h | exact hK25 _ _ h | exact hK41 _ h | (refine f_220 h (fun r N1 h => ?_)) | (refine f_252 h (fun r N1 h => ?_)) | (refine f_268 h (fun r N1 h => ?_)) | (refine ⟨(fun h => ?_) h.1, (fun h => ?_) h.2⟩) | (refine fun c => (fun h => ?_) (h c))) | (simp (disch := omega) only [mix_n, mix_66, sv_mix]))
theorem f_272 {kc : it_Kc} {S N : it_Me} {x0 : Int32} {x1 : Int32} {Φ Ψ : Int32 → it_Me → Prop} (h : w_272 kc x0 x1 N Φ) (hΨ : ∀ r N, Φ r N → Ψ r (mix N S)) : w_272 kc x0 x1 (mix N S) Ψ := by
  unfold w_272 at h ⊢
  try simp (disch := omega) only [mix_n, mix_66, sv_mix, w_272_25, w_272_41] at h ⊢
  repeat' (first | (with_reducible first | exact h | exact hΨ _ _ h | (obtain ⟨e, h⟩ := h; refine ⟨e, fl_272_7 hΨ (fun _ N1 h => ?_) (fun N1 h => ?_) e _ _ _ _ h⟩) | (refine f_220 h (fun r N1 h => ?_)) | (refine f_252 h (fun r N1 h => ?_)) | (refine f_268 h (fun r N1 h => ?_)) | (refine ⟨(fun h => ?_) h.1, (fun h => ?_) h.2⟩) | (refine fun c => (fun h => ?_) (h c))) | (simp (disch := omega) only [mix_n, mix_66, sv_mix]))
theorem f_275 {kc : it_Kc} {S N : it_Me} {x0 : Int32} {x1 : Int32} {x2 : Int32} {x3 : Int32} {x4 : Int32} {x5 : Int32} {Φ Ψ : it_Me → Prop} (h : w_275 kc x0 x1 x2 x3 x4 x5 N Φ) (hΨ : ∀ N, Φ N → Ψ (mix N S)) : w_275 kc x0 x1 x2 x3 x4 x5 (mix N S) Ψ := by
  unfold w_275 at h ⊢
  try simp (disch := omega) only [mix_n, mix_66, sv_mix] at h ⊢
  repeat' (first | (with_reducible first | exact h | exact hΨ _ h | (refine f_257 h (fun N1 h => ?_)) | (refine ⟨(fun h => ?_) h.1, (fun h => ?_) h.2⟩) | (refine fun c => (fun h => ?_) (h c))) | (simp (disch := omega) only [mix_n, mix_66, sv_mix]))
theorem f_276 {kc : it_Kc} {S N : it_Me} {x0 : Int32} {x1 : Int32} {x2 : Int32} {x3 : Int32} {x4 : Int32} {x5 : Int32} {Φ Ψ : it_Me → Prop} (h : w_276 kc x0 x1 x2 x3 x4 x5 N Φ) (hΨ : ∀ N, Φ N → Ψ (mix N S)) : w_276 kc x0 x1 x2 x3 x4 x5 (mix N S) Ψ := by
  unfold w_276 at h ⊢
  try simp (disch := omega) only [mix_n, mix_66, sv_mix] at h ⊢
  repeat' (first | (with_reducible first | exact h | exact hΨ _ h | (refine f_220 h (fun r N1 h => ?_)) | (refine f_272 h (fun r N1 h => ?_)) | (refine f_275 h (fun N1 h => ?_)) | (refine ⟨(fun h => ?_) h.1, (fun h => ?_) h.2⟩) | (refine fun c => (fun h => ?_) (h c))) | (simp (disch := omega) only [mix_n, mix_66, sv_mix]))
theorem f_274 {kc : it_Kc} {S N : it_Me} {x0 : Int32} {x1 : Int32} {x2 : Int32} {x3 : Int32} {x4 : Int32} {x5 : Int32} {Φ Ψ : it_Me → Prop} (h : w_274 kc x0 x1 x2 x3 x4 x5 N Φ) (hΨ : ∀ N, Φ N → Ψ (mix N S)) : w_274 kc x0 x1 x2 x3 x4 x5 (mix N S) Ψ := by
  unfold w_274 at h ⊢
  try simp (disch := omega) only [mix_n, mix_66, sv_mix, w_274_20, w_274_103, w_274_72] at h ⊢
  repeat' (first | (with_reducible first | exact h | exact hΨ _ h | (refine f_220 h (fun r N1 h => ?_)) | (refine f_257 h (fun N1 h => ?_)) | (refine f_272 h (fun r N1 h => ?_)) | (refine f_275 h (fun N1 h => ?_)) | (refine f_276 h (fun N1 h => ?_)) | (refine ⟨(fun h => ?_) h.1, (fun h => ?_) h.2⟩) | (refine fun c => (fun h => ?_) (h c))) | (simp (disch := omega) only [mix_n, mix_66, sv_mix]))
theorem fl_308_2 {kc : it_Kc} {S : it_Me} {Φ Ψ : it_Me → Prop} {K113 K113p : it_Me → Prop} (hΨ : ∀ N, Φ N → Ψ (mix N S)) (hK113 : ∀  N, K113  N → K113p  (mix N S)) : ∀ (n : Nat) (a0 : Int32) (N : it_Me), w_308_2 kc Φ K113 n a0 N → w_308_2 kc Ψ K113p n a0 (mix N S) := by
  intro n
  induction n with
  | zero => intro a0 N h; exact h.elim
  | succ n ih =>
    intro a0 N h
    unfold w_308_2 at h ⊢
    
    try simp (disch := omega) only [mix_n, mix_66, sv_mix, w_308_107, w_308_31, w_308_113] at h ⊢
    repeat' (first | (with_reducible first | exact h | exact ih _ _ h | exact hΨ _ h | exact hK113 _ h | (refine f_220 h (fun r N1 h => ?_)) | (refine f_221 h (fun N1 h => ?_)) | (refine f_247 h (fun r N1 h => ?_)) | (refine f_269 h (fun r N1 h => ?_)) | (refine f_272 h (fun r N1 h => ?_)) | (refine f_274 h (fun N1 h => ?_)) | (refine ⟨(fun h => ?_) h.1, (fun h => ?_) h.2⟩) | (refine fun c => (fun h => ?_) (h c))) | (simp (disch := omega) only [mix_n, mix_66, sv_mix]))
theorem f_308 {kc : it_Kc} {S N : it_Me}  {Φ Ψ : it_Me → Prop} (h : w_308 kc  N Φ) (hΨ : ∀ N, Φ N → Ψ (mix N S)) : w_308 kc  (mix N S) Ψ := by
  unfold w_308 at h ⊢
  try simp (disch := omega) only [mix_n, mix_66, sv_mix, w_308_107, w_308_31, w_308_113] at h ⊢
  repeat' (first | (with_reducible first | exact h | exact hΨ _ h | (obtain ⟨e, h⟩ := h; refine ⟨e, fl_308_2 hΨ (fun N1 h => ?_) e _ _ h⟩) | (refine f_220 h (fun r N1 h => ?_)) | (refine f_221 h (fun N1 h => ?_)) | (refine f_247 h (fun r N1 h => ?_)) | (refine f_269 h (fun r N1 h => ?_)) | (refine f_272 h (fun r N1 h => ?_)) | (refine f_274 h (fun N1 h => ?_)) | (refine ⟨(fun h => ?_) h.1, (fun h => ?_) h.2⟩) | (refine fun c => (fun h => ?_) (h c))) | (simp (disch := omega) only [mix_n, mix_66, sv_mix]))
theorem fl_309_4 {kc : it_Kc} {S : it_Me} {Φ Ψ : Int32 → it_Me → Prop} {K112 K112p : Int32 → it_Me → Prop} (hΨ : ∀ r N, Φ r N → Ψ r (mix N S)) (hK112 : ∀ b0 N, K112 b0 N → K112p b0 (mix N S)) : ∀ (n : Nat) (a0 : Int32) (a1 : Int32) (a2 : Int32) (N : it_Me), w_309_4 kc Φ K112 n a0 a1 a2 N → w_309_4 kc Ψ K112p n a0 a1 a2 (mix N S) := by
  intro n
  induction n with
  | zero => intro a0 a1 a2 N h; exact h.elim
  | succ n ih =>
    intro a0 a1 a2 N h
    unfold w_309_4 at h ⊢
    
    try simp (disch := omega) only [mix_n, mix_66, sv_mix, w_309_106, w_309_105, w_309_100, w_309_97, w_309_69, w_309_43, w_309_112] at h ⊢
    repeat' (first | (with_reducible first | exact h | exact ih _ _ _ _ h | exact hΨ _ _ h | exact hK112 _ _ h | (refine f_220 h (fun r N1 h => ?_)) | (refine f_269 h (fun r N1 h => ?_)) | (refine f_272 h (fun r N1 h => ?_)) | (refine ⟨(fun h => ?_) h.1, (fun h => ?_) h.2⟩) | (refine fun c => (fun h => ?_) (h c))) | (simp (disch := omega) only [mix_n, mix_66, sv_mix]))
theorem f_309 {kc : it_Kc} {S N : it_Me} {x0 : Int32} {Φ Ψ : Int32 → it_Me → Prop} (h : w_309 kc x0 N Φ) (hΨ : ∀ r N, Φ r N → Ψ r (mix N S)) : w_309 kc x0 (mix N S) Ψ := by
  unfold w_309 at h ⊢
  try simp (disch := omega) only [mix_n, mix_66, sv_mix, w_309_106, w_309_105, w_309_100, w_309_97, w_309_69, w_309_43, w_309_112] at h ⊢
  repeat' (first | (with_reducible first | exact h | exact hΨ _ _ h | (obtain ⟨e, h⟩ := h; refine ⟨e, fl_309_4 hΨ (fun _ N1 h => ?_) e _ _ _ _ h⟩) | (refine f_220 h (fun r N1 h => ?_)) | (refine f_269 h (fun r N1 h => ?_)) | (refine f_272 h (fun r N1 h => ?_)) | (refine ⟨(fun h => ?_) h.1, (fun h => ?_) h.2⟩) | (refine fun c => (fun h => ?_) (h c))) | (simp (disch := omega) only [mix_n, mix_66, sv_mix]))
theorem f_310 {kc : it_Kc} {S N : it_Me}  {Φ Ψ : it_Me → Prop} (h : w_310 kc  N Φ) (hΨ : ∀ N, Φ N → Ψ (mix N S)) : w_310 kc  (mix N S) Ψ := by
  unfold w_310 at h ⊢
  try simp (disch := omega) only [mix_n, mix_66, sv_mix, w_310_190, w_310_165, w_310_150, w_310_128, w_310_70, w_310_19] at h ⊢
  repeat' (first | (with_reducible first | exact h | exact hΨ _ h | (refine f_218 h (fun r N1 h => ?_)) | (refine f_220 h (fun r N1 h => ?_)) | (refine f_221 h (fun N1 h => ?_)) | (refine f_269 h (fun r N1 h => ?_)) | (refine f_270 h (fun r N1 h => ?_)) | (refine f_272 h (fun r N1 h => ?_)) | (refine f_274 h (fun N1 h => ?_)) | (refine f_309 h (fun r N1 h => ?_)) | (refine ⟨(fun h => ?_) h.1, (fun h => ?_) h.2⟩) | (refine fun c => (fun h => ?_) (h c))) | (simp (disch := omega) only [mix_n, mix_66, sv_mix]))
theorem fl_311_2 {kc : it_Kc} {S : it_Me} {Φ Ψ : it_Me → Prop} {K115 K115p : it_Me → Prop} (hΨ : ∀ N, Φ N → Ψ (mix N S)) (hK115 : ∀  N, K115  N → K115p  (mix N S)) : ∀ (n : Nat) (a0 : Int32) (N : it_Me), w_311_2 kc Φ K115 n a0 N → w_311_2 kc Ψ K115p n a0 (mix N S) := by
  intro n
  induction n with
  | zero => intro a0 N h; exact h.elim
  | succ n ih =>
    intro a0 N h
    unfold w_311_2 at h ⊢
    
    try simp (disch := omega) only [mix_n, mix_66, sv_mix, w_311_109, w_311_33, w_311_115] at h ⊢
    repeat' (first | (with_reducible first | exact h | exact ih _ _ h | exact hΨ _ h | exact hK115 _ h | (refine f_220 h (fun r N1 h => ?_)) | (refine f_221 h (fun N1 h => ?_)) | (refine f_269 h (fun r N1 h => ?_)) | (refine f_272 h (fun r N1 h => ?_)) | (refine f_274 h (fun N1 h => ?_)) | (refine ⟨(fun h => ?_) h.1, (fun h => ?_) h.2⟩) | (refine fun c => (fun h => ?_) (h c))) | (simp (disch := omega) only [mix_n, mix_66, sv_mix]))
theorem f_311 {kc : it_Kc} {S N : it_Me}  {Φ Ψ : it_Me → Prop} (h : w_311 kc  N Φ) (hΨ : ∀ N, Φ N → Ψ (mix N S)) : w_311 kc  (mix N S) Ψ := by
  unfold w_311 at h ⊢
  try simp (disch := omega) only [mix_n, mix_66, sv_mix, w_311_109, w_311_33, w_311_115] at h ⊢
  repeat' (first | (with_reducible first | exact h | exact hΨ _ h | (obtain ⟨e, h⟩ := h; refine ⟨e, fl_311_2 hΨ (fun N1 h => ?_) e _ _ h⟩) | (refine f_220 h (fun r N1 h => ?_)) | (refine f_221 h (fun N1 h => ?_)) | (refine f_269 h (fun r N1 h => ?_)) | (refine f_272 h (fun r N1 h => ?_)) | (refine f_274 h (fun N1 h => ?_)) | (refine ⟨(fun h => ?_) h.1, (fun h => ?_) h.2⟩) | (refine fun c => (fun h => ?_) (h c))) | (simp (disch := omega) only [mix_n, mix_66, sv_mix]))
