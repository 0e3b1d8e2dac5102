/-! The law from its loop on: formula and soundness. Written by wip/whole/gen_wp.py -/
/-- GrantBoardLaw.law([I)Z -/
def w_363_934 (kc : it_Kc) (Φ : Int32 → it_Me → Prop) (K18 : Int32 → it_Me → Prop) (K205 : it_Me → Prop) (K228 : it_Me → Prop) (K251 : it_Me → Prop) (K330 : it_Me → Prop) (K343 : it_Me → Prop) (K366 : it_Me → Prop) (K389 : it_Me → Prop) (K438 : it_Me → Prop) (K461 : it_Me → Prop) (K494 : it_Me → Prop) (K543 : it_Me → Prop) (K566 : it_Me → Prop) (K589 : it_Me → Prop) (K622 : it_Me → Prop) (K655 : it_Me → Prop) (K678 : it_Me → Prop) (K721 : it_Me → Prop) (K764 : it_Me → Prop) (K797 : it_Me → Prop) (K820 : it_Me → Prop) (K843 : it_Me → Prop) (K876 : it_Me → Prop) (K919 : it_Me → Prop) (K932 : it_Me → Prop) (K940 : it_Me → Prop) (v3 : Int32) (m : it_Me) : Prop :=
  K18 (v3 + (6 : Int32)) m
def w_363_319 (kc : it_Kc) (Φ : Int32 → it_Me → Prop) (K18 : Int32 → it_Me → Prop) (K205 : it_Me → Prop) (K228 : it_Me → Prop) (K251 : it_Me → Prop) (K330 : it_Me → Prop) (K343 : it_Me → Prop) (K366 : it_Me → Prop) (K389 : it_Me → Prop) (K438 : it_Me → Prop) (K461 : it_Me → Prop) (K494 : it_Me → Prop) (K543 : it_Me → Prop) (K566 : it_Me → Prop) (K589 : it_Me → Prop) (K622 : it_Me → Prop) (K655 : it_Me → Prop) (K678 : it_Me → Prop) (K721 : it_Me → Prop) (K764 : it_Me → Prop) (K797 : it_Me → Prop) (K820 : it_Me → Prop) (K843 : it_Me → Prop) (K876 : it_Me → Prop) (K919 : it_Me → Prop) (K932 : it_Me → Prop) (K940 : it_Me → Prop) (v3 : Int32) (u0 : Int32) (u2 : Int32) (u3 : Int32) (u4 : Int32) (u5 : Int32) (m : it_Me) : Prop :=
  vp_in (v3 + (5 : Int32)) (kc 7).1 ∧ (w_251 kc u2 u3 u4 u5 ((kc 7).2 (Int32.toNatClampNeg (v3 + (5 : Int32)))) m (fun r1 m2 => (u0 = r1 → w_363_934 kc Φ K18 K205 K228 K251 K330 K343 K366 K389 K438 K461 K494 K543 K566 K589 K622 K655 K678 K721 K764 K797 K820 K843 K876 K919 K932 K940 v3 m2) ∧ (¬ u0 = r1 → K330 m2)))
def w_363_282 (kc : it_Kc) (Φ : Int32 → it_Me → Prop) (K18 : Int32 → it_Me → Prop) (K205 : it_Me → Prop) (K228 : it_Me → Prop) (K251 : it_Me → Prop) (K330 : it_Me → Prop) (K343 : it_Me → Prop) (K366 : it_Me → Prop) (K389 : it_Me → Prop) (K438 : it_Me → Prop) (K461 : it_Me → Prop) (K494 : it_Me → Prop) (K543 : it_Me → Prop) (K566 : it_Me → Prop) (K589 : it_Me → Prop) (K622 : it_Me → Prop) (K655 : it_Me → Prop) (K678 : it_Me → Prop) (K721 : it_Me → Prop) (K764 : it_Me → Prop) (K797 : it_Me → Prop) (K820 : it_Me → Prop) (K843 : it_Me → Prop) (K876 : it_Me → Prop) (K919 : it_Me → Prop) (K932 : it_Me → Prop) (K940 : it_Me → Prop) (v3 : Int32) (u1 : Int32) (u2 : Int32) (u3 : Int32) (u4 : Int32) (m : it_Me) : Prop :=
  vp_in (v3 + (5 : Int32)) (kc 7).1 ∧ (w_190 kc u1 u2 u3 u4 ((kc 7).2 (Int32.toNatClampNeg (v3 + (5 : Int32)))) m (fun r1 m2 => vp_in (v3 + (1 : Int32)) (kc 7).1 ∧ (vp_in (v3 + (2 : Int32)) (kc 7).1 ∧ (vp_in (v3 + (3 : Int32)) (kc 7).1 ∧ (vp_in (v3 + (4 : Int32)) (kc 7).1 ∧ ((((kc 7).2 (Int32.toNatClampNeg (v3 + (4 : Int32)))) = 0 → w_363_319 kc Φ K18 K205 K228 K251 K330 K343 K366 K389 K438 K461 K494 K543 K566 K589 K622 K655 K678 K721 K764 K797 K820 K843 K876 K919 K932 K940 v3 r1 ((kc 7).2 (Int32.toNatClampNeg (v3 + (1 : Int32)))) ((kc 7).2 (Int32.toNatClampNeg (v3 + (2 : Int32)))) ((kc 7).2 (Int32.toNatClampNeg (v3 + (3 : Int32)))) (0 : Int32) m2) ∧ (¬ ((kc 7).2 (Int32.toNatClampNeg (v3 + (4 : Int32)))) = 0 → w_363_319 kc Φ K18 K205 K228 K251 K330 K343 K366 K389 K438 K461 K494 K543 K566 K589 K622 K655 K678 K721 K764 K797 K820 K843 K876 K919 K932 K940 v3 r1 ((kc 7).2 (Int32.toNatClampNeg (v3 + (1 : Int32)))) ((kc 7).2 (Int32.toNatClampNeg (v3 + (2 : Int32)))) ((kc 7).2 (Int32.toNatClampNeg (v3 + (3 : Int32)))) (1 : Int32) m2)))))))
def w_363_432 (kc : it_Kc) (Φ : Int32 → it_Me → Prop) (K18 : Int32 → it_Me → Prop) (K205 : it_Me → Prop) (K228 : it_Me → Prop) (K251 : it_Me → Prop) (K330 : it_Me → Prop) (K343 : it_Me → Prop) (K366 : it_Me → Prop) (K389 : it_Me → Prop) (K438 : it_Me → Prop) (K461 : it_Me → Prop) (K494 : it_Me → Prop) (K543 : it_Me → Prop) (K566 : it_Me → Prop) (K589 : it_Me → Prop) (K622 : it_Me → Prop) (K655 : it_Me → Prop) (K678 : it_Me → Prop) (K721 : it_Me → Prop) (K764 : it_Me → Prop) (K797 : it_Me → Prop) (K820 : it_Me → Prop) (K843 : it_Me → Prop) (K876 : it_Me → Prop) (K919 : it_Me → Prop) (K932 : it_Me → Prop) (K940 : it_Me → Prop) (v3 : Int32) (u0 : Int32) (u2 : Int32) (u3 : Int32) (m : it_Me) : Prop :=
  w_342 kc u2 u3 m (fun r1 m2 => (u0 = r1 → w_363_934 kc Φ K18 K205 K228 K251 K330 K343 K366 K389 K438 K461 K494 K543 K566 K589 K622 K655 K678 K721 K764 K797 K820 K843 K876 K919 K932 K940 v3 m2) ∧ (¬ u0 = r1 → K438 m2))
def w_363_410 (kc : it_Kc) (Φ : Int32 → it_Me → Prop) (K18 : Int32 → it_Me → Prop) (K205 : it_Me → Prop) (K228 : it_Me → Prop) (K251 : it_Me → Prop) (K330 : it_Me → Prop) (K343 : it_Me → Prop) (K366 : it_Me → Prop) (K389 : it_Me → Prop) (K438 : it_Me → Prop) (K461 : it_Me → Prop) (K494 : it_Me → Prop) (K543 : it_Me → Prop) (K566 : it_Me → Prop) (K589 : it_Me → Prop) (K622 : it_Me → Prop) (K655 : it_Me → Prop) (K678 : it_Me → Prop) (K721 : it_Me → Prop) (K764 : it_Me → Prop) (K797 : it_Me → Prop) (K820 : it_Me → Prop) (K843 : it_Me → Prop) (K876 : it_Me → Prop) (K919 : it_Me → Prop) (K932 : it_Me → Prop) (K940 : it_Me → Prop) (v3 : Int32) (u1 : Int32) (u2 : Int32) (m : it_Me) : Prop :=
  w_194 kc u1 u2 m (fun r1 m2 => vp_in (v3 + (1 : Int32)) (kc 7).1 ∧ (vp_in (v3 + (2 : Int32)) (kc 7).1 ∧ ((((kc 7).2 (Int32.toNatClampNeg (v3 + (2 : Int32)))) = 0 → w_363_432 kc Φ K18 K205 K228 K251 K330 K343 K366 K389 K438 K461 K494 K543 K566 K589 K622 K655 K678 K721 K764 K797 K820 K843 K876 K919 K932 K940 v3 r1 ((kc 7).2 (Int32.toNatClampNeg (v3 + (1 : Int32)))) (0 : Int32) m2) ∧ (¬ ((kc 7).2 (Int32.toNatClampNeg (v3 + (2 : Int32)))) = 0 → w_363_432 kc Φ K18 K205 K228 K251 K330 K343 K366 K389 K438 K461 K494 K543 K566 K589 K622 K655 K678 K721 K764 K797 K820 K843 K876 K919 K932 K940 v3 r1 ((kc 7).2 (Int32.toNatClampNeg (v3 + (1 : Int32)))) (1 : Int32) m2))))
def w_363_537 (kc : it_Kc) (Φ : Int32 → it_Me → Prop) (K18 : Int32 → it_Me → Prop) (K205 : it_Me → Prop) (K228 : it_Me → Prop) (K251 : it_Me → Prop) (K330 : it_Me → Prop) (K343 : it_Me → Prop) (K366 : it_Me → Prop) (K389 : it_Me → Prop) (K438 : it_Me → Prop) (K461 : it_Me → Prop) (K494 : it_Me → Prop) (K543 : it_Me → Prop) (K566 : it_Me → Prop) (K589 : it_Me → Prop) (K622 : it_Me → Prop) (K655 : it_Me → Prop) (K678 : it_Me → Prop) (K721 : it_Me → Prop) (K764 : it_Me → Prop) (K797 : it_Me → Prop) (K820 : it_Me → Prop) (K843 : it_Me → Prop) (K876 : it_Me → Prop) (K919 : it_Me → Prop) (K932 : it_Me → Prop) (K940 : it_Me → Prop) (v3 : Int32) (u0 : Int32) (u2 : Int32) (u3 : Int32) (m : it_Me) : Prop :=
  w_345 kc u2 u3 m (fun r1 m2 => (u0 = r1 → w_363_934 kc Φ K18 K205 K228 K251 K330 K343 K366 K389 K438 K461 K494 K543 K566 K589 K622 K655 K678 K721 K764 K797 K820 K843 K876 K919 K932 K940 v3 m2) ∧ (¬ u0 = r1 → K543 m2))
def w_363_515 (kc : it_Kc) (Φ : Int32 → it_Me → Prop) (K18 : Int32 → it_Me → Prop) (K205 : it_Me → Prop) (K228 : it_Me → Prop) (K251 : it_Me → Prop) (K330 : it_Me → Prop) (K343 : it_Me → Prop) (K366 : it_Me → Prop) (K389 : it_Me → Prop) (K438 : it_Me → Prop) (K461 : it_Me → Prop) (K494 : it_Me → Prop) (K543 : it_Me → Prop) (K566 : it_Me → Prop) (K589 : it_Me → Prop) (K622 : it_Me → Prop) (K655 : it_Me → Prop) (K678 : it_Me → Prop) (K721 : it_Me → Prop) (K764 : it_Me → Prop) (K797 : it_Me → Prop) (K820 : it_Me → Prop) (K843 : it_Me → Prop) (K876 : it_Me → Prop) (K919 : it_Me → Prop) (K932 : it_Me → Prop) (K940 : it_Me → Prop) (v3 : Int32) (u1 : Int32) (u2 : Int32) (m : it_Me) : Prop :=
  w_197 kc u1 u2 m (fun r1 m2 => vp_in (v3 + (1 : Int32)) (kc 7).1 ∧ (vp_in (v3 + (2 : Int32)) (kc 7).1 ∧ ((((kc 7).2 (Int32.toNatClampNeg (v3 + (2 : Int32)))) = 0 → w_363_537 kc Φ K18 K205 K228 K251 K330 K343 K366 K389 K438 K461 K494 K543 K566 K589 K622 K655 K678 K721 K764 K797 K820 K843 K876 K919 K932 K940 v3 r1 ((kc 7).2 (Int32.toNatClampNeg (v3 + (1 : Int32)))) (0 : Int32) m2) ∧ (¬ ((kc 7).2 (Int32.toNatClampNeg (v3 + (2 : Int32)))) = 0 → w_363_537 kc Φ K18 K205 K228 K251 K330 K343 K366 K389 K438 K461 K494 K543 K566 K589 K622 K655 K678 K721 K764 K797 K820 K843 K876 K919 K932 K940 v3 r1 ((kc 7).2 (Int32.toNatClampNeg (v3 + (1 : Int32)))) (1 : Int32) m2))))
def w_363_18 (kc : it_Kc) (Φ : Int32 → it_Me → Prop) (K205 : it_Me → Prop) (K228 : it_Me → Prop) (K251 : it_Me → Prop) (K330 : it_Me → Prop) (K343 : it_Me → Prop) (K366 : it_Me → Prop) (K389 : it_Me → Prop) (K438 : it_Me → Prop) (K461 : it_Me → Prop) (K494 : it_Me → Prop) (K543 : it_Me → Prop) (K566 : it_Me → Prop) (K589 : it_Me → Prop) (K622 : it_Me → Prop) (K655 : it_Me → Prop) (K678 : it_Me → Prop) (K721 : it_Me → Prop) (K764 : it_Me → Prop) (K797 : it_Me → Prop) (K820 : it_Me → Prop) (K843 : it_Me → Prop) (K876 : it_Me → Prop) (K919 : it_Me → Prop) (K932 : it_Me → Prop) (K940 : it_Me → Prop) : Nat → Int32 → it_Me → Prop
  | 0, _, _ => False
  | n18 + 1, v3, m =>
  (((Int32.ofNat (kc 7).1) - (6 : Int32)) < v3 → K940 m) ∧ (¬ ((Int32.ofNat (kc 7).1) - (6 : Int32)) < v3 → vp_in v3 (kc 7).1 ∧ (((((kc 7).2 (Int32.toNatClampNeg v3)) &&& (31 : Int32)) = (0 : Int32) → vp_in (v3 + (1 : Int32)) (kc 7).1 ∧ (vp_in (v3 + (2 : Int32)) (kc 7).1 ∧ (vp_in (v3 + (3 : Int32)) (kc 7).1 ∧ (vp_in (v3 + (4 : Int32)) (kc 7).1 ∧ (vp_in (v3 + (5 : Int32)) (kc 7).1 ∧ (w_187 kc ((kc 7).2 (Int32.toNatClampNeg (v3 + (1 : Int32)))) ((kc 7).2 (Int32.toNatClampNeg (v3 + (2 : Int32)))) ((kc 7).2 (Int32.toNatClampNeg (v3 + (3 : Int32)))) ((kc 7).2 (Int32.toNatClampNeg (v3 + (4 : Int32)))) ((kc 7).2 (Int32.toNatClampNeg (v3 + (5 : Int32)))) m (fun r1 m2 => vp_in (v3 + (1 : Int32)) (kc 7).1 ∧ (vp_in (v3 + (2 : Int32)) (kc 7).1 ∧ (vp_in (v3 + (3 : Int32)) (kc 7).1 ∧ (vp_in (v3 + (4 : Int32)) (kc 7).1 ∧ (vp_in (v3 + (5 : Int32)) (kc 7).1 ∧ (w_223 kc ((kc 7).2 (Int32.toNatClampNeg (v3 + (1 : Int32)))) ((kc 7).2 (Int32.toNatClampNeg (v3 + (2 : Int32)))) ((kc 7).2 (Int32.toNatClampNeg (v3 + (3 : Int32)))) ((kc 7).2 (Int32.toNatClampNeg (v3 + (4 : Int32)))) ((kc 7).2 (Int32.toNatClampNeg (v3 + (5 : Int32)))) m2 (fun r3 m4 => (r1 = r3 → w_363_934 kc Φ (w_363_18 kc Φ K205 K228 K251 K330 K343 K366 K389 K438 K461 K494 K543 K566 K589 K622 K655 K678 K721 K764 K797 K820 K843 K876 K919 K932 K940 n18) K205 K228 K251 K330 K343 K366 K389 K438 K461 K494 K543 K566 K589 K622 K655 K678 K721 K764 K797 K820 K843 K876 K919 K932 K940 v3 m4) ∧ (¬ r1 = r3 → K205 m4)))))))))))))) ∧ (¬ (((kc 7).2 (Int32.toNatClampNeg v3)) &&& (31 : Int32)) = (0 : Int32) → ((((kc 7).2 (Int32.toNatClampNeg v3)) &&& (31 : Int32)) = (1 : Int32) → vp_in (v3 + (1 : Int32)) (kc 7).1 ∧ (w_188 kc ((kc 7).2 (Int32.toNatClampNeg (v3 + (1 : Int32)))) m (fun r5 m6 => vp_in (v3 + (1 : Int32)) (kc 7).1 ∧ (w_225 kc ((kc 7).2 (Int32.toNatClampNeg (v3 + (1 : Int32)))) m6 (fun r7 m8 => (r5 = r7 → w_363_934 kc Φ (w_363_18 kc Φ K205 K228 K251 K330 K343 K366 K389 K438 K461 K494 K543 K566 K589 K622 K655 K678 K721 K764 K797 K820 K843 K876 K919 K932 K940 n18) K205 K228 K251 K330 K343 K366 K389 K438 K461 K494 K543 K566 K589 K622 K655 K678 K721 K764 K797 K820 K843 K876 K919 K932 K940 v3 m8) ∧ (¬ r5 = r7 → K228 m8)))))) ∧ (¬ (((kc 7).2 (Int32.toNatClampNeg v3)) &&& (31 : Int32)) = (1 : Int32) → ((((kc 7).2 (Int32.toNatClampNeg v3)) &&& (31 : Int32)) = (2 : Int32) → vp_in (v3 + (1 : Int32)) (kc 7).1 ∧ (w_189 kc ((kc 7).2 (Int32.toNatClampNeg (v3 + (1 : Int32)))) m (fun r9 m10 => vp_in (v3 + (1 : Int32)) (kc 7).1 ∧ (w_226 kc ((kc 7).2 (Int32.toNatClampNeg (v3 + (1 : Int32)))) m10 (fun r11 m12 => (r9 = r11 → w_363_934 kc Φ (w_363_18 kc Φ K205 K228 K251 K330 K343 K366 K389 K438 K461 K494 K543 K566 K589 K622 K655 K678 K721 K764 K797 K820 K843 K876 K919 K932 K940 n18) K205 K228 K251 K330 K343 K366 K389 K438 K461 K494 K543 K566 K589 K622 K655 K678 K721 K764 K797 K820 K843 K876 K919 K932 K940 v3 m12) ∧ (¬ r9 = r11 → K251 m12)))))) ∧ (¬ (((kc 7).2 (Int32.toNatClampNeg v3)) &&& (31 : Int32)) = (2 : Int32) → ((((kc 7).2 (Int32.toNatClampNeg v3)) &&& (31 : Int32)) = (3 : Int32) → vp_in (v3 + (1 : Int32)) (kc 7).1 ∧ (vp_in (v3 + (2 : Int32)) (kc 7).1 ∧ (vp_in (v3 + (3 : Int32)) (kc 7).1 ∧ (vp_in (v3 + (4 : Int32)) (kc 7).1 ∧ ((((kc 7).2 (Int32.toNatClampNeg (v3 + (4 : Int32)))) = 0 → w_363_282 kc Φ (w_363_18 kc Φ K205 K228 K251 K330 K343 K366 K389 K438 K461 K494 K543 K566 K589 K622 K655 K678 K721 K764 K797 K820 K843 K876 K919 K932 K940 n18) K205 K228 K251 K330 K343 K366 K389 K438 K461 K494 K543 K566 K589 K622 K655 K678 K721 K764 K797 K820 K843 K876 K919 K932 K940 v3 ((kc 7).2 (Int32.toNatClampNeg (v3 + (1 : Int32)))) ((kc 7).2 (Int32.toNatClampNeg (v3 + (2 : Int32)))) ((kc 7).2 (Int32.toNatClampNeg (v3 + (3 : Int32)))) (0 : Int32) m) ∧ (¬ ((kc 7).2 (Int32.toNatClampNeg (v3 + (4 : Int32)))) = 0 → w_363_282 kc Φ (w_363_18 kc Φ K205 K228 K251 K330 K343 K366 K389 K438 K461 K494 K543 K566 K589 K622 K655 K678 K721 K764 K797 K820 K843 K876 K919 K932 K940 n18) K205 K228 K251 K330 K343 K366 K389 K438 K461 K494 K543 K566 K589 K622 K655 K678 K721 K764 K797 K820 K843 K876 K919 K932 K940 v3 ((kc 7).2 (Int32.toNatClampNeg (v3 + (1 : Int32)))) ((kc 7).2 (Int32.toNatClampNeg (v3 + (2 : Int32)))) ((kc 7).2 (Int32.toNatClampNeg (v3 + (3 : Int32)))) (1 : Int32) m)))))) ∧ (¬ (((kc 7).2 (Int32.toNatClampNeg v3)) &&& (31 : Int32)) = (3 : Int32) → ((((kc 7).2 (Int32.toNatClampNeg v3)) &&& (31 : Int32)) = (4 : Int32) → w_191 kc m (fun r13 m14 => w_227 kc m14 (fun r15 m16 => (r13 = r15 → w_363_934 kc Φ (w_363_18 kc Φ K205 K228 K251 K330 K343 K366 K389 K438 K461 K494 K543 K566 K589 K622 K655 K678 K721 K764 K797 K820 K843 K876 K919 K932 K940 n18) K205 K228 K251 K330 K343 K366 K389 K438 K461 K494 K543 K566 K589 K622 K655 K678 K721 K764 K797 K820 K843 K876 K919 K932 K940 v3 m16) ∧ (¬ r13 = r15 → K343 m16)))) ∧ (¬ (((kc 7).2 (Int32.toNatClampNeg v3)) &&& (31 : Int32)) = (4 : Int32) → ((((kc 7).2 (Int32.toNatClampNeg v3)) &&& (31 : Int32)) = (5 : Int32) → vp_in (v3 + (1 : Int32)) (kc 7).1 ∧ (w_192 kc ((kc 7).2 (Int32.toNatClampNeg (v3 + (1 : Int32)))) m (fun r17 m18 => vp_in (v3 + (1 : Int32)) (kc 7).1 ∧ (w_229 kc ((kc 7).2 (Int32.toNatClampNeg (v3 + (1 : Int32)))) m18 (fun r19 m20 => (r17 = r19 → w_363_934 kc Φ (w_363_18 kc Φ K205 K228 K251 K330 K343 K366 K389 K438 K461 K494 K543 K566 K589 K622 K655 K678 K721 K764 K797 K820 K843 K876 K919 K932 K940 n18) K205 K228 K251 K330 K343 K366 K389 K438 K461 K494 K543 K566 K589 K622 K655 K678 K721 K764 K797 K820 K843 K876 K919 K932 K940 v3 m20) ∧ (¬ r17 = r19 → K366 m20)))))) ∧ (¬ (((kc 7).2 (Int32.toNatClampNeg v3)) &&& (31 : Int32)) = (5 : Int32) → ((((kc 7).2 (Int32.toNatClampNeg v3)) &&& (31 : Int32)) = (6 : Int32) → vp_in (v3 + (1 : Int32)) (kc 7).1 ∧ (w_193 kc ((kc 7).2 (Int32.toNatClampNeg (v3 + (1 : Int32)))) m (fun r21 m22 => vp_in (v3 + (1 : Int32)) (kc 7).1 ∧ (w_317 kc ((kc 7).2 (Int32.toNatClampNeg (v3 + (1 : Int32)))) m22 (fun r23 m24 => (r21 = r23 → w_363_934 kc Φ (w_363_18 kc Φ K205 K228 K251 K330 K343 K366 K389 K438 K461 K494 K543 K566 K589 K622 K655 K678 K721 K764 K797 K820 K843 K876 K919 K932 K940 n18) K205 K228 K251 K330 K343 K366 K389 K438 K461 K494 K543 K566 K589 K622 K655 K678 K721 K764 K797 K820 K843 K876 K919 K932 K940 v3 m24) ∧ (¬ r21 = r23 → K389 m24)))))) ∧ (¬ (((kc 7).2 (Int32.toNatClampNeg v3)) &&& (31 : Int32)) = (6 : Int32) → ((((kc 7).2 (Int32.toNatClampNeg v3)) &&& (31 : Int32)) = (7 : Int32) → vp_in (v3 + (1 : Int32)) (kc 7).1 ∧ (vp_in (v3 + (2 : Int32)) (kc 7).1 ∧ ((((kc 7).2 (Int32.toNatClampNeg (v3 + (2 : Int32)))) = 0 → w_363_410 kc Φ (w_363_18 kc Φ K205 K228 K251 K330 K343 K366 K389 K438 K461 K494 K543 K566 K589 K622 K655 K678 K721 K764 K797 K820 K843 K876 K919 K932 K940 n18) K205 K228 K251 K330 K343 K366 K389 K438 K461 K494 K543 K566 K589 K622 K655 K678 K721 K764 K797 K820 K843 K876 K919 K932 K940 v3 ((kc 7).2 (Int32.toNatClampNeg (v3 + (1 : Int32)))) (0 : Int32) m) ∧ (¬ ((kc 7).2 (Int32.toNatClampNeg (v3 + (2 : Int32)))) = 0 → w_363_410 kc Φ (w_363_18 kc Φ K205 K228 K251 K330 K343 K366 K389 K438 K461 K494 K543 K566 K589 K622 K655 K678 K721 K764 K797 K820 K843 K876 K919 K932 K940 n18) K205 K228 K251 K330 K343 K366 K389 K438 K461 K494 K543 K566 K589 K622 K655 K678 K721 K764 K797 K820 K843 K876 K919 K932 K940 v3 ((kc 7).2 (Int32.toNatClampNeg (v3 + (1 : Int32)))) (1 : Int32) m)))) ∧ (¬ (((kc 7).2 (Int32.toNatClampNeg v3)) &&& (31 : Int32)) = (7 : Int32) → ((((kc 7).2 (Int32.toNatClampNeg v3)) &&& (31 : Int32)) = (8 : Int32) → vp_in (v3 + (1 : Int32)) (kc 7).1 ∧ (w_195 kc ((kc 7).2 (Int32.toNatClampNeg (v3 + (1 : Int32)))) m (fun r25 m26 => vp_in (v3 + (1 : Int32)) (kc 7).1 ∧ (w_343 kc ((kc 7).2 (Int32.toNatClampNeg (v3 + (1 : Int32)))) m26 (fun r27 m28 => (r25 = r27 → w_363_934 kc Φ (w_363_18 kc Φ K205 K228 K251 K330 K343 K366 K389 K438 K461 K494 K543 K566 K589 K622 K655 K678 K721 K764 K797 K820 K843 K876 K919 K932 K940 n18) K205 K228 K251 K330 K343 K366 K389 K438 K461 K494 K543 K566 K589 K622 K655 K678 K721 K764 K797 K820 K843 K876 K919 K932 K940 v3 m28) ∧ (¬ r25 = r27 → K461 m28)))))) ∧ (¬ (((kc 7).2 (Int32.toNatClampNeg v3)) &&& (31 : Int32)) = (8 : Int32) → ((((kc 7).2 (Int32.toNatClampNeg v3)) &&& (31 : Int32)) = (9 : Int32) → vp_in (v3 + (1 : Int32)) (kc 7).1 ∧ (vp_in (v3 + (2 : Int32)) (kc 7).1 ∧ (w_196 kc ((kc 7).2 (Int32.toNatClampNeg (v3 + (1 : Int32)))) ((kc 7).2 (Int32.toNatClampNeg (v3 + (2 : Int32)))) m (fun r29 m30 => vp_in (v3 + (1 : Int32)) (kc 7).1 ∧ (vp_in (v3 + (2 : Int32)) (kc 7).1 ∧ (w_344 kc ((kc 7).2 (Int32.toNatClampNeg (v3 + (1 : Int32)))) ((kc 7).2 (Int32.toNatClampNeg (v3 + (2 : Int32)))) m30 (fun r31 m32 => (r29 = r31 → w_363_934 kc Φ (w_363_18 kc Φ K205 K228 K251 K330 K343 K366 K389 K438 K461 K494 K543 K566 K589 K622 K655 K678 K721 K764 K797 K820 K843 K876 K919 K932 K940 n18) K205 K228 K251 K330 K343 K366 K389 K438 K461 K494 K543 K566 K589 K622 K655 K678 K721 K764 K797 K820 K843 K876 K919 K932 K940 v3 m32) ∧ (¬ r29 = r31 → K494 m32)))))))) ∧ (¬ (((kc 7).2 (Int32.toNatClampNeg v3)) &&& (31 : Int32)) = (9 : Int32) → ((((kc 7).2 (Int32.toNatClampNeg v3)) &&& (31 : Int32)) = (10 : Int32) → vp_in (v3 + (1 : Int32)) (kc 7).1 ∧ (vp_in (v3 + (2 : Int32)) (kc 7).1 ∧ ((((kc 7).2 (Int32.toNatClampNeg (v3 + (2 : Int32)))) = 0 → w_363_515 kc Φ (w_363_18 kc Φ K205 K228 K251 K330 K343 K366 K389 K438 K461 K494 K543 K566 K589 K622 K655 K678 K721 K764 K797 K820 K843 K876 K919 K932 K940 n18) K205 K228 K251 K330 K343 K366 K389 K438 K461 K494 K543 K566 K589 K622 K655 K678 K721 K764 K797 K820 K843 K876 K919 K932 K940 v3 ((kc 7).2 (Int32.toNatClampNeg (v3 + (1 : Int32)))) (0 : Int32) m) ∧ (¬ ((kc 7).2 (Int32.toNatClampNeg (v3 + (2 : Int32)))) = 0 → w_363_515 kc Φ (w_363_18 kc Φ K205 K228 K251 K330 K343 K366 K389 K438 K461 K494 K543 K566 K589 K622 K655 K678 K721 K764 K797 K820 K843 K876 K919 K932 K940 n18) K205 K228 K251 K330 K343 K366 K389 K438 K461 K494 K543 K566 K589 K622 K655 K678 K721 K764 K797 K820 K843 K876 K919 K932 K940 v3 ((kc 7).2 (Int32.toNatClampNeg (v3 + (1 : Int32)))) (1 : Int32) m)))) ∧ (¬ (((kc 7).2 (Int32.toNatClampNeg v3)) &&& (31 : Int32)) = (10 : Int32) → ((((kc 7).2 (Int32.toNatClampNeg v3)) &&& (31 : Int32)) = (11 : Int32) → vp_in (v3 + (1 : Int32)) (kc 7).1 ∧ (w_198 kc ((kc 7).2 (Int32.toNatClampNeg (v3 + (1 : Int32)))) m (fun r33 m34 => vp_in (v3 + (1 : Int32)) (kc 7).1 ∧ (w_346 kc ((kc 7).2 (Int32.toNatClampNeg (v3 + (1 : Int32)))) m34 (fun r35 m36 => (r33 = r35 → w_363_934 kc Φ (w_363_18 kc Φ K205 K228 K251 K330 K343 K366 K389 K438 K461 K494 K543 K566 K589 K622 K655 K678 K721 K764 K797 K820 K843 K876 K919 K932 K940 n18) K205 K228 K251 K330 K343 K366 K389 K438 K461 K494 K543 K566 K589 K622 K655 K678 K721 K764 K797 K820 K843 K876 K919 K932 K940 v3 m36) ∧ (¬ r33 = r35 → K566 m36)))))) ∧ (¬ (((kc 7).2 (Int32.toNatClampNeg v3)) &&& (31 : Int32)) = (11 : Int32) → ((((kc 7).2 (Int32.toNatClampNeg v3)) &&& (31 : Int32)) = (12 : Int32) → vp_in (v3 + (1 : Int32)) (kc 7).1 ∧ (w_199 kc ((kc 7).2 (Int32.toNatClampNeg (v3 + (1 : Int32)))) m (fun r37 m38 => vp_in (v3 + (1 : Int32)) (kc 7).1 ∧ (w_347 kc ((kc 7).2 (Int32.toNatClampNeg (v3 + (1 : Int32)))) m38 (fun r39 m40 => (r37 = r39 → w_363_934 kc Φ (w_363_18 kc Φ K205 K228 K251 K330 K343 K366 K389 K438 K461 K494 K543 K566 K589 K622 K655 K678 K721 K764 K797 K820 K843 K876 K919 K932 K940 n18) K205 K228 K251 K330 K343 K366 K389 K438 K461 K494 K543 K566 K589 K622 K655 K678 K721 K764 K797 K820 K843 K876 K919 K932 K940 v3 m40) ∧ (¬ r37 = r39 → K589 m40)))))) ∧ (¬ (((kc 7).2 (Int32.toNatClampNeg v3)) &&& (31 : Int32)) = (12 : Int32) → ((((kc 7).2 (Int32.toNatClampNeg v3)) &&& (31 : Int32)) = (13 : Int32) → vp_in (v3 + (1 : Int32)) (kc 7).1 ∧ (vp_in (v3 + (2 : Int32)) (kc 7).1 ∧ (w_200 kc ((kc 7).2 (Int32.toNatClampNeg (v3 + (1 : Int32)))) ((kc 7).2 (Int32.toNatClampNeg (v3 + (2 : Int32)))) m (fun r41 m42 => vp_in (v3 + (1 : Int32)) (kc 7).1 ∧ (vp_in (v3 + (2 : Int32)) (kc 7).1 ∧ (w_350 kc ((kc 7).2 (Int32.toNatClampNeg (v3 + (1 : Int32)))) ((kc 7).2 (Int32.toNatClampNeg (v3 + (2 : Int32)))) m42 (fun r43 m44 => (r41 = r43 → w_363_934 kc Φ (w_363_18 kc Φ K205 K228 K251 K330 K343 K366 K389 K438 K461 K494 K543 K566 K589 K622 K655 K678 K721 K764 K797 K820 K843 K876 K919 K932 K940 n18) K205 K228 K251 K330 K343 K366 K389 K438 K461 K494 K543 K566 K589 K622 K655 K678 K721 K764 K797 K820 K843 K876 K919 K932 K940 v3 m44) ∧ (¬ r41 = r43 → K622 m44)))))))) ∧ (¬ (((kc 7).2 (Int32.toNatClampNeg v3)) &&& (31 : Int32)) = (13 : Int32) → ((((kc 7).2 (Int32.toNatClampNeg v3)) &&& (31 : Int32)) = (14 : Int32) → vp_in (v3 + (1 : Int32)) (kc 7).1 ∧ (vp_in (v3 + (2 : Int32)) (kc 7).1 ∧ (w_201 kc ((kc 7).2 (Int32.toNatClampNeg (v3 + (1 : Int32)))) ((kc 7).2 (Int32.toNatClampNeg (v3 + (2 : Int32)))) m (fun r45 m46 => vp_in (v3 + (1 : Int32)) (kc 7).1 ∧ (vp_in (v3 + (2 : Int32)) (kc 7).1 ∧ (w_351 kc ((kc 7).2 (Int32.toNatClampNeg (v3 + (1 : Int32)))) ((kc 7).2 (Int32.toNatClampNeg (v3 + (2 : Int32)))) m46 (fun r47 m48 => (r45 = r47 → w_363_934 kc Φ (w_363_18 kc Φ K205 K228 K251 K330 K343 K366 K389 K438 K461 K494 K543 K566 K589 K622 K655 K678 K721 K764 K797 K820 K843 K876 K919 K932 K940 n18) K205 K228 K251 K330 K343 K366 K389 K438 K461 K494 K543 K566 K589 K622 K655 K678 K721 K764 K797 K820 K843 K876 K919 K932 K940 v3 m48) ∧ (¬ r45 = r47 → K655 m48)))))))) ∧ (¬ (((kc 7).2 (Int32.toNatClampNeg v3)) &&& (31 : Int32)) = (14 : Int32) → ((((kc 7).2 (Int32.toNatClampNeg v3)) &&& (31 : Int32)) = (15 : Int32) → vp_in (v3 + (1 : Int32)) (kc 7).1 ∧ (w_202 kc ((kc 7).2 (Int32.toNatClampNeg (v3 + (1 : Int32)))) m (fun r49 m50 => vp_in (v3 + (1 : Int32)) (kc 7).1 ∧ (w_353 kc ((kc 7).2 (Int32.toNatClampNeg (v3 + (1 : Int32)))) m50 (fun r51 m52 => (r49 = r51 → w_363_934 kc Φ (w_363_18 kc Φ K205 K228 K251 K330 K343 K366 K389 K438 K461 K494 K543 K566 K589 K622 K655 K678 K721 K764 K797 K820 K843 K876 K919 K932 K940 n18) K205 K228 K251 K330 K343 K366 K389 K438 K461 K494 K543 K566 K589 K622 K655 K678 K721 K764 K797 K820 K843 K876 K919 K932 K940 v3 m52) ∧ (¬ r49 = r51 → K678 m52)))))) ∧ (¬ (((kc 7).2 (Int32.toNatClampNeg v3)) &&& (31 : Int32)) = (15 : Int32) → ((((kc 7).2 (Int32.toNatClampNeg v3)) &&& (31 : Int32)) = (16 : Int32) → vp_in (v3 + (1 : Int32)) (kc 7).1 ∧ (vp_in (v3 + (2 : Int32)) (kc 7).1 ∧ (vp_in (v3 + (3 : Int32)) (kc 7).1 ∧ (w_203 kc ((kc 7).2 (Int32.toNatClampNeg (v3 + (1 : Int32)))) ((kc 7).2 (Int32.toNatClampNeg (v3 + (2 : Int32)))) ((kc 7).2 (Int32.toNatClampNeg (v3 + (3 : Int32)))) m (fun r53 m54 => vp_in (v3 + (1 : Int32)) (kc 7).1 ∧ (vp_in (v3 + (2 : Int32)) (kc 7).1 ∧ (vp_in (v3 + (3 : Int32)) (kc 7).1 ∧ (w_263 kc ((kc 7).2 (Int32.toNatClampNeg (v3 + (1 : Int32)))) ((kc 7).2 (Int32.toNatClampNeg (v3 + (2 : Int32)))) ((kc 7).2 (Int32.toNatClampNeg (v3 + (3 : Int32)))) m54 (fun r55 m56 => (r53 = r55 → w_363_934 kc Φ (w_363_18 kc Φ K205 K228 K251 K330 K343 K366 K389 K438 K461 K494 K543 K566 K589 K622 K655 K678 K721 K764 K797 K820 K843 K876 K919 K932 K940 n18) K205 K228 K251 K330 K343 K366 K389 K438 K461 K494 K543 K566 K589 K622 K655 K678 K721 K764 K797 K820 K843 K876 K919 K932 K940 v3 m56) ∧ (¬ r53 = r55 → K721 m56)))))))))) ∧ (¬ (((kc 7).2 (Int32.toNatClampNeg v3)) &&& (31 : Int32)) = (16 : Int32) → ((((kc 7).2 (Int32.toNatClampNeg v3)) &&& (31 : Int32)) = (17 : Int32) → vp_in (v3 + (1 : Int32)) (kc 7).1 ∧ (vp_in (v3 + (2 : Int32)) (kc 7).1 ∧ (vp_in (v3 + (3 : Int32)) (kc 7).1 ∧ (w_204 kc ((kc 7).2 (Int32.toNatClampNeg (v3 + (1 : Int32)))) ((kc 7).2 (Int32.toNatClampNeg (v3 + (2 : Int32)))) ((kc 7).2 (Int32.toNatClampNeg (v3 + (3 : Int32)))) m (fun r57 m58 => vp_in (v3 + (1 : Int32)) (kc 7).1 ∧ (vp_in (v3 + (2 : Int32)) (kc 7).1 ∧ (vp_in (v3 + (3 : Int32)) (kc 7).1 ∧ (w_354 kc ((kc 7).2 (Int32.toNatClampNeg (v3 + (1 : Int32)))) ((kc 7).2 (Int32.toNatClampNeg (v3 + (2 : Int32)))) ((kc 7).2 (Int32.toNatClampNeg (v3 + (3 : Int32)))) m58 (fun r59 m60 => (r57 = r59 → w_363_934 kc Φ (w_363_18 kc Φ K205 K228 K251 K330 K343 K366 K389 K438 K461 K494 K543 K566 K589 K622 K655 K678 K721 K764 K797 K820 K843 K876 K919 K932 K940 n18) K205 K228 K251 K330 K343 K366 K389 K438 K461 K494 K543 K566 K589 K622 K655 K678 K721 K764 K797 K820 K843 K876 K919 K932 K940 v3 m60) ∧ (¬ r57 = r59 → K764 m60)))))))))) ∧ (¬ (((kc 7).2 (Int32.toNatClampNeg v3)) &&& (31 : Int32)) = (17 : Int32) → ((((kc 7).2 (Int32.toNatClampNeg v3)) &&& (31 : Int32)) = (18 : Int32) → vp_in (v3 + (1 : Int32)) (kc 7).1 ∧ (vp_in (v3 + (2 : Int32)) (kc 7).1 ∧ (w_205 kc ((kc 7).2 (Int32.toNatClampNeg (v3 + (1 : Int32)))) ((kc 7).2 (Int32.toNatClampNeg (v3 + (2 : Int32)))) m (fun r61 m62 => vp_in (v3 + (1 : Int32)) (kc 7).1 ∧ (vp_in (v3 + (2 : Int32)) (kc 7).1 ∧ (w_355 kc ((kc 7).2 (Int32.toNatClampNeg (v3 + (1 : Int32)))) ((kc 7).2 (Int32.toNatClampNeg (v3 + (2 : Int32)))) m62 (fun r63 m64 => (r61 = r63 → w_363_934 kc Φ (w_363_18 kc Φ K205 K228 K251 K330 K343 K366 K389 K438 K461 K494 K543 K566 K589 K622 K655 K678 K721 K764 K797 K820 K843 K876 K919 K932 K940 n18) K205 K228 K251 K330 K343 K366 K389 K438 K461 K494 K543 K566 K589 K622 K655 K678 K721 K764 K797 K820 K843 K876 K919 K932 K940 v3 m64) ∧ (¬ r61 = r63 → K797 m64)))))))) ∧ (¬ (((kc 7).2 (Int32.toNatClampNeg v3)) &&& (31 : Int32)) = (18 : Int32) → ((((kc 7).2 (Int32.toNatClampNeg v3)) &&& (31 : Int32)) = (19 : Int32) → vp_in (v3 + (1 : Int32)) (kc 7).1 ∧ (w_206 kc ((kc 7).2 (Int32.toNatClampNeg (v3 + (1 : Int32)))) m (fun r65 m66 => vp_in (v3 + (1 : Int32)) (kc 7).1 ∧ (w_356 kc ((kc 7).2 (Int32.toNatClampNeg (v3 + (1 : Int32)))) m66 (fun r67 m68 => (r65 = r67 → w_363_934 kc Φ (w_363_18 kc Φ K205 K228 K251 K330 K343 K366 K389 K438 K461 K494 K543 K566 K589 K622 K655 K678 K721 K764 K797 K820 K843 K876 K919 K932 K940 n18) K205 K228 K251 K330 K343 K366 K389 K438 K461 K494 K543 K566 K589 K622 K655 K678 K721 K764 K797 K820 K843 K876 K919 K932 K940 v3 m68) ∧ (¬ r65 = r67 → K820 m68)))))) ∧ (¬ (((kc 7).2 (Int32.toNatClampNeg v3)) &&& (31 : Int32)) = (19 : Int32) → ((((kc 7).2 (Int32.toNatClampNeg v3)) &&& (31 : Int32)) = (20 : Int32) → vp_in (v3 + (1 : Int32)) (kc 7).1 ∧ (w_207 kc ((kc 7).2 (Int32.toNatClampNeg (v3 + (1 : Int32)))) m (fun r69 m70 => vp_in (v3 + (1 : Int32)) (kc 7).1 ∧ (w_357 kc ((kc 7).2 (Int32.toNatClampNeg (v3 + (1 : Int32)))) m70 (fun r71 m72 => (r69 = r71 → w_363_934 kc Φ (w_363_18 kc Φ K205 K228 K251 K330 K343 K366 K389 K438 K461 K494 K543 K566 K589 K622 K655 K678 K721 K764 K797 K820 K843 K876 K919 K932 K940 n18) K205 K228 K251 K330 K343 K366 K389 K438 K461 K494 K543 K566 K589 K622 K655 K678 K721 K764 K797 K820 K843 K876 K919 K932 K940 v3 m72) ∧ (¬ r69 = r71 → K843 m72)))))) ∧ (¬ (((kc 7).2 (Int32.toNatClampNeg v3)) &&& (31 : Int32)) = (20 : Int32) → ((((kc 7).2 (Int32.toNatClampNeg v3)) &&& (31 : Int32)) = (21 : Int32) → vp_in (v3 + (1 : Int32)) (kc 7).1 ∧ (vp_in (v3 + (2 : Int32)) (kc 7).1 ∧ (w_208 kc ((kc 7).2 (Int32.toNatClampNeg (v3 + (1 : Int32)))) ((kc 7).2 (Int32.toNatClampNeg (v3 + (2 : Int32)))) m (fun r73 m74 => vp_in (v3 + (1 : Int32)) (kc 7).1 ∧ (vp_in (v3 + (2 : Int32)) (kc 7).1 ∧ (w_358 kc ((kc 7).2 (Int32.toNatClampNeg (v3 + (1 : Int32)))) ((kc 7).2 (Int32.toNatClampNeg (v3 + (2 : Int32)))) m74 (fun r75 m76 => (r73 = r75 → w_363_934 kc Φ (w_363_18 kc Φ K205 K228 K251 K330 K343 K366 K389 K438 K461 K494 K543 K566 K589 K622 K655 K678 K721 K764 K797 K820 K843 K876 K919 K932 K940 n18) K205 K228 K251 K330 K343 K366 K389 K438 K461 K494 K543 K566 K589 K622 K655 K678 K721 K764 K797 K820 K843 K876 K919 K932 K940 v3 m76) ∧ (¬ r73 = r75 → K876 m76)))))))) ∧ (¬ (((kc 7).2 (Int32.toNatClampNeg v3)) &&& (31 : Int32)) = (21 : Int32) → ((((kc 7).2 (Int32.toNatClampNeg v3)) &&& (31 : Int32)) = (22 : Int32) → vp_in (v3 + (1 : Int32)) (kc 7).1 ∧ (vp_in (v3 + (2 : Int32)) (kc 7).1 ∧ (vp_in (v3 + (3 : Int32)) (kc 7).1 ∧ (w_209 kc ((kc 7).2 (Int32.toNatClampNeg (v3 + (1 : Int32)))) ((kc 7).2 (Int32.toNatClampNeg (v3 + (2 : Int32)))) ((kc 7).2 (Int32.toNatClampNeg (v3 + (3 : Int32)))) m (fun r77 m78 => vp_in (v3 + (1 : Int32)) (kc 7).1 ∧ (vp_in (v3 + (2 : Int32)) (kc 7).1 ∧ (vp_in (v3 + (3 : Int32)) (kc 7).1 ∧ (w_243 kc ((kc 7).2 (Int32.toNatClampNeg (v3 + (1 : Int32)))) ((kc 7).2 (Int32.toNatClampNeg (v3 + (2 : Int32)))) ((kc 7).2 (Int32.toNatClampNeg (v3 + (3 : Int32)))) m78 (fun r79 m80 => (r77 = r79 → w_363_934 kc Φ (w_363_18 kc Φ K205 K228 K251 K330 K343 K366 K389 K438 K461 K494 K543 K566 K589 K622 K655 K678 K721 K764 K797 K820 K843 K876 K919 K932 K940 n18) K205 K228 K251 K330 K343 K366 K389 K438 K461 K494 K543 K566 K589 K622 K655 K678 K721 K764 K797 K820 K843 K876 K919 K932 K940 v3 m80) ∧ (¬ r77 = r79 → K919 m80)))))))))) ∧ (¬ (((kc 7).2 (Int32.toNatClampNeg v3)) &&& (31 : Int32)) = (22 : Int32) → ((((kc 7).2 (Int32.toNatClampNeg v3)) &&& (31 : Int32)) = (23 : Int32) → w_210 kc m (fun r81 m82 => w_359 kc m82 (fun r83 m84 => (r81 = r83 → w_363_934 kc Φ (w_363_18 kc Φ K205 K228 K251 K330 K343 K366 K389 K438 K461 K494 K543 K566 K589 K622 K655 K678 K721 K764 K797 K820 K843 K876 K919 K932 K940 n18) K205 K228 K251 K330 K343 K366 K389 K438 K461 K494 K543 K566 K589 K622 K655 K678 K721 K764 K797 K820 K843 K876 K919 K932 K940 v3 m84) ∧ (¬ r81 = r83 → K932 m84)))) ∧ (¬ (((kc 7).2 (Int32.toNatClampNeg v3)) &&& (31 : Int32)) = (23 : Int32) → w_363_934 kc Φ (w_363_18 kc Φ K205 K228 K251 K330 K343 K366 K389 K438 K461 K494 K543 K566 K589 K622 K655 K678 K721 K764 K797 K820 K843 K876 K919 K932 K940 n18) K205 K228 K251 K330 K343 K366 K389 K438 K461 K494 K543 K566 K589 K622 K655 K678 K721 K764 K797 K820 K843 K876 K919 K932 K940 v3 m))))))))))))))))))))))))))
def w_363_205 (kc : it_Kc) (Φ : Int32 → it_Me → Prop) (m : it_Me) : Prop :=
  Φ (0 : Int32) m
def w_363_228 (kc : it_Kc) (Φ : Int32 → it_Me → Prop) (m : it_Me) : Prop :=
  Φ (0 : Int32) m
def w_363_251 (kc : it_Kc) (Φ : Int32 → it_Me → Prop) (m : it_Me) : Prop :=
  Φ (0 : Int32) m
def w_363_330 (kc : it_Kc) (Φ : Int32 → it_Me → Prop) (m : it_Me) : Prop :=
  Φ (0 : Int32) m
def w_363_343 (kc : it_Kc) (Φ : Int32 → it_Me → Prop) (m : it_Me) : Prop :=
  Φ (0 : Int32) m
def w_363_366 (kc : it_Kc) (Φ : Int32 → it_Me → Prop) (m : it_Me) : Prop :=
  Φ (0 : Int32) m
def w_363_389 (kc : it_Kc) (Φ : Int32 → it_Me → Prop) (m : it_Me) : Prop :=
  Φ (0 : Int32) m
def w_363_438 (kc : it_Kc) (Φ : Int32 → it_Me → Prop) (m : it_Me) : Prop :=
  Φ (0 : Int32) m
def w_363_461 (kc : it_Kc) (Φ : Int32 → it_Me → Prop) (m : it_Me) : Prop :=
  Φ (0 : Int32) m
def w_363_494 (kc : it_Kc) (Φ : Int32 → it_Me → Prop) (m : it_Me) : Prop :=
  Φ (0 : Int32) m
def w_363_543 (kc : it_Kc) (Φ : Int32 → it_Me → Prop) (m : it_Me) : Prop :=
  Φ (0 : Int32) m
def w_363_566 (kc : it_Kc) (Φ : Int32 → it_Me → Prop) (m : it_Me) : Prop :=
  Φ (0 : Int32) m
def w_363_589 (kc : it_Kc) (Φ : Int32 → it_Me → Prop) (m : it_Me) : Prop :=
  Φ (0 : Int32) m
def w_363_622 (kc : it_Kc) (Φ : Int32 → it_Me → Prop) (m : it_Me) : Prop :=
  Φ (0 : Int32) m
def w_363_655 (kc : it_Kc) (Φ : Int32 → it_Me → Prop) (m : it_Me) : Prop :=
  Φ (0 : Int32) m
def w_363_678 (kc : it_Kc) (Φ : Int32 → it_Me → Prop) (m : it_Me) : Prop :=
  Φ (0 : Int32) m
def w_363_721 (kc : it_Kc) (Φ : Int32 → it_Me → Prop) (m : it_Me) : Prop :=
  Φ (0 : Int32) m
def w_363_764 (kc : it_Kc) (Φ : Int32 → it_Me → Prop) (m : it_Me) : Prop :=
  Φ (0 : Int32) m
def w_363_797 (kc : it_Kc) (Φ : Int32 → it_Me → Prop) (m : it_Me) : Prop :=
  Φ (0 : Int32) m
def w_363_820 (kc : it_Kc) (Φ : Int32 → it_Me → Prop) (m : it_Me) : Prop :=
  Φ (0 : Int32) m
def w_363_843 (kc : it_Kc) (Φ : Int32 → it_Me → Prop) (m : it_Me) : Prop :=
  Φ (0 : Int32) m
def w_363_876 (kc : it_Kc) (Φ : Int32 → it_Me → Prop) (m : it_Me) : Prop :=
  Φ (0 : Int32) m
def w_363_919 (kc : it_Kc) (Φ : Int32 → it_Me → Prop) (m : it_Me) : Prop :=
  Φ (0 : Int32) m
def w_363_932 (kc : it_Kc) (Φ : Int32 → it_Me → Prop) (m : it_Me) : Prop :=
  Φ (0 : Int32) m
def w_363_940 (kc : it_Kc) (Φ : Int32 → it_Me → Prop) (m : it_Me) : Prop :=
  Φ (1 : Int32) m
def w_363 (kc : it_Kc) (x3 : Int32) (m : it_Me) (Φ : Int32 → it_Me → Prop) : Prop :=
  ∃ e, w_363_18 kc Φ (fun m => w_363_205 kc Φ m) (fun m => w_363_228 kc Φ m) (fun m => w_363_251 kc Φ m) (fun m => w_363_330 kc Φ m) (fun m => w_363_343 kc Φ m) (fun m => w_363_366 kc Φ m) (fun m => w_363_389 kc Φ m) (fun m => w_363_438 kc Φ m) (fun m => w_363_461 kc Φ m) (fun m => w_363_494 kc Φ m) (fun m => w_363_543 kc Φ m) (fun m => w_363_566 kc Φ m) (fun m => w_363_589 kc Φ m) (fun m => w_363_622 kc Φ m) (fun m => w_363_655 kc Φ m) (fun m => w_363_678 kc Φ m) (fun m => w_363_721 kc Φ m) (fun m => w_363_764 kc Φ m) (fun m => w_363_797 kc Φ m) (fun m => w_363_820 kc Φ m) (fun m => w_363_843 kc Φ m) (fun m => w_363_876 kc Φ m) (fun m => w_363_919 kc Φ m) (fun m => w_363_932 kc Φ m) (fun m => w_363_940 kc Φ m) e x3 m

set_option maxRecDepth 100000 in
set_option maxHeartbeats 4000000 in
theorem s_363_934 (kc : it_Kc) (Φ : Int32 → it_Me → Prop) (K18 : Int32 → it_Me → Prop) (K205 : it_Me → Prop) (K228 : it_Me → Prop) (K251 : it_Me → Prop) (K330 : it_Me → Prop) (K343 : it_Me → Prop) (K366 : it_Me → Prop) (K389 : it_Me → Prop) (K438 : it_Me → Prop) (K461 : it_Me → Prop) (K494 : it_Me → Prop) (K543 : it_Me → Prop) (K566 : it_Me → Prop) (K589 : it_Me → Prop) (K622 : it_Me → Prop) (K655 : it_Me → Prop) (K678 : it_Me → Prop) (K721 : it_Me → Prop) (K764 : it_Me → Prop) (K797 : it_Me → Prop) (K820 : it_Me → Prop) (K843 : it_Me → Prop) (K876 : it_Me → Prop) (K919 : it_Me → Prop) (K932 : it_Me → Prop) (K940 : it_Me → Prop) (hK18 : ∀ (v3 : Int32) (m : it_Me), K18 v3 m → it_V kc it_sh0 363 18 [some (.ref (it_K + 7)), some (.ref 0), some (.ref 66), some (.int v3)] [] m (it_Pi Φ)) (hK205 : ∀ (m : it_Me), K205 m → it_V kc it_sh0 363 205 [none, none, none, none] [] m (it_Pi Φ)) (hK228 : ∀ (m : it_Me), K228 m → it_V kc it_sh0 363 228 [none, none, none, none] [] m (it_Pi Φ)) (hK251 : ∀ (m : it_Me), K251 m → it_V kc it_sh0 363 251 [none, none, none, none] [] m (it_Pi Φ)) (hK330 : ∀ (m : it_Me), K330 m → it_V kc it_sh0 363 330 [none, none, none, none] [] m (it_Pi Φ)) (hK343 : ∀ (m : it_Me), K343 m → it_V kc it_sh0 363 343 [none, none, none, none] [] m (it_Pi Φ)) (hK366 : ∀ (m : it_Me), K366 m → it_V kc it_sh0 363 366 [none, none, none, none] [] m (it_Pi Φ)) (hK389 : ∀ (m : it_Me), K389 m → it_V kc it_sh0 363 389 [none, none, none, none] [] m (it_Pi Φ)) (hK438 : ∀ (m : it_Me), K438 m → it_V kc it_sh0 363 438 [none, none, none, none] [] m (it_Pi Φ)) (hK461 : ∀ (m : it_Me), K461 m → it_V kc it_sh0 363 461 [none, none, none, none] [] m (it_Pi Φ)) (hK494 : ∀ (m : it_Me), K494 m → it_V kc it_sh0 363 494 [none, none, none, none] [] m (it_Pi Φ)) (hK543 : ∀ (m : it_Me), K543 m → it_V kc it_sh0 363 543 [none, none, none, none] [] m (it_Pi Φ)) (hK566 : ∀ (m : it_Me), K566 m → it_V kc it_sh0 363 566 [none, none, none, none] [] m (it_Pi Φ)) (hK589 : ∀ (m : it_Me), K589 m → it_V kc it_sh0 363 589 [none, none, none, none] [] m (it_Pi Φ)) (hK622 : ∀ (m : it_Me), K622 m → it_V kc it_sh0 363 622 [none, none, none, none] [] m (it_Pi Φ)) (hK655 : ∀ (m : it_Me), K655 m → it_V kc it_sh0 363 655 [none, none, none, none] [] m (it_Pi Φ)) (hK678 : ∀ (m : it_Me), K678 m → it_V kc it_sh0 363 678 [none, none, none, none] [] m (it_Pi Φ)) (hK721 : ∀ (m : it_Me), K721 m → it_V kc it_sh0 363 721 [none, none, none, none] [] m (it_Pi Φ)) (hK764 : ∀ (m : it_Me), K764 m → it_V kc it_sh0 363 764 [none, none, none, none] [] m (it_Pi Φ)) (hK797 : ∀ (m : it_Me), K797 m → it_V kc it_sh0 363 797 [none, none, none, none] [] m (it_Pi Φ)) (hK820 : ∀ (m : it_Me), K820 m → it_V kc it_sh0 363 820 [none, none, none, none] [] m (it_Pi Φ)) (hK843 : ∀ (m : it_Me), K843 m → it_V kc it_sh0 363 843 [none, none, none, none] [] m (it_Pi Φ)) (hK876 : ∀ (m : it_Me), K876 m → it_V kc it_sh0 363 876 [none, none, none, none] [] m (it_Pi Φ)) (hK919 : ∀ (m : it_Me), K919 m → it_V kc it_sh0 363 919 [none, none, none, none] [] m (it_Pi Φ)) (hK932 : ∀ (m : it_Me), K932 m → it_V kc it_sh0 363 932 [none, none, none, none] [] m (it_Pi Φ)) (hK940 : ∀ (m : it_Me), K940 m → it_V kc it_sh0 363 940 [none, none, none, none] [] m (it_Pi Φ)) (v3 : Int32) (m : it_Me) (h : w_363_934 kc Φ K18 K205 K228 K251 K330 K343 K366 K389 K438 K461 K494 K543 K566 K589 K622 K655 K678 K721 K764 K797 K820 K843 K876 K919 K932 K940 v3 m) : it_V kc it_sh0 363 934 [some (.ref (it_K + 7)), some (.ref 0), some (.ref 66), some (.int v3)] [] m (it_Pi Φ) := by
  rw [w_363_934] at h
  refine it_V.sN it_cd363 it_m363 2 (pc1 := 18) (ls1 := [some (.ref (it_K + 7)), some (.ref 0), some (.ref 66), some (.int (v3 + (6 : Int32)))]) (st1 := []) (mem1 := m) rfl ?_
  exact hK18 (v3 + (6 : Int32)) m h
set_option maxRecDepth 100000 in
set_option maxHeartbeats 4000000 in
theorem s_363_319 (kc : it_Kc) (Φ : Int32 → it_Me → Prop) (K18 : Int32 → it_Me → Prop) (K205 : it_Me → Prop) (K228 : it_Me → Prop) (K251 : it_Me → Prop) (K330 : it_Me → Prop) (K343 : it_Me → Prop) (K366 : it_Me → Prop) (K389 : it_Me → Prop) (K438 : it_Me → Prop) (K461 : it_Me → Prop) (K494 : it_Me → Prop) (K543 : it_Me → Prop) (K566 : it_Me → Prop) (K589 : it_Me → Prop) (K622 : it_Me → Prop) (K655 : it_Me → Prop) (K678 : it_Me → Prop) (K721 : it_Me → Prop) (K764 : it_Me → Prop) (K797 : it_Me → Prop) (K820 : it_Me → Prop) (K843 : it_Me → Prop) (K876 : it_Me → Prop) (K919 : it_Me → Prop) (K932 : it_Me → Prop) (K940 : it_Me → Prop) (hK18 : ∀ (v3 : Int32) (m : it_Me), K18 v3 m → it_V kc it_sh0 363 18 [some (.ref (it_K + 7)), some (.ref 0), some (.ref 66), some (.int v3)] [] m (it_Pi Φ)) (hK205 : ∀ (m : it_Me), K205 m → it_V kc it_sh0 363 205 [none, none, none, none] [] m (it_Pi Φ)) (hK228 : ∀ (m : it_Me), K228 m → it_V kc it_sh0 363 228 [none, none, none, none] [] m (it_Pi Φ)) (hK251 : ∀ (m : it_Me), K251 m → it_V kc it_sh0 363 251 [none, none, none, none] [] m (it_Pi Φ)) (hK330 : ∀ (m : it_Me), K330 m → it_V kc it_sh0 363 330 [none, none, none, none] [] m (it_Pi Φ)) (hK343 : ∀ (m : it_Me), K343 m → it_V kc it_sh0 363 343 [none, none, none, none] [] m (it_Pi Φ)) (hK366 : ∀ (m : it_Me), K366 m → it_V kc it_sh0 363 366 [none, none, none, none] [] m (it_Pi Φ)) (hK389 : ∀ (m : it_Me), K389 m → it_V kc it_sh0 363 389 [none, none, none, none] [] m (it_Pi Φ)) (hK438 : ∀ (m : it_Me), K438 m → it_V kc it_sh0 363 438 [none, none, none, none] [] m (it_Pi Φ)) (hK461 : ∀ (m : it_Me), K461 m → it_V kc it_sh0 363 461 [none, none, none, none] [] m (it_Pi Φ)) (hK494 : ∀ (m : it_Me), K494 m → it_V kc it_sh0 363 494 [none, none, none, none] [] m (it_Pi Φ)) (hK543 : ∀ (m : it_Me), K543 m → it_V kc it_sh0 363 543 [none, none, none, none] [] m (it_Pi Φ)) (hK566 : ∀ (m : it_Me), K566 m → it_V kc it_sh0 363 566 [none, none, none, none] [] m (it_Pi Φ)) (hK589 : ∀ (m : it_Me), K589 m → it_V kc it_sh0 363 589 [none, none, none, none] [] m (it_Pi Φ)) (hK622 : ∀ (m : it_Me), K622 m → it_V kc it_sh0 363 622 [none, none, none, none] [] m (it_Pi Φ)) (hK655 : ∀ (m : it_Me), K655 m → it_V kc it_sh0 363 655 [none, none, none, none] [] m (it_Pi Φ)) (hK678 : ∀ (m : it_Me), K678 m → it_V kc it_sh0 363 678 [none, none, none, none] [] m (it_Pi Φ)) (hK721 : ∀ (m : it_Me), K721 m → it_V kc it_sh0 363 721 [none, none, none, none] [] m (it_Pi Φ)) (hK764 : ∀ (m : it_Me), K764 m → it_V kc it_sh0 363 764 [none, none, none, none] [] m (it_Pi Φ)) (hK797 : ∀ (m : it_Me), K797 m → it_V kc it_sh0 363 797 [none, none, none, none] [] m (it_Pi Φ)) (hK820 : ∀ (m : it_Me), K820 m → it_V kc it_sh0 363 820 [none, none, none, none] [] m (it_Pi Φ)) (hK843 : ∀ (m : it_Me), K843 m → it_V kc it_sh0 363 843 [none, none, none, none] [] m (it_Pi Φ)) (hK876 : ∀ (m : it_Me), K876 m → it_V kc it_sh0 363 876 [none, none, none, none] [] m (it_Pi Φ)) (hK919 : ∀ (m : it_Me), K919 m → it_V kc it_sh0 363 919 [none, none, none, none] [] m (it_Pi Φ)) (hK932 : ∀ (m : it_Me), K932 m → it_V kc it_sh0 363 932 [none, none, none, none] [] m (it_Pi Φ)) (hK940 : ∀ (m : it_Me), K940 m → it_V kc it_sh0 363 940 [none, none, none, none] [] m (it_Pi Φ)) (v3 : Int32) (u0 : Int32) (u2 : Int32) (u3 : Int32) (u4 : Int32) (u5 : Int32) (m : it_Me) (h : w_363_319 kc Φ K18 K205 K228 K251 K330 K343 K366 K389 K438 K461 K494 K543 K566 K589 K622 K655 K678 K721 K764 K797 K820 K843 K876 K919 K932 K940 v3 u0 u2 u3 u4 u5 m) : it_V kc it_sh0 363 319 [some (.ref (it_K + 7)), some (.ref 0), some (.ref 66), some (.int v3)] [(.int u5), (.int u4), (.int u3), (.int u2), (.ref 66), (.int u0)] m (it_Pi Φ) := by
  rw [w_363_319] at h
  refine it_V.sN it_cd363 it_m363 4 (pc1 := 323) (ls1 := [some (.ref (it_K + 7)), some (.ref 0), some (.ref 66), some (.int v3)]) (st1 := [(.int (v3 + (5 : Int32))), (.ref (it_K + 7)), (.int u5), (.int u4), (.int u3), (.int u2), (.ref 66), (.int u0)]) (mem1 := m) rfl ?_
  obtain ⟨g1, h⟩ := h
  refine it_V.kald it_cd363 it_m363 rfl (by decide) g1 ?_
  refine it_V.at (pc1 := 324) (ls1 := [some (.ref (it_K + 7)), some (.ref 0), some (.ref 66), some (.int v3)]) (st1 := [(.int ((kc 7).2 (Int32.toNatClampNeg (v3 + (5 : Int32))))), (.int u5), (.int u4), (.int u3), (.int u2), (.ref 66), (.int u0)]) (mem1 := m) rfl rfl rfl rfl ?_
  refine it_V.call it_cd363 it_m363 rfl it_m251 [(.ref 66), (.int u2), (.int u3), (.int u4), (.int u5), (.int ((kc 7).2 (Int32.toNatClampNeg (v3 + (5 : Int32)))))] [(.int u0)] rfl rfl ⟨Nat.le_of_ble_eq_true rfl, Nat.le_of_ble_eq_true rfl, Nat.le_of_ble_eq_true rfl, Nat.le_of_ble_eq_true rfl, rfl⟩ (s_251 kc u2 u3 u4 u5 ((kc 7).2 (Int32.toNatClampNeg (v3 + (5 : Int32)))) m _ h) ?_
  rintro _ m3 ⟨r2, rfl, h⟩
  refine it_V.at (pc1 := 327) (ls1 := [some (.ref (it_K + 7)), some (.ref 0), some (.ref 66), some (.int v3)]) (st1 := [(.int r2), (.int u0)]) (mem1 := m3) rfl rfl rfl rfl ?_
  refine it_V.sN it_cd363 it_m363 1 (pc1 := (if u0 = r2 then 934 else 330)) (ls1 := [some (.ref (it_K + 7)), some (.ref 0), some (.ref 66), some (.int v3)]) (st1 := []) (mem1 := m3) rfl ?_
  refine it_V.ite (fun c4 => ?_) (fun c4 => ?_)
  · have h := h.1 c4
    exact s_363_934 kc Φ _ _ _ _ _ _ _ _ _ _ _ _ _ _ _ _ _ _ _ _ _ _ _ _ _ _ hK18 hK205 hK228 hK251 hK330 hK343 hK366 hK389 hK438 hK461 hK494 hK543 hK566 hK589 hK622 hK655 hK678 hK721 hK764 hK797 hK820 hK843 hK876 hK919 hK932 hK940 v3 m3 h
  · have h := h.2 c4
    refine it_V.weak (l := [none, none, none, none]) trivial ?_
    exact hK330 m3 h
set_option maxRecDepth 100000 in
set_option maxHeartbeats 4000000 in
theorem s_363_282 (kc : it_Kc) (Φ : Int32 → it_Me → Prop) (K18 : Int32 → it_Me → Prop) (K205 : it_Me → Prop) (K228 : it_Me → Prop) (K251 : it_Me → Prop) (K330 : it_Me → Prop) (K343 : it_Me → Prop) (K366 : it_Me → Prop) (K389 : it_Me → Prop) (K438 : it_Me → Prop) (K461 : it_Me → Prop) (K494 : it_Me → Prop) (K543 : it_Me → Prop) (K566 : it_Me → Prop) (K589 : it_Me → Prop) (K622 : it_Me → Prop) (K655 : it_Me → Prop) (K678 : it_Me → Prop) (K721 : it_Me → Prop) (K764 : it_Me → Prop) (K797 : it_Me → Prop) (K820 : it_Me → Prop) (K843 : it_Me → Prop) (K876 : it_Me → Prop) (K919 : it_Me → Prop) (K932 : it_Me → Prop) (K940 : it_Me → Prop) (hK18 : ∀ (v3 : Int32) (m : it_Me), K18 v3 m → it_V kc it_sh0 363 18 [some (.ref (it_K + 7)), some (.ref 0), some (.ref 66), some (.int v3)] [] m (it_Pi Φ)) (hK205 : ∀ (m : it_Me), K205 m → it_V kc it_sh0 363 205 [none, none, none, none] [] m (it_Pi Φ)) (hK228 : ∀ (m : it_Me), K228 m → it_V kc it_sh0 363 228 [none, none, none, none] [] m (it_Pi Φ)) (hK251 : ∀ (m : it_Me), K251 m → it_V kc it_sh0 363 251 [none, none, none, none] [] m (it_Pi Φ)) (hK330 : ∀ (m : it_Me), K330 m → it_V kc it_sh0 363 330 [none, none, none, none] [] m (it_Pi Φ)) (hK343 : ∀ (m : it_Me), K343 m → it_V kc it_sh0 363 343 [none, none, none, none] [] m (it_Pi Φ)) (hK366 : ∀ (m : it_Me), K366 m → it_V kc it_sh0 363 366 [none, none, none, none] [] m (it_Pi Φ)) (hK389 : ∀ (m : it_Me), K389 m → it_V kc it_sh0 363 389 [none, none, none, none] [] m (it_Pi Φ)) (hK438 : ∀ (m : it_Me), K438 m → it_V kc it_sh0 363 438 [none, none, none, none] [] m (it_Pi Φ)) (hK461 : ∀ (m : it_Me), K461 m → it_V kc it_sh0 363 461 [none, none, none, none] [] m (it_Pi Φ)) (hK494 : ∀ (m : it_Me), K494 m → it_V kc it_sh0 363 494 [none, none, none, none] [] m (it_Pi Φ)) (hK543 : ∀ (m : it_Me), K543 m → it_V kc it_sh0 363 543 [none, none, none, none] [] m (it_Pi Φ)) (hK566 : ∀ (m : it_Me), K566 m → it_V kc it_sh0 363 566 [none, none, none, none] [] m (it_Pi Φ)) (hK589 : ∀ (m : it_Me), K589 m → it_V kc it_sh0 363 589 [none, none, none, none] [] m (it_Pi Φ)) (hK622 : ∀ (m : it_Me), K622 m → it_V kc it_sh0 363 622 [none, none, none, none] [] m (it_Pi Φ)) (hK655 : ∀ (m : it_Me), K655 m → it_V kc it_sh0 363 655 [none, none, none, none] [] m (it_Pi Φ)) (hK678 : ∀ (m : it_Me), K678 m → it_V kc it_sh0 363 678 [none, none, none, none] [] m (it_Pi Φ)) (hK721 : ∀ (m : it_Me), K721 m → it_V kc it_sh0 363 721 [none, none, none, none] [] m (it_Pi Φ)) (hK764 : ∀ (m : it_Me), K764 m → it_V kc it_sh0 363 764 [none, none, none, none] [] m (it_Pi Φ)) (hK797 : ∀ (m : it_Me), K797 m → it_V kc it_sh0 363 797 [none, none, none, none] [] m (it_Pi Φ)) (hK820 : ∀ (m : it_Me), K820 m → it_V kc it_sh0 363 820 [none, none, none, none] [] m (it_Pi Φ)) (hK843 : ∀ (m : it_Me), K843 m → it_V kc it_sh0 363 843 [none, none, none, none] [] m (it_Pi Φ)) (hK876 : ∀ (m : it_Me), K876 m → it_V kc it_sh0 363 876 [none, none, none, none] [] m (it_Pi Φ)) (hK919 : ∀ (m : it_Me), K919 m → it_V kc it_sh0 363 919 [none, none, none, none] [] m (it_Pi Φ)) (hK932 : ∀ (m : it_Me), K932 m → it_V kc it_sh0 363 932 [none, none, none, none] [] m (it_Pi Φ)) (hK940 : ∀ (m : it_Me), K940 m → it_V kc it_sh0 363 940 [none, none, none, none] [] m (it_Pi Φ)) (v3 : Int32) (u1 : Int32) (u2 : Int32) (u3 : Int32) (u4 : Int32) (m : it_Me) (h : w_363_282 kc Φ K18 K205 K228 K251 K330 K343 K366 K389 K438 K461 K494 K543 K566 K589 K622 K655 K678 K721 K764 K797 K820 K843 K876 K919 K932 K940 v3 u1 u2 u3 u4 m) : it_V kc it_sh0 363 282 [some (.ref (it_K + 7)), some (.ref 0), some (.ref 66), some (.int v3)] [(.int u4), (.int u3), (.int u2), (.int u1), (.ref 0)] m (it_Pi Φ) := by
  rw [w_363_282] at h
  refine it_V.sN it_cd363 it_m363 4 (pc1 := 286) (ls1 := [some (.ref (it_K + 7)), some (.ref 0), some (.ref 66), some (.int v3)]) (st1 := [(.int (v3 + (5 : Int32))), (.ref (it_K + 7)), (.int u4), (.int u3), (.int u2), (.int u1), (.ref 0)]) (mem1 := m) rfl ?_
  obtain ⟨g1, h⟩ := h
  refine it_V.kald it_cd363 it_m363 rfl (by decide) g1 ?_
  refine it_V.at (pc1 := 287) (ls1 := [some (.ref (it_K + 7)), some (.ref 0), some (.ref 66), some (.int v3)]) (st1 := [(.int ((kc 7).2 (Int32.toNatClampNeg (v3 + (5 : Int32))))), (.int u4), (.int u3), (.int u2), (.int u1), (.ref 0)]) (mem1 := m) rfl rfl rfl rfl ?_
  refine it_V.call it_cd363 it_m363 rfl it_m190 [(.ref 0), (.int u1), (.int u2), (.int u3), (.int u4), (.int ((kc 7).2 (Int32.toNatClampNeg (v3 + (5 : Int32)))))] [] rfl rfl ⟨Nat.le_of_ble_eq_true rfl, Nat.le_of_ble_eq_true rfl, Nat.le_of_ble_eq_true rfl, Nat.le_of_ble_eq_true rfl, rfl⟩ (s_190 kc u1 u2 u3 u4 ((kc 7).2 (Int32.toNatClampNeg (v3 + (5 : Int32)))) m _ h) ?_
  rintro _ m3 ⟨r2, rfl, h⟩
  refine it_V.at (pc1 := 290) (ls1 := [some (.ref (it_K + 7)), some (.ref 0), some (.ref 66), some (.int v3)]) (st1 := [(.int r2)]) (mem1 := m3) rfl rfl rfl rfl ?_
  refine it_V.sN it_cd363 it_m363 5 (pc1 := 295) (ls1 := [some (.ref (it_K + 7)), some (.ref 0), some (.ref 66), some (.int v3)]) (st1 := [(.int (v3 + (1 : Int32))), (.ref (it_K + 7)), (.ref 66), (.int r2)]) (mem1 := m3) rfl ?_
  obtain ⟨g4, h⟩ := h
  refine it_V.kald it_cd363 it_m363 rfl (by decide) g4 ?_
  refine it_V.at (pc1 := 296) (ls1 := [some (.ref (it_K + 7)), some (.ref 0), some (.ref 66), some (.int v3)]) (st1 := [(.int ((kc 7).2 (Int32.toNatClampNeg (v3 + (1 : Int32))))), (.ref 66), (.int r2)]) (mem1 := m3) rfl rfl rfl rfl ?_
  refine it_V.sN it_cd363 it_m363 4 (pc1 := 300) (ls1 := [some (.ref (it_K + 7)), some (.ref 0), some (.ref 66), some (.int v3)]) (st1 := [(.int (v3 + (2 : Int32))), (.ref (it_K + 7)), (.int ((kc 7).2 (Int32.toNatClampNeg (v3 + (1 : Int32))))), (.ref 66), (.int r2)]) (mem1 := m3) rfl ?_
  obtain ⟨g5, h⟩ := h
  refine it_V.kald it_cd363 it_m363 rfl (by decide) g5 ?_
  refine it_V.at (pc1 := 301) (ls1 := [some (.ref (it_K + 7)), some (.ref 0), some (.ref 66), some (.int v3)]) (st1 := [(.int ((kc 7).2 (Int32.toNatClampNeg (v3 + (2 : Int32))))), (.int ((kc 7).2 (Int32.toNatClampNeg (v3 + (1 : Int32))))), (.ref 66), (.int r2)]) (mem1 := m3) rfl rfl rfl rfl ?_
  refine it_V.sN it_cd363 it_m363 4 (pc1 := 305) (ls1 := [some (.ref (it_K + 7)), some (.ref 0), some (.ref 66), some (.int v3)]) (st1 := [(.int (v3 + (3 : Int32))), (.ref (it_K + 7)), (.int ((kc 7).2 (Int32.toNatClampNeg (v3 + (2 : Int32))))), (.int ((kc 7).2 (Int32.toNatClampNeg (v3 + (1 : Int32))))), (.ref 66), (.int r2)]) (mem1 := m3) rfl ?_
  obtain ⟨g6, h⟩ := h
  refine it_V.kald it_cd363 it_m363 rfl (by decide) g6 ?_
  refine it_V.at (pc1 := 306) (ls1 := [some (.ref (it_K + 7)), some (.ref 0), some (.ref 66), some (.int v3)]) (st1 := [(.int ((kc 7).2 (Int32.toNatClampNeg (v3 + (3 : Int32))))), (.int ((kc 7).2 (Int32.toNatClampNeg (v3 + (2 : Int32))))), (.int ((kc 7).2 (Int32.toNatClampNeg (v3 + (1 : Int32))))), (.ref 66), (.int r2)]) (mem1 := m3) rfl rfl rfl rfl ?_
  refine it_V.sN it_cd363 it_m363 4 (pc1 := 310) (ls1 := [some (.ref (it_K + 7)), some (.ref 0), some (.ref 66), some (.int v3)]) (st1 := [(.int (v3 + (4 : Int32))), (.ref (it_K + 7)), (.int ((kc 7).2 (Int32.toNatClampNeg (v3 + (3 : Int32))))), (.int ((kc 7).2 (Int32.toNatClampNeg (v3 + (2 : Int32))))), (.int ((kc 7).2 (Int32.toNatClampNeg (v3 + (1 : Int32))))), (.ref 66), (.int r2)]) (mem1 := m3) rfl ?_
  obtain ⟨g7, h⟩ := h
  refine it_V.kald it_cd363 it_m363 rfl (by decide) g7 ?_
  refine it_V.at (pc1 := 311) (ls1 := [some (.ref (it_K + 7)), some (.ref 0), some (.ref 66), some (.int v3)]) (st1 := [(.int ((kc 7).2 (Int32.toNatClampNeg (v3 + (4 : Int32))))), (.int ((kc 7).2 (Int32.toNatClampNeg (v3 + (3 : Int32))))), (.int ((kc 7).2 (Int32.toNatClampNeg (v3 + (2 : Int32))))), (.int ((kc 7).2 (Int32.toNatClampNeg (v3 + (1 : Int32))))), (.ref 66), (.int r2)]) (mem1 := m3) rfl rfl rfl rfl ?_
  refine it_V.sN it_cd363 it_m363 1 (pc1 := (if ((kc 7).2 (Int32.toNatClampNeg (v3 + (4 : Int32)))) = 0 then 318 else 314)) (ls1 := [some (.ref (it_K + 7)), some (.ref 0), some (.ref 66), some (.int v3)]) (st1 := [(.int ((kc 7).2 (Int32.toNatClampNeg (v3 + (3 : Int32))))), (.int ((kc 7).2 (Int32.toNatClampNeg (v3 + (2 : Int32))))), (.int ((kc 7).2 (Int32.toNatClampNeg (v3 + (1 : Int32))))), (.ref 66), (.int r2)]) (mem1 := m3) rfl ?_
  refine it_V.ite (fun c8 => ?_) (fun c8 => ?_)
  · have h := h.1 c8
    refine it_V.sN it_cd363 it_m363 1 (pc1 := 319) (ls1 := [some (.ref (it_K + 7)), some (.ref 0), some (.ref 66), some (.int v3)]) (st1 := [(.int (0 : Int32)), (.int ((kc 7).2 (Int32.toNatClampNeg (v3 + (3 : Int32))))), (.int ((kc 7).2 (Int32.toNatClampNeg (v3 + (2 : Int32))))), (.int ((kc 7).2 (Int32.toNatClampNeg (v3 + (1 : Int32))))), (.ref 66), (.int r2)]) (mem1 := m3) rfl ?_
    exact s_363_319 kc Φ _ _ _ _ _ _ _ _ _ _ _ _ _ _ _ _ _ _ _ _ _ _ _ _ _ _ hK18 hK205 hK228 hK251 hK330 hK343 hK366 hK389 hK438 hK461 hK494 hK543 hK566 hK589 hK622 hK655 hK678 hK721 hK764 hK797 hK820 hK843 hK876 hK919 hK932 hK940 v3 r2 ((kc 7).2 (Int32.toNatClampNeg (v3 + (1 : Int32)))) ((kc 7).2 (Int32.toNatClampNeg (v3 + (2 : Int32)))) ((kc 7).2 (Int32.toNatClampNeg (v3 + (3 : Int32)))) (0 : Int32) m3 h
  · have h := h.2 c8
    refine it_V.sN it_cd363 it_m363 2 (pc1 := 319) (ls1 := [some (.ref (it_K + 7)), some (.ref 0), some (.ref 66), some (.int v3)]) (st1 := [(.int (1 : Int32)), (.int ((kc 7).2 (Int32.toNatClampNeg (v3 + (3 : Int32))))), (.int ((kc 7).2 (Int32.toNatClampNeg (v3 + (2 : Int32))))), (.int ((kc 7).2 (Int32.toNatClampNeg (v3 + (1 : Int32))))), (.ref 66), (.int r2)]) (mem1 := m3) rfl ?_
    exact s_363_319 kc Φ _ _ _ _ _ _ _ _ _ _ _ _ _ _ _ _ _ _ _ _ _ _ _ _ _ _ hK18 hK205 hK228 hK251 hK330 hK343 hK366 hK389 hK438 hK461 hK494 hK543 hK566 hK589 hK622 hK655 hK678 hK721 hK764 hK797 hK820 hK843 hK876 hK919 hK932 hK940 v3 r2 ((kc 7).2 (Int32.toNatClampNeg (v3 + (1 : Int32)))) ((kc 7).2 (Int32.toNatClampNeg (v3 + (2 : Int32)))) ((kc 7).2 (Int32.toNatClampNeg (v3 + (3 : Int32)))) (1 : Int32) m3 h
set_option maxRecDepth 100000 in
set_option maxHeartbeats 4000000 in
theorem s_363_432 (kc : it_Kc) (Φ : Int32 → it_Me → Prop) (K18 : Int32 → it_Me → Prop) (K205 : it_Me → Prop) (K228 : it_Me → Prop) (K251 : it_Me → Prop) (K330 : it_Me → Prop) (K343 : it_Me → Prop) (K366 : it_Me → Prop) (K389 : it_Me → Prop) (K438 : it_Me → Prop) (K461 : it_Me → Prop) (K494 : it_Me → Prop) (K543 : it_Me → Prop) (K566 : it_Me → Prop) (K589 : it_Me → Prop) (K622 : it_Me → Prop) (K655 : it_Me → Prop) (K678 : it_Me → Prop) (K721 : it_Me → Prop) (K764 : it_Me → Prop) (K797 : it_Me → Prop) (K820 : it_Me → Prop) (K843 : it_Me → Prop) (K876 : it_Me → Prop) (K919 : it_Me → Prop) (K932 : it_Me → Prop) (K940 : it_Me → Prop) (hK18 : ∀ (v3 : Int32) (m : it_Me), K18 v3 m → it_V kc it_sh0 363 18 [some (.ref (it_K + 7)), some (.ref 0), some (.ref 66), some (.int v3)] [] m (it_Pi Φ)) (hK205 : ∀ (m : it_Me), K205 m → it_V kc it_sh0 363 205 [none, none, none, none] [] m (it_Pi Φ)) (hK228 : ∀ (m : it_Me), K228 m → it_V kc it_sh0 363 228 [none, none, none, none] [] m (it_Pi Φ)) (hK251 : ∀ (m : it_Me), K251 m → it_V kc it_sh0 363 251 [none, none, none, none] [] m (it_Pi Φ)) (hK330 : ∀ (m : it_Me), K330 m → it_V kc it_sh0 363 330 [none, none, none, none] [] m (it_Pi Φ)) (hK343 : ∀ (m : it_Me), K343 m → it_V kc it_sh0 363 343 [none, none, none, none] [] m (it_Pi Φ)) (hK366 : ∀ (m : it_Me), K366 m → it_V kc it_sh0 363 366 [none, none, none, none] [] m (it_Pi Φ)) (hK389 : ∀ (m : it_Me), K389 m → it_V kc it_sh0 363 389 [none, none, none, none] [] m (it_Pi Φ)) (hK438 : ∀ (m : it_Me), K438 m → it_V kc it_sh0 363 438 [none, none, none, none] [] m (it_Pi Φ)) (hK461 : ∀ (m : it_Me), K461 m → it_V kc it_sh0 363 461 [none, none, none, none] [] m (it_Pi Φ)) (hK494 : ∀ (m : it_Me), K494 m → it_V kc it_sh0 363 494 [none, none, none, none] [] m (it_Pi Φ)) (hK543 : ∀ (m : it_Me), K543 m → it_V kc it_sh0 363 543 [none, none, none, none] [] m (it_Pi Φ)) (hK566 : ∀ (m : it_Me), K566 m → it_V kc it_sh0 363 566 [none, none, none, none] [] m (it_Pi Φ)) (hK589 : ∀ (m : it_Me), K589 m → it_V kc it_sh0 363 589 [none, none, none, none] [] m (it_Pi Φ)) (hK622 : ∀ (m : it_Me), K622 m → it_V kc it_sh0 363 622 [none, none, none, none] [] m (it_Pi Φ)) (hK655 : ∀ (m : it_Me), K655 m → it_V kc it_sh0 363 655 [none, none, none, none] [] m (it_Pi Φ)) (hK678 : ∀ (m : it_Me), K678 m → it_V kc it_sh0 363 678 [none, none, none, none] [] m (it_Pi Φ)) (hK721 : ∀ (m : it_Me), K721 m → it_V kc it_sh0 363 721 [none, none, none, none] [] m (it_Pi Φ)) (hK764 : ∀ (m : it_Me), K764 m → it_V kc it_sh0 363 764 [none, none, none, none] [] m (it_Pi Φ)) (hK797 : ∀ (m : it_Me), K797 m → it_V kc it_sh0 363 797 [none, none, none, none] [] m (it_Pi Φ)) (hK820 : ∀ (m : it_Me), K820 m → it_V kc it_sh0 363 820 [none, none, none, none] [] m (it_Pi Φ)) (hK843 : ∀ (m : it_Me), K843 m → it_V kc it_sh0 363 843 [none, none, none, none] [] m (it_Pi Φ)) (hK876 : ∀ (m : it_Me), K876 m → it_V kc it_sh0 363 876 [none, none, none, none] [] m (it_Pi Φ)) (hK919 : ∀ (m : it_Me), K919 m → it_V kc it_sh0 363 919 [none, none, none, none] [] m (it_Pi Φ)) (hK932 : ∀ (m : it_Me), K932 m → it_V kc it_sh0 363 932 [none, none, none, none] [] m (it_Pi Φ)) (hK940 : ∀ (m : it_Me), K940 m → it_V kc it_sh0 363 940 [none, none, none, none] [] m (it_Pi Φ)) (v3 : Int32) (u0 : Int32) (u2 : Int32) (u3 : Int32) (m : it_Me) (h : w_363_432 kc Φ K18 K205 K228 K251 K330 K343 K366 K389 K438 K461 K494 K543 K566 K589 K622 K655 K678 K721 K764 K797 K820 K843 K876 K919 K932 K940 v3 u0 u2 u3 m) : it_V kc it_sh0 363 432 [some (.ref (it_K + 7)), some (.ref 0), some (.ref 66), some (.int v3)] [(.int u3), (.int u2), (.ref 66), (.int u0)] m (it_Pi Φ) := by
  rw [w_363_432] at h
  refine it_V.call it_cd363 it_m363 rfl it_m342 [(.ref 66), (.int u2), (.int u3)] [(.int u0)] rfl rfl ⟨Nat.le_of_ble_eq_true rfl, Nat.le_of_ble_eq_true rfl, Nat.le_of_ble_eq_true rfl, Nat.le_of_ble_eq_true rfl, rfl⟩ (s_342 kc u2 u3 m _ h) ?_
  rintro _ m2 ⟨r1, rfl, h⟩
  refine it_V.at (pc1 := 435) (ls1 := [some (.ref (it_K + 7)), some (.ref 0), some (.ref 66), some (.int v3)]) (st1 := [(.int r1), (.int u0)]) (mem1 := m2) rfl rfl rfl rfl ?_
  refine it_V.sN it_cd363 it_m363 1 (pc1 := (if u0 = r1 then 934 else 438)) (ls1 := [some (.ref (it_K + 7)), some (.ref 0), some (.ref 66), some (.int v3)]) (st1 := []) (mem1 := m2) rfl ?_
  refine it_V.ite (fun c3 => ?_) (fun c3 => ?_)
  · have h := h.1 c3
    exact s_363_934 kc Φ _ _ _ _ _ _ _ _ _ _ _ _ _ _ _ _ _ _ _ _ _ _ _ _ _ _ hK18 hK205 hK228 hK251 hK330 hK343 hK366 hK389 hK438 hK461 hK494 hK543 hK566 hK589 hK622 hK655 hK678 hK721 hK764 hK797 hK820 hK843 hK876 hK919 hK932 hK940 v3 m2 h
  · have h := h.2 c3
    refine it_V.weak (l := [none, none, none, none]) trivial ?_
    exact hK438 m2 h
set_option maxRecDepth 100000 in
set_option maxHeartbeats 4000000 in
theorem s_363_410 (kc : it_Kc) (Φ : Int32 → it_Me → Prop) (K18 : Int32 → it_Me → Prop) (K205 : it_Me → Prop) (K228 : it_Me → Prop) (K251 : it_Me → Prop) (K330 : it_Me → Prop) (K343 : it_Me → Prop) (K366 : it_Me → Prop) (K389 : it_Me → Prop) (K438 : it_Me → Prop) (K461 : it_Me → Prop) (K494 : it_Me → Prop) (K543 : it_Me → Prop) (K566 : it_Me → Prop) (K589 : it_Me → Prop) (K622 : it_Me → Prop) (K655 : it_Me → Prop) (K678 : it_Me → Prop) (K721 : it_Me → Prop) (K764 : it_Me → Prop) (K797 : it_Me → Prop) (K820 : it_Me → Prop) (K843 : it_Me → Prop) (K876 : it_Me → Prop) (K919 : it_Me → Prop) (K932 : it_Me → Prop) (K940 : it_Me → Prop) (hK18 : ∀ (v3 : Int32) (m : it_Me), K18 v3 m → it_V kc it_sh0 363 18 [some (.ref (it_K + 7)), some (.ref 0), some (.ref 66), some (.int v3)] [] m (it_Pi Φ)) (hK205 : ∀ (m : it_Me), K205 m → it_V kc it_sh0 363 205 [none, none, none, none] [] m (it_Pi Φ)) (hK228 : ∀ (m : it_Me), K228 m → it_V kc it_sh0 363 228 [none, none, none, none] [] m (it_Pi Φ)) (hK251 : ∀ (m : it_Me), K251 m → it_V kc it_sh0 363 251 [none, none, none, none] [] m (it_Pi Φ)) (hK330 : ∀ (m : it_Me), K330 m → it_V kc it_sh0 363 330 [none, none, none, none] [] m (it_Pi Φ)) (hK343 : ∀ (m : it_Me), K343 m → it_V kc it_sh0 363 343 [none, none, none, none] [] m (it_Pi Φ)) (hK366 : ∀ (m : it_Me), K366 m → it_V kc it_sh0 363 366 [none, none, none, none] [] m (it_Pi Φ)) (hK389 : ∀ (m : it_Me), K389 m → it_V kc it_sh0 363 389 [none, none, none, none] [] m (it_Pi Φ)) (hK438 : ∀ (m : it_Me), K438 m → it_V kc it_sh0 363 438 [none, none, none, none] [] m (it_Pi Φ)) (hK461 : ∀ (m : it_Me), K461 m → it_V kc it_sh0 363 461 [none, none, none, none] [] m (it_Pi Φ)) (hK494 : ∀ (m : it_Me), K494 m → it_V kc it_sh0 363 494 [none, none, none, none] [] m (it_Pi Φ)) (hK543 : ∀ (m : it_Me), K543 m → it_V kc it_sh0 363 543 [none, none, none, none] [] m (it_Pi Φ)) (hK566 : ∀ (m : it_Me), K566 m → it_V kc it_sh0 363 566 [none, none, none, none] [] m (it_Pi Φ)) (hK589 : ∀ (m : it_Me), K589 m → it_V kc it_sh0 363 589 [none, none, none, none] [] m (it_Pi Φ)) (hK622 : ∀ (m : it_Me), K622 m → it_V kc it_sh0 363 622 [none, none, none, none] [] m (it_Pi Φ)) (hK655 : ∀ (m : it_Me), K655 m → it_V kc it_sh0 363 655 [none, none, none, none] [] m (it_Pi Φ)) (hK678 : ∀ (m : it_Me), K678 m → it_V kc it_sh0 363 678 [none, none, none, none] [] m (it_Pi Φ)) (hK721 : ∀ (m : it_Me), K721 m → it_V kc it_sh0 363 721 [none, none, none, none] [] m (it_Pi Φ)) (hK764 : ∀ (m : it_Me), K764 m → it_V kc it_sh0 363 764 [none, none, none, none] [] m (it_Pi Φ)) (hK797 : ∀ (m : it_Me), K797 m → it_V kc it_sh0 363 797 [none, none, none, none] [] m (it_Pi Φ)) (hK820 : ∀ (m : it_Me), K820 m → it_V kc it_sh0 363 820 [none, none, none, none] [] m (it_Pi Φ)) (hK843 : ∀ (m : it_Me), K843 m → it_V kc it_sh0 363 843 [none, none, none, none] [] m (it_Pi Φ)) (hK876 : ∀ (m : it_Me), K876 m → it_V kc it_sh0 363 876 [none, none, none, none] [] m (it_Pi Φ)) (hK919 : ∀ (m : it_Me), K919 m → it_V kc it_sh0 363 919 [none, none, none, none] [] m (it_Pi Φ)) (hK932 : ∀ (m : it_Me), K932 m → it_V kc it_sh0 363 932 [none, none, none, none] [] m (it_Pi Φ)) (hK940 : ∀ (m : it_Me), K940 m → it_V kc it_sh0 363 940 [none, none, none, none] [] m (it_Pi Φ)) (v3 : Int32) (u1 : Int32) (u2 : Int32) (m : it_Me) (h : w_363_410 kc Φ K18 K205 K228 K251 K330 K343 K366 K389 K438 K461 K494 K543 K566 K589 K622 K655 K678 K721 K764 K797 K820 K843 K876 K919 K932 K940 v3 u1 u2 m) : it_V kc it_sh0 363 410 [some (.ref (it_K + 7)), some (.ref 0), some (.ref 66), some (.int v3)] [(.int u2), (.int u1), (.ref 0)] m (it_Pi Φ) := by
  rw [w_363_410] at h
  refine it_V.call it_cd363 it_m363 rfl it_m194 [(.ref 0), (.int u1), (.int u2)] [] rfl rfl ⟨Nat.le_of_ble_eq_true rfl, Nat.le_of_ble_eq_true rfl, Nat.le_of_ble_eq_true rfl, Nat.le_of_ble_eq_true rfl, rfl⟩ (s_194 kc u1 u2 m _ h) ?_
  rintro _ m2 ⟨r1, rfl, h⟩
  refine it_V.at (pc1 := 413) (ls1 := [some (.ref (it_K + 7)), some (.ref 0), some (.ref 66), some (.int v3)]) (st1 := [(.int r1)]) (mem1 := m2) rfl rfl rfl rfl ?_
  refine it_V.sN it_cd363 it_m363 5 (pc1 := 418) (ls1 := [some (.ref (it_K + 7)), some (.ref 0), some (.ref 66), some (.int v3)]) (st1 := [(.int (v3 + (1 : Int32))), (.ref (it_K + 7)), (.ref 66), (.int r1)]) (mem1 := m2) rfl ?_
  obtain ⟨g3, h⟩ := h
  refine it_V.kald it_cd363 it_m363 rfl (by decide) g3 ?_
  refine it_V.at (pc1 := 419) (ls1 := [some (.ref (it_K + 7)), some (.ref 0), some (.ref 66), some (.int v3)]) (st1 := [(.int ((kc 7).2 (Int32.toNatClampNeg (v3 + (1 : Int32))))), (.ref 66), (.int r1)]) (mem1 := m2) rfl rfl rfl rfl ?_
  refine it_V.sN it_cd363 it_m363 4 (pc1 := 423) (ls1 := [some (.ref (it_K + 7)), some (.ref 0), some (.ref 66), some (.int v3)]) (st1 := [(.int (v3 + (2 : Int32))), (.ref (it_K + 7)), (.int ((kc 7).2 (Int32.toNatClampNeg (v3 + (1 : Int32))))), (.ref 66), (.int r1)]) (mem1 := m2) rfl ?_
  obtain ⟨g4, h⟩ := h
  refine it_V.kald it_cd363 it_m363 rfl (by decide) g4 ?_
  refine it_V.at (pc1 := 424) (ls1 := [some (.ref (it_K + 7)), some (.ref 0), some (.ref 66), some (.int v3)]) (st1 := [(.int ((kc 7).2 (Int32.toNatClampNeg (v3 + (2 : Int32))))), (.int ((kc 7).2 (Int32.toNatClampNeg (v3 + (1 : Int32))))), (.ref 66), (.int r1)]) (mem1 := m2) rfl rfl rfl rfl ?_
  refine it_V.sN it_cd363 it_m363 1 (pc1 := (if ((kc 7).2 (Int32.toNatClampNeg (v3 + (2 : Int32)))) = 0 then 431 else 427)) (ls1 := [some (.ref (it_K + 7)), some (.ref 0), some (.ref 66), some (.int v3)]) (st1 := [(.int ((kc 7).2 (Int32.toNatClampNeg (v3 + (1 : Int32))))), (.ref 66), (.int r1)]) (mem1 := m2) rfl ?_
  refine it_V.ite (fun c5 => ?_) (fun c5 => ?_)
  · have h := h.1 c5
    refine it_V.sN it_cd363 it_m363 1 (pc1 := 432) (ls1 := [some (.ref (it_K + 7)), some (.ref 0), some (.ref 66), some (.int v3)]) (st1 := [(.int (0 : Int32)), (.int ((kc 7).2 (Int32.toNatClampNeg (v3 + (1 : Int32))))), (.ref 66), (.int r1)]) (mem1 := m2) rfl ?_
    exact s_363_432 kc Φ _ _ _ _ _ _ _ _ _ _ _ _ _ _ _ _ _ _ _ _ _ _ _ _ _ _ hK18 hK205 hK228 hK251 hK330 hK343 hK366 hK389 hK438 hK461 hK494 hK543 hK566 hK589 hK622 hK655 hK678 hK721 hK764 hK797 hK820 hK843 hK876 hK919 hK932 hK940 v3 r1 ((kc 7).2 (Int32.toNatClampNeg (v3 + (1 : Int32)))) (0 : Int32) m2 h
  · have h := h.2 c5
    refine it_V.sN it_cd363 it_m363 2 (pc1 := 432) (ls1 := [some (.ref (it_K + 7)), some (.ref 0), some (.ref 66), some (.int v3)]) (st1 := [(.int (1 : Int32)), (.int ((kc 7).2 (Int32.toNatClampNeg (v3 + (1 : Int32))))), (.ref 66), (.int r1)]) (mem1 := m2) rfl ?_
    exact s_363_432 kc Φ _ _ _ _ _ _ _ _ _ _ _ _ _ _ _ _ _ _ _ _ _ _ _ _ _ _ hK18 hK205 hK228 hK251 hK330 hK343 hK366 hK389 hK438 hK461 hK494 hK543 hK566 hK589 hK622 hK655 hK678 hK721 hK764 hK797 hK820 hK843 hK876 hK919 hK932 hK940 v3 r1 ((kc 7).2 (Int32.toNatClampNeg (v3 + (1 : Int32)))) (1 : Int32) m2 h
set_option maxRecDepth 100000 in
set_option maxHeartbeats 4000000 in
theorem s_363_537 (kc : it_Kc) (Φ : Int32 → it_Me → Prop) (K18 : Int32 → it_Me → Prop) (K205 : it_Me → Prop) (K228 : it_Me → Prop) (K251 : it_Me → Prop) (K330 : it_Me → Prop) (K343 : it_Me → Prop) (K366 : it_Me → Prop) (K389 : it_Me → Prop) (K438 : it_Me → Prop) (K461 : it_Me → Prop) (K494 : it_Me → Prop) (K543 : it_Me → Prop) (K566 : it_Me → Prop) (K589 : it_Me → Prop) (K622 : it_Me → Prop) (K655 : it_Me → Prop) (K678 : it_Me → Prop) (K721 : it_Me → Prop) (K764 : it_Me → Prop) (K797 : it_Me → Prop) (K820 : it_Me → Prop) (K843 : it_Me → Prop) (K876 : it_Me → Prop) (K919 : it_Me → Prop) (K932 : it_Me → Prop) (K940 : it_Me → Prop) (hK18 : ∀ (v3 : Int32) (m : it_Me), K18 v3 m → it_V kc it_sh0 363 18 [some (.ref (it_K + 7)), some (.ref 0), some (.ref 66), some (.int v3)] [] m (it_Pi Φ)) (hK205 : ∀ (m : it_Me), K205 m → it_V kc it_sh0 363 205 [none, none, none, none] [] m (it_Pi Φ)) (hK228 : ∀ (m : it_Me), K228 m → it_V kc it_sh0 363 228 [none, none, none, none] [] m (it_Pi Φ)) (hK251 : ∀ (m : it_Me), K251 m → it_V kc it_sh0 363 251 [none, none, none, none] [] m (it_Pi Φ)) (hK330 : ∀ (m : it_Me), K330 m → it_V kc it_sh0 363 330 [none, none, none, none] [] m (it_Pi Φ)) (hK343 : ∀ (m : it_Me), K343 m → it_V kc it_sh0 363 343 [none, none, none, none] [] m (it_Pi Φ)) (hK366 : ∀ (m : it_Me), K366 m → it_V kc it_sh0 363 366 [none, none, none, none] [] m (it_Pi Φ)) (hK389 : ∀ (m : it_Me), K389 m → it_V kc it_sh0 363 389 [none, none, none, none] [] m (it_Pi Φ)) (hK438 : ∀ (m : it_Me), K438 m → it_V kc it_sh0 363 438 [none, none, none, none] [] m (it_Pi Φ)) (hK461 : ∀ (m : it_Me), K461 m → it_V kc it_sh0 363 461 [none, none, none, none] [] m (it_Pi Φ)) (hK494 : ∀ (m : it_Me), K494 m → it_V kc it_sh0 363 494 [none, none, none, none] [] m (it_Pi Φ)) (hK543 : ∀ (m : it_Me), K543 m → it_V kc it_sh0 363 543 [none, none, none, none] [] m (it_Pi Φ)) (hK566 : ∀ (m : it_Me), K566 m → it_V kc it_sh0 363 566 [none, none, none, none] [] m (it_Pi Φ)) (hK589 : ∀ (m : it_Me), K589 m → it_V kc it_sh0 363 589 [none, none, none, none] [] m (it_Pi Φ)) (hK622 : ∀ (m : it_Me), K622 m → it_V kc it_sh0 363 622 [none, none, none, none] [] m (it_Pi Φ)) (hK655 : ∀ (m : it_Me), K655 m → it_V kc it_sh0 363 655 [none, none, none, none] [] m (it_Pi Φ)) (hK678 : ∀ (m : it_Me), K678 m → it_V kc it_sh0 363 678 [none, none, none, none] [] m (it_Pi Φ)) (hK721 : ∀ (m : it_Me), K721 m → it_V kc it_sh0 363 721 [none, none, none, none] [] m (it_Pi Φ)) (hK764 : ∀ (m : it_Me), K764 m → it_V kc it_sh0 363 764 [none, none, none, none] [] m (it_Pi Φ)) (hK797 : ∀ (m : it_Me), K797 m → it_V kc it_sh0 363 797 [none, none, none, none] [] m (it_Pi Φ)) (hK820 : ∀ (m : it_Me), K820 m → it_V kc it_sh0 363 820 [none, none, none, none] [] m (it_Pi Φ)) (hK843 : ∀ (m : it_Me), K843 m → it_V kc it_sh0 363 843 [none, none, none, none] [] m (it_Pi Φ)) (hK876 : ∀ (m : it_Me), K876 m → it_V kc it_sh0 363 876 [none, none, none, none] [] m (it_Pi Φ)) (hK919 : ∀ (m : it_Me), K919 m → it_V kc it_sh0 363 919 [none, none, none, none] [] m (it_Pi Φ)) (hK932 : ∀ (m : it_Me), K932 m → it_V kc it_sh0 363 932 [none, none, none, none] [] m (it_Pi Φ)) (hK940 : ∀ (m : it_Me), K940 m → it_V kc it_sh0 363 940 [none, none, none, none] [] m (it_Pi Φ)) (v3 : Int32) (u0 : Int32) (u2 : Int32) (u3 : Int32) (m : it_Me) (h : w_363_537 kc Φ K18 K205 K228 K251 K330 K343 K366 K389 K438 K461 K494 K543 K566 K589 K622 K655 K678 K721 K764 K797 K820 K843 K876 K919 K932 K940 v3 u0 u2 u3 m) : it_V kc it_sh0 363 537 [some (.ref (it_K + 7)), some (.ref 0), some (.ref 66), some (.int v3)] [(.int u3), (.int u2), (.ref 66), (.int u0)] m (it_Pi Φ) := by
  rw [w_363_537] at h
  refine it_V.call it_cd363 it_m363 rfl it_m345 [(.ref 66), (.int u2), (.int u3)] [(.int u0)] rfl rfl ⟨Nat.le_of_ble_eq_true rfl, Nat.le_of_ble_eq_true rfl, Nat.le_of_ble_eq_true rfl, Nat.le_of_ble_eq_true rfl, rfl⟩ (s_345 kc u2 u3 m _ h) ?_
  rintro _ m2 ⟨r1, rfl, h⟩
  refine it_V.at (pc1 := 540) (ls1 := [some (.ref (it_K + 7)), some (.ref 0), some (.ref 66), some (.int v3)]) (st1 := [(.int r1), (.int u0)]) (mem1 := m2) rfl rfl rfl rfl ?_
  refine it_V.sN it_cd363 it_m363 1 (pc1 := (if u0 = r1 then 934 else 543)) (ls1 := [some (.ref (it_K + 7)), some (.ref 0), some (.ref 66), some (.int v3)]) (st1 := []) (mem1 := m2) rfl ?_
  refine it_V.ite (fun c3 => ?_) (fun c3 => ?_)
  · have h := h.1 c3
    exact s_363_934 kc Φ _ _ _ _ _ _ _ _ _ _ _ _ _ _ _ _ _ _ _ _ _ _ _ _ _ _ hK18 hK205 hK228 hK251 hK330 hK343 hK366 hK389 hK438 hK461 hK494 hK543 hK566 hK589 hK622 hK655 hK678 hK721 hK764 hK797 hK820 hK843 hK876 hK919 hK932 hK940 v3 m2 h
  · have h := h.2 c3
    refine it_V.weak (l := [none, none, none, none]) trivial ?_
    exact hK543 m2 h
set_option maxRecDepth 100000 in
set_option maxHeartbeats 4000000 in
theorem s_363_515 (kc : it_Kc) (Φ : Int32 → it_Me → Prop) (K18 : Int32 → it_Me → Prop) (K205 : it_Me → Prop) (K228 : it_Me → Prop) (K251 : it_Me → Prop) (K330 : it_Me → Prop) (K343 : it_Me → Prop) (K366 : it_Me → Prop) (K389 : it_Me → Prop) (K438 : it_Me → Prop) (K461 : it_Me → Prop) (K494 : it_Me → Prop) (K543 : it_Me → Prop) (K566 : it_Me → Prop) (K589 : it_Me → Prop) (K622 : it_Me → Prop) (K655 : it_Me → Prop) (K678 : it_Me → Prop) (K721 : it_Me → Prop) (K764 : it_Me → Prop) (K797 : it_Me → Prop) (K820 : it_Me → Prop) (K843 : it_Me → Prop) (K876 : it_Me → Prop) (K919 : it_Me → Prop) (K932 : it_Me → Prop) (K940 : it_Me → Prop) (hK18 : ∀ (v3 : Int32) (m : it_Me), K18 v3 m → it_V kc it_sh0 363 18 [some (.ref (it_K + 7)), some (.ref 0), some (.ref 66), some (.int v3)] [] m (it_Pi Φ)) (hK205 : ∀ (m : it_Me), K205 m → it_V kc it_sh0 363 205 [none, none, none, none] [] m (it_Pi Φ)) (hK228 : ∀ (m : it_Me), K228 m → it_V kc it_sh0 363 228 [none, none, none, none] [] m (it_Pi Φ)) (hK251 : ∀ (m : it_Me), K251 m → it_V kc it_sh0 363 251 [none, none, none, none] [] m (it_Pi Φ)) (hK330 : ∀ (m : it_Me), K330 m → it_V kc it_sh0 363 330 [none, none, none, none] [] m (it_Pi Φ)) (hK343 : ∀ (m : it_Me), K343 m → it_V kc it_sh0 363 343 [none, none, none, none] [] m (it_Pi Φ)) (hK366 : ∀ (m : it_Me), K366 m → it_V kc it_sh0 363 366 [none, none, none, none] [] m (it_Pi Φ)) (hK389 : ∀ (m : it_Me), K389 m → it_V kc it_sh0 363 389 [none, none, none, none] [] m (it_Pi Φ)) (hK438 : ∀ (m : it_Me), K438 m → it_V kc it_sh0 363 438 [none, none, none, none] [] m (it_Pi Φ)) (hK461 : ∀ (m : it_Me), K461 m → it_V kc it_sh0 363 461 [none, none, none, none] [] m (it_Pi Φ)) (hK494 : ∀ (m : it_Me), K494 m → it_V kc it_sh0 363 494 [none, none, none, none] [] m (it_Pi Φ)) (hK543 : ∀ (m : it_Me), K543 m → it_V kc it_sh0 363 543 [none, none, none, none] [] m (it_Pi Φ)) (hK566 : ∀ (m : it_Me), K566 m → it_V kc it_sh0 363 566 [none, none, none, none] [] m (it_Pi Φ)) (hK589 : ∀ (m : it_Me), K589 m → it_V kc it_sh0 363 589 [none, none, none, none] [] m (it_Pi Φ)) (hK622 : ∀ (m : it_Me), K622 m → it_V kc it_sh0 363 622 [none, none, none, none] [] m (it_Pi Φ)) (hK655 : ∀ (m : it_Me), K655 m → it_V kc it_sh0 363 655 [none, none, none, none] [] m (it_Pi Φ)) (hK678 : ∀ (m : it_Me), K678 m → it_V kc it_sh0 363 678 [none, none, none, none] [] m (it_Pi Φ)) (hK721 : ∀ (m : it_Me), K721 m → it_V kc it_sh0 363 721 [none, none, none, none] [] m (it_Pi Φ)) (hK764 : ∀ (m : it_Me), K764 m → it_V kc it_sh0 363 764 [none, none, none, none] [] m (it_Pi Φ)) (hK797 : ∀ (m : it_Me), K797 m → it_V kc it_sh0 363 797 [none, none, none, none] [] m (it_Pi Φ)) (hK820 : ∀ (m : it_Me), K820 m → it_V kc it_sh0 363 820 [none, none, none, none] [] m (it_Pi Φ)) (hK843 : ∀ (m : it_Me), K843 m → it_V kc it_sh0 363 843 [none, none, none, none] [] m (it_Pi Φ)) (hK876 : ∀ (m : it_Me), K876 m → it_V kc it_sh0 363 876 [none, none, none, none] [] m (it_Pi Φ)) (hK919 : ∀ (m : it_Me), K919 m → it_V kc it_sh0 363 919 [none, none, none, none] [] m (it_Pi Φ)) (hK932 : ∀ (m : it_Me), K932 m → it_V kc it_sh0 363 932 [none, none, none, none] [] m (it_Pi Φ)) (hK940 : ∀ (m : it_Me), K940 m → it_V kc it_sh0 363 940 [none, none, none, none] [] m (it_Pi Φ)) (v3 : Int32) (u1 : Int32) (u2 : Int32) (m : it_Me) (h : w_363_515 kc Φ K18 K205 K228 K251 K330 K343 K366 K389 K438 K461 K494 K543 K566 K589 K622 K655 K678 K721 K764 K797 K820 K843 K876 K919 K932 K940 v3 u1 u2 m) : it_V kc it_sh0 363 515 [some (.ref (it_K + 7)), some (.ref 0), some (.ref 66), some (.int v3)] [(.int u2), (.int u1), (.ref 0)] m (it_Pi Φ) := by
  rw [w_363_515] at h
  refine it_V.call it_cd363 it_m363 rfl it_m197 [(.ref 0), (.int u1), (.int u2)] [] rfl rfl ⟨Nat.le_of_ble_eq_true rfl, Nat.le_of_ble_eq_true rfl, Nat.le_of_ble_eq_true rfl, Nat.le_of_ble_eq_true rfl, rfl⟩ (s_197 kc u1 u2 m _ h) ?_
  rintro _ m2 ⟨r1, rfl, h⟩
  refine it_V.at (pc1 := 518) (ls1 := [some (.ref (it_K + 7)), some (.ref 0), some (.ref 66), some (.int v3)]) (st1 := [(.int r1)]) (mem1 := m2) rfl rfl rfl rfl ?_
  refine it_V.sN it_cd363 it_m363 5 (pc1 := 523) (ls1 := [some (.ref (it_K + 7)), some (.ref 0), some (.ref 66), some (.int v3)]) (st1 := [(.int (v3 + (1 : Int32))), (.ref (it_K + 7)), (.ref 66), (.int r1)]) (mem1 := m2) rfl ?_
  obtain ⟨g3, h⟩ := h
  refine it_V.kald it_cd363 it_m363 rfl (by decide) g3 ?_
  refine it_V.at (pc1 := 524) (ls1 := [some (.ref (it_K + 7)), some (.ref 0), some (.ref 66), some (.int v3)]) (st1 := [(.int ((kc 7).2 (Int32.toNatClampNeg (v3 + (1 : Int32))))), (.ref 66), (.int r1)]) (mem1 := m2) rfl rfl rfl rfl ?_
  refine it_V.sN it_cd363 it_m363 4 (pc1 := 528) (ls1 := [some (.ref (it_K + 7)), some (.ref 0), some (.ref 66), some (.int v3)]) (st1 := [(.int (v3 + (2 : Int32))), (.ref (it_K + 7)), (.int ((kc 7).2 (Int32.toNatClampNeg (v3 + (1 : Int32))))), (.ref 66), (.int r1)]) (mem1 := m2) rfl ?_
  obtain ⟨g4, h⟩ := h
  refine it_V.kald it_cd363 it_m363 rfl (by decide) g4 ?_
  refine it_V.at (pc1 := 529) (ls1 := [some (.ref (it_K + 7)), some (.ref 0), some (.ref 66), some (.int v3)]) (st1 := [(.int ((kc 7).2 (Int32.toNatClampNeg (v3 + (2 : Int32))))), (.int ((kc 7).2 (Int32.toNatClampNeg (v3 + (1 : Int32))))), (.ref 66), (.int r1)]) (mem1 := m2) rfl rfl rfl rfl ?_
  refine it_V.sN it_cd363 it_m363 1 (pc1 := (if ((kc 7).2 (Int32.toNatClampNeg (v3 + (2 : Int32)))) = 0 then 536 else 532)) (ls1 := [some (.ref (it_K + 7)), some (.ref 0), some (.ref 66), some (.int v3)]) (st1 := [(.int ((kc 7).2 (Int32.toNatClampNeg (v3 + (1 : Int32))))), (.ref 66), (.int r1)]) (mem1 := m2) rfl ?_
  refine it_V.ite (fun c5 => ?_) (fun c5 => ?_)
  · have h := h.1 c5
    refine it_V.sN it_cd363 it_m363 1 (pc1 := 537) (ls1 := [some (.ref (it_K + 7)), some (.ref 0), some (.ref 66), some (.int v3)]) (st1 := [(.int (0 : Int32)), (.int ((kc 7).2 (Int32.toNatClampNeg (v3 + (1 : Int32))))), (.ref 66), (.int r1)]) (mem1 := m2) rfl ?_
    exact s_363_537 kc Φ _ _ _ _ _ _ _ _ _ _ _ _ _ _ _ _ _ _ _ _ _ _ _ _ _ _ hK18 hK205 hK228 hK251 hK330 hK343 hK366 hK389 hK438 hK461 hK494 hK543 hK566 hK589 hK622 hK655 hK678 hK721 hK764 hK797 hK820 hK843 hK876 hK919 hK932 hK940 v3 r1 ((kc 7).2 (Int32.toNatClampNeg (v3 + (1 : Int32)))) (0 : Int32) m2 h
  · have h := h.2 c5
    refine it_V.sN it_cd363 it_m363 2 (pc1 := 537) (ls1 := [some (.ref (it_K + 7)), some (.ref 0), some (.ref 66), some (.int v3)]) (st1 := [(.int (1 : Int32)), (.int ((kc 7).2 (Int32.toNatClampNeg (v3 + (1 : Int32))))), (.ref 66), (.int r1)]) (mem1 := m2) rfl ?_
    exact s_363_537 kc Φ _ _ _ _ _ _ _ _ _ _ _ _ _ _ _ _ _ _ _ _ _ _ _ _ _ _ hK18 hK205 hK228 hK251 hK330 hK343 hK366 hK389 hK438 hK461 hK494 hK543 hK566 hK589 hK622 hK655 hK678 hK721 hK764 hK797 hK820 hK843 hK876 hK919 hK932 hK940 v3 r1 ((kc 7).2 (Int32.toNatClampNeg (v3 + (1 : Int32)))) (1 : Int32) m2 h
set_option maxRecDepth 100000 in
set_option maxHeartbeats 4000000 in
theorem s_363_18 (kc : it_Kc) (Φ : Int32 → it_Me → Prop) (K205 : it_Me → Prop) (K228 : it_Me → Prop) (K251 : it_Me → Prop) (K330 : it_Me → Prop) (K343 : it_Me → Prop) (K366 : it_Me → Prop) (K389 : it_Me → Prop) (K438 : it_Me → Prop) (K461 : it_Me → Prop) (K494 : it_Me → Prop) (K543 : it_Me → Prop) (K566 : it_Me → Prop) (K589 : it_Me → Prop) (K622 : it_Me → Prop) (K655 : it_Me → Prop) (K678 : it_Me → Prop) (K721 : it_Me → Prop) (K764 : it_Me → Prop) (K797 : it_Me → Prop) (K820 : it_Me → Prop) (K843 : it_Me → Prop) (K876 : it_Me → Prop) (K919 : it_Me → Prop) (K932 : it_Me → Prop) (K940 : it_Me → Prop) (hK205 : ∀ (m : it_Me), K205 m → it_V kc it_sh0 363 205 [none, none, none, none] [] m (it_Pi Φ)) (hK228 : ∀ (m : it_Me), K228 m → it_V kc it_sh0 363 228 [none, none, none, none] [] m (it_Pi Φ)) (hK251 : ∀ (m : it_Me), K251 m → it_V kc it_sh0 363 251 [none, none, none, none] [] m (it_Pi Φ)) (hK330 : ∀ (m : it_Me), K330 m → it_V kc it_sh0 363 330 [none, none, none, none] [] m (it_Pi Φ)) (hK343 : ∀ (m : it_Me), K343 m → it_V kc it_sh0 363 343 [none, none, none, none] [] m (it_Pi Φ)) (hK366 : ∀ (m : it_Me), K366 m → it_V kc it_sh0 363 366 [none, none, none, none] [] m (it_Pi Φ)) (hK389 : ∀ (m : it_Me), K389 m → it_V kc it_sh0 363 389 [none, none, none, none] [] m (it_Pi Φ)) (hK438 : ∀ (m : it_Me), K438 m → it_V kc it_sh0 363 438 [none, none, none, none] [] m (it_Pi Φ)) (hK461 : ∀ (m : it_Me), K461 m → it_V kc it_sh0 363 461 [none, none, none, none] [] m (it_Pi Φ)) (hK494 : ∀ (m : it_Me), K494 m → it_V kc it_sh0 363 494 [none, none, none, none] [] m (it_Pi Φ)) (hK543 : ∀ (m : it_Me), K543 m → it_V kc it_sh0 363 543 [none, none, none, none] [] m (it_Pi Φ)) (hK566 : ∀ (m : it_Me), K566 m → it_V kc it_sh0 363 566 [none, none, none, none] [] m (it_Pi Φ)) (hK589 : ∀ (m : it_Me), K589 m → it_V kc it_sh0 363 589 [none, none, none, none] [] m (it_Pi Φ)) (hK622 : ∀ (m : it_Me), K622 m → it_V kc it_sh0 363 622 [none, none, none, none] [] m (it_Pi Φ)) (hK655 : ∀ (m : it_Me), K655 m → it_V kc it_sh0 363 655 [none, none, none, none] [] m (it_Pi Φ)) (hK678 : ∀ (m : it_Me), K678 m → it_V kc it_sh0 363 678 [none, none, none, none] [] m (it_Pi Φ)) (hK721 : ∀ (m : it_Me), K721 m → it_V kc it_sh0 363 721 [none, none, none, none] [] m (it_Pi Φ)) (hK764 : ∀ (m : it_Me), K764 m → it_V kc it_sh0 363 764 [none, none, none, none] [] m (it_Pi Φ)) (hK797 : ∀ (m : it_Me), K797 m → it_V kc it_sh0 363 797 [none, none, none, none] [] m (it_Pi Φ)) (hK820 : ∀ (m : it_Me), K820 m → it_V kc it_sh0 363 820 [none, none, none, none] [] m (it_Pi Φ)) (hK843 : ∀ (m : it_Me), K843 m → it_V kc it_sh0 363 843 [none, none, none, none] [] m (it_Pi Φ)) (hK876 : ∀ (m : it_Me), K876 m → it_V kc it_sh0 363 876 [none, none, none, none] [] m (it_Pi Φ)) (hK919 : ∀ (m : it_Me), K919 m → it_V kc it_sh0 363 919 [none, none, none, none] [] m (it_Pi Φ)) (hK932 : ∀ (m : it_Me), K932 m → it_V kc it_sh0 363 932 [none, none, none, none] [] m (it_Pi Φ)) (hK940 : ∀ (m : it_Me), K940 m → it_V kc it_sh0 363 940 [none, none, none, none] [] m (it_Pi Φ)) : ∀ (n : Nat) (v3 : Int32) (m : it_Me) (h : w_363_18 kc Φ K205 K228 K251 K330 K343 K366 K389 K438 K461 K494 K543 K566 K589 K622 K655 K678 K721 K764 K797 K820 K843 K876 K919 K932 K940 n v3 m), it_V kc it_sh0 363 18 [some (.ref (it_K + 7)), some (.ref 0), some (.ref 66), some (.int v3)] [] m (it_Pi Φ) := by
  intro n
  induction n with
  | zero => intro v3 m h; exact absurd h id
  | succ n ih =>
    intro v3 m h
    rw [w_363_18] at h
    refine it_V.sN it_cd363 it_m363 6 (pc1 := (if ((Int32.ofNat (kc 7).1) - (6 : Int32)) < v3 then 940 else 27)) (ls1 := [some (.ref (it_K + 7)), some (.ref 0), some (.ref 66), some (.int v3)]) (st1 := []) (mem1 := m) rfl ?_
    refine it_V.ite (fun c1 => ?_) (fun c1 => ?_)
    · have h := h.1 c1
      refine it_V.weak (l := [none, none, none, none]) trivial ?_
      exact hK940 m h
    · have h := h.2 c1
      refine it_V.sN it_cd363 it_m363 2 (pc1 := 29) (ls1 := [some (.ref (it_K + 7)), some (.ref 0), some (.ref 66), some (.int v3)]) (st1 := [(.int v3), (.ref (it_K + 7))]) (mem1 := m) rfl ?_
      obtain ⟨g2, h⟩ := h
      refine it_V.kald it_cd363 it_m363 rfl (by decide) g2 ?_
      refine it_V.at (pc1 := 30) (ls1 := [some (.ref (it_K + 7)), some (.ref 0), some (.ref 66), some (.int v3)]) (st1 := [(.int ((kc 7).2 (Int32.toNatClampNeg v3)))]) (mem1 := m) rfl rfl rfl rfl ?_
      refine it_V.sN it_cd363 it_m363 2 (pc1 := 33) (ls1 := [some (.ref (it_K + 7)), some (.ref 0), some (.ref 66), some (.int v3)]) (st1 := [(.int (((kc 7).2 (Int32.toNatClampNeg v3)) &&& (31 : Int32)))]) (mem1 := m) rfl ?_
      refine it_V.sN it_cd363 it_m363 1 (pc1 := (if (((kc 7).2 (Int32.toNatClampNeg v3)) &&& (31 : Int32)) = (0 : Int32) then 144 else (if (((kc 7).2 (Int32.toNatClampNeg v3)) &&& (31 : Int32)) = (1 : Int32) then 207 else (if (((kc 7).2 (Int32.toNatClampNeg v3)) &&& (31 : Int32)) = (2 : Int32) then 230 else (if (((kc 7).2 (Int32.toNatClampNeg v3)) &&& (31 : Int32)) = (3 : Int32) then 253 else (if (((kc 7).2 (Int32.toNatClampNeg v3)) &&& (31 : Int32)) = (4 : Int32) then 332 else (if (((kc 7).2 (Int32.toNatClampNeg v3)) &&& (31 : Int32)) = (5 : Int32) then 345 else (if (((kc 7).2 (Int32.toNatClampNeg v3)) &&& (31 : Int32)) = (6 : Int32) then 368 else (if (((kc 7).2 (Int32.toNatClampNeg v3)) &&& (31 : Int32)) = (7 : Int32) then 391 else (if (((kc 7).2 (Int32.toNatClampNeg v3)) &&& (31 : Int32)) = (8 : Int32) then 440 else (if (((kc 7).2 (Int32.toNatClampNeg v3)) &&& (31 : Int32)) = (9 : Int32) then 463 else (if (((kc 7).2 (Int32.toNatClampNeg v3)) &&& (31 : Int32)) = (10 : Int32) then 496 else (if (((kc 7).2 (Int32.toNatClampNeg v3)) &&& (31 : Int32)) = (11 : Int32) then 545 else (if (((kc 7).2 (Int32.toNatClampNeg v3)) &&& (31 : Int32)) = (12 : Int32) then 568 else (if (((kc 7).2 (Int32.toNatClampNeg v3)) &&& (31 : Int32)) = (13 : Int32) then 591 else (if (((kc 7).2 (Int32.toNatClampNeg v3)) &&& (31 : Int32)) = (14 : Int32) then 624 else (if (((kc 7).2 (Int32.toNatClampNeg v3)) &&& (31 : Int32)) = (15 : Int32) then 657 else (if (((kc 7).2 (Int32.toNatClampNeg v3)) &&& (31 : Int32)) = (16 : Int32) then 680 else (if (((kc 7).2 (Int32.toNatClampNeg v3)) &&& (31 : Int32)) = (17 : Int32) then 723 else (if (((kc 7).2 (Int32.toNatClampNeg v3)) &&& (31 : Int32)) = (18 : Int32) then 766 else (if (((kc 7).2 (Int32.toNatClampNeg v3)) &&& (31 : Int32)) = (19 : Int32) then 799 else (if (((kc 7).2 (Int32.toNatClampNeg v3)) &&& (31 : Int32)) = (20 : Int32) then 822 else (if (((kc 7).2 (Int32.toNatClampNeg v3)) &&& (31 : Int32)) = (21 : Int32) then 845 else (if (((kc 7).2 (Int32.toNatClampNeg v3)) &&& (31 : Int32)) = (22 : Int32) then 878 else (if (((kc 7).2 (Int32.toNatClampNeg v3)) &&& (31 : Int32)) = (23 : Int32) then 921 else 934))))))))))))))))))))))))) (ls1 := [some (.ref (it_K + 7)), some (.ref 0), some (.ref 66), some (.int v3)]) (st1 := []) (mem1 := m) rfl ?_
      refine it_V.ite (fun c3 => ?_) (fun c3 => ?_)
      · have h := h.1 c3
        refine it_V.sN it_cd363 it_m363 5 (pc1 := 149) (ls1 := [some (.ref (it_K + 7)), some (.ref 0), some (.ref 66), some (.int v3)]) (st1 := [(.int (v3 + (1 : Int32))), (.ref (it_K + 7)), (.ref 0)]) (mem1 := m) rfl ?_
        obtain ⟨g4, h⟩ := h
        refine it_V.kald it_cd363 it_m363 rfl (by decide) g4 ?_
        refine it_V.at (pc1 := 150) (ls1 := [some (.ref (it_K + 7)), some (.ref 0), some (.ref 66), some (.int v3)]) (st1 := [(.int ((kc 7).2 (Int32.toNatClampNeg (v3 + (1 : Int32))))), (.ref 0)]) (mem1 := m) rfl rfl rfl rfl ?_
        refine it_V.sN it_cd363 it_m363 4 (pc1 := 154) (ls1 := [some (.ref (it_K + 7)), some (.ref 0), some (.ref 66), some (.int v3)]) (st1 := [(.int (v3 + (2 : Int32))), (.ref (it_K + 7)), (.int ((kc 7).2 (Int32.toNatClampNeg (v3 + (1 : Int32))))), (.ref 0)]) (mem1 := m) rfl ?_
        obtain ⟨g5, h⟩ := h
        refine it_V.kald it_cd363 it_m363 rfl (by decide) g5 ?_
        refine it_V.at (pc1 := 155) (ls1 := [some (.ref (it_K + 7)), some (.ref 0), some (.ref 66), some (.int v3)]) (st1 := [(.int ((kc 7).2 (Int32.toNatClampNeg (v3 + (2 : Int32))))), (.int ((kc 7).2 (Int32.toNatClampNeg (v3 + (1 : Int32))))), (.ref 0)]) (mem1 := m) rfl rfl rfl rfl ?_
        refine it_V.sN it_cd363 it_m363 4 (pc1 := 159) (ls1 := [some (.ref (it_K + 7)), some (.ref 0), some (.ref 66), some (.int v3)]) (st1 := [(.int (v3 + (3 : Int32))), (.ref (it_K + 7)), (.int ((kc 7).2 (Int32.toNatClampNeg (v3 + (2 : Int32))))), (.int ((kc 7).2 (Int32.toNatClampNeg (v3 + (1 : Int32))))), (.ref 0)]) (mem1 := m) rfl ?_
        obtain ⟨g6, h⟩ := h
        refine it_V.kald it_cd363 it_m363 rfl (by decide) g6 ?_
        refine it_V.at (pc1 := 160) (ls1 := [some (.ref (it_K + 7)), some (.ref 0), some (.ref 66), some (.int v3)]) (st1 := [(.int ((kc 7).2 (Int32.toNatClampNeg (v3 + (3 : Int32))))), (.int ((kc 7).2 (Int32.toNatClampNeg (v3 + (2 : Int32))))), (.int ((kc 7).2 (Int32.toNatClampNeg (v3 + (1 : Int32))))), (.ref 0)]) (mem1 := m) rfl rfl rfl rfl ?_
        refine it_V.sN it_cd363 it_m363 4 (pc1 := 164) (ls1 := [some (.ref (it_K + 7)), some (.ref 0), some (.ref 66), some (.int v3)]) (st1 := [(.int (v3 + (4 : Int32))), (.ref (it_K + 7)), (.int ((kc 7).2 (Int32.toNatClampNeg (v3 + (3 : Int32))))), (.int ((kc 7).2 (Int32.toNatClampNeg (v3 + (2 : Int32))))), (.int ((kc 7).2 (Int32.toNatClampNeg (v3 + (1 : Int32))))), (.ref 0)]) (mem1 := m) rfl ?_
        obtain ⟨g7, h⟩ := h
        refine it_V.kald it_cd363 it_m363 rfl (by decide) g7 ?_
        refine it_V.at (pc1 := 165) (ls1 := [some (.ref (it_K + 7)), some (.ref 0), some (.ref 66), some (.int v3)]) (st1 := [(.int ((kc 7).2 (Int32.toNatClampNeg (v3 + (4 : Int32))))), (.int ((kc 7).2 (Int32.toNatClampNeg (v3 + (3 : Int32))))), (.int ((kc 7).2 (Int32.toNatClampNeg (v3 + (2 : Int32))))), (.int ((kc 7).2 (Int32.toNatClampNeg (v3 + (1 : Int32))))), (.ref 0)]) (mem1 := m) rfl rfl rfl rfl ?_
        refine it_V.sN it_cd363 it_m363 4 (pc1 := 169) (ls1 := [some (.ref (it_K + 7)), some (.ref 0), some (.ref 66), some (.int v3)]) (st1 := [(.int (v3 + (5 : Int32))), (.ref (it_K + 7)), (.int ((kc 7).2 (Int32.toNatClampNeg (v3 + (4 : Int32))))), (.int ((kc 7).2 (Int32.toNatClampNeg (v3 + (3 : Int32))))), (.int ((kc 7).2 (Int32.toNatClampNeg (v3 + (2 : Int32))))), (.int ((kc 7).2 (Int32.toNatClampNeg (v3 + (1 : Int32))))), (.ref 0)]) (mem1 := m) rfl ?_
        obtain ⟨g8, h⟩ := h
        refine it_V.kald it_cd363 it_m363 rfl (by decide) g8 ?_
        refine it_V.at (pc1 := 170) (ls1 := [some (.ref (it_K + 7)), some (.ref 0), some (.ref 66), some (.int v3)]) (st1 := [(.int ((kc 7).2 (Int32.toNatClampNeg (v3 + (5 : Int32))))), (.int ((kc 7).2 (Int32.toNatClampNeg (v3 + (4 : Int32))))), (.int ((kc 7).2 (Int32.toNatClampNeg (v3 + (3 : Int32))))), (.int ((kc 7).2 (Int32.toNatClampNeg (v3 + (2 : Int32))))), (.int ((kc 7).2 (Int32.toNatClampNeg (v3 + (1 : Int32))))), (.ref 0)]) (mem1 := m) rfl rfl rfl rfl ?_
        refine it_V.call it_cd363 it_m363 rfl it_m187 [(.ref 0), (.int ((kc 7).2 (Int32.toNatClampNeg (v3 + (1 : Int32))))), (.int ((kc 7).2 (Int32.toNatClampNeg (v3 + (2 : Int32))))), (.int ((kc 7).2 (Int32.toNatClampNeg (v3 + (3 : Int32))))), (.int ((kc 7).2 (Int32.toNatClampNeg (v3 + (4 : Int32))))), (.int ((kc 7).2 (Int32.toNatClampNeg (v3 + (5 : Int32)))))] [] rfl rfl ⟨Nat.le_of_ble_eq_true rfl, Nat.le_of_ble_eq_true rfl, Nat.le_of_ble_eq_true rfl, Nat.le_of_ble_eq_true rfl, rfl⟩ (s_187 kc ((kc 7).2 (Int32.toNatClampNeg (v3 + (1 : Int32)))) ((kc 7).2 (Int32.toNatClampNeg (v3 + (2 : Int32)))) ((kc 7).2 (Int32.toNatClampNeg (v3 + (3 : Int32)))) ((kc 7).2 (Int32.toNatClampNeg (v3 + (4 : Int32)))) ((kc 7).2 (Int32.toNatClampNeg (v3 + (5 : Int32)))) m _ h) ?_
        rintro _ m10 ⟨r9, rfl, h⟩
        refine it_V.at (pc1 := 173) (ls1 := [some (.ref (it_K + 7)), some (.ref 0), some (.ref 66), some (.int v3)]) (st1 := [(.int r9)]) (mem1 := m10) rfl rfl rfl rfl ?_
        refine it_V.sN it_cd363 it_m363 5 (pc1 := 178) (ls1 := [some (.ref (it_K + 7)), some (.ref 0), some (.ref 66), some (.int v3)]) (st1 := [(.int (v3 + (1 : Int32))), (.ref (it_K + 7)), (.ref 66), (.int r9)]) (mem1 := m10) rfl ?_
        obtain ⟨g11, h⟩ := h
        refine it_V.kald it_cd363 it_m363 rfl (by decide) g11 ?_
        refine it_V.at (pc1 := 179) (ls1 := [some (.ref (it_K + 7)), some (.ref 0), some (.ref 66), some (.int v3)]) (st1 := [(.int ((kc 7).2 (Int32.toNatClampNeg (v3 + (1 : Int32))))), (.ref 66), (.int r9)]) (mem1 := m10) rfl rfl rfl rfl ?_
        refine it_V.sN it_cd363 it_m363 4 (pc1 := 183) (ls1 := [some (.ref (it_K + 7)), some (.ref 0), some (.ref 66), some (.int v3)]) (st1 := [(.int (v3 + (2 : Int32))), (.ref (it_K + 7)), (.int ((kc 7).2 (Int32.toNatClampNeg (v3 + (1 : Int32))))), (.ref 66), (.int r9)]) (mem1 := m10) rfl ?_
        obtain ⟨g12, h⟩ := h
        refine it_V.kald it_cd363 it_m363 rfl (by decide) g12 ?_
        refine it_V.at (pc1 := 184) (ls1 := [some (.ref (it_K + 7)), some (.ref 0), some (.ref 66), some (.int v3)]) (st1 := [(.int ((kc 7).2 (Int32.toNatClampNeg (v3 + (2 : Int32))))), (.int ((kc 7).2 (Int32.toNatClampNeg (v3 + (1 : Int32))))), (.ref 66), (.int r9)]) (mem1 := m10) rfl rfl rfl rfl ?_
        refine it_V.sN it_cd363 it_m363 4 (pc1 := 188) (ls1 := [some (.ref (it_K + 7)), some (.ref 0), some (.ref 66), some (.int v3)]) (st1 := [(.int (v3 + (3 : Int32))), (.ref (it_K + 7)), (.int ((kc 7).2 (Int32.toNatClampNeg (v3 + (2 : Int32))))), (.int ((kc 7).2 (Int32.toNatClampNeg (v3 + (1 : Int32))))), (.ref 66), (.int r9)]) (mem1 := m10) rfl ?_
        obtain ⟨g13, h⟩ := h
        refine it_V.kald it_cd363 it_m363 rfl (by decide) g13 ?_
        refine it_V.at (pc1 := 189) (ls1 := [some (.ref (it_K + 7)), some (.ref 0), some (.ref 66), some (.int v3)]) (st1 := [(.int ((kc 7).2 (Int32.toNatClampNeg (v3 + (3 : Int32))))), (.int ((kc 7).2 (Int32.toNatClampNeg (v3 + (2 : Int32))))), (.int ((kc 7).2 (Int32.toNatClampNeg (v3 + (1 : Int32))))), (.ref 66), (.int r9)]) (mem1 := m10) rfl rfl rfl rfl ?_
        refine it_V.sN it_cd363 it_m363 4 (pc1 := 193) (ls1 := [some (.ref (it_K + 7)), some (.ref 0), some (.ref 66), some (.int v3)]) (st1 := [(.int (v3 + (4 : Int32))), (.ref (it_K + 7)), (.int ((kc 7).2 (Int32.toNatClampNeg (v3 + (3 : Int32))))), (.int ((kc 7).2 (Int32.toNatClampNeg (v3 + (2 : Int32))))), (.int ((kc 7).2 (Int32.toNatClampNeg (v3 + (1 : Int32))))), (.ref 66), (.int r9)]) (mem1 := m10) rfl ?_
        obtain ⟨g14, h⟩ := h
        refine it_V.kald it_cd363 it_m363 rfl (by decide) g14 ?_
        refine it_V.at (pc1 := 194) (ls1 := [some (.ref (it_K + 7)), some (.ref 0), some (.ref 66), some (.int v3)]) (st1 := [(.int ((kc 7).2 (Int32.toNatClampNeg (v3 + (4 : Int32))))), (.int ((kc 7).2 (Int32.toNatClampNeg (v3 + (3 : Int32))))), (.int ((kc 7).2 (Int32.toNatClampNeg (v3 + (2 : Int32))))), (.int ((kc 7).2 (Int32.toNatClampNeg (v3 + (1 : Int32))))), (.ref 66), (.int r9)]) (mem1 := m10) rfl rfl rfl rfl ?_
        refine it_V.sN it_cd363 it_m363 4 (pc1 := 198) (ls1 := [some (.ref (it_K + 7)), some (.ref 0), some (.ref 66), some (.int v3)]) (st1 := [(.int (v3 + (5 : Int32))), (.ref (it_K + 7)), (.int ((kc 7).2 (Int32.toNatClampNeg (v3 + (4 : Int32))))), (.int ((kc 7).2 (Int32.toNatClampNeg (v3 + (3 : Int32))))), (.int ((kc 7).2 (Int32.toNatClampNeg (v3 + (2 : Int32))))), (.int ((kc 7).2 (Int32.toNatClampNeg (v3 + (1 : Int32))))), (.ref 66), (.int r9)]) (mem1 := m10) rfl ?_
        obtain ⟨g15, h⟩ := h
        refine it_V.kald it_cd363 it_m363 rfl (by decide) g15 ?_
        refine it_V.at (pc1 := 199) (ls1 := [some (.ref (it_K + 7)), some (.ref 0), some (.ref 66), some (.int v3)]) (st1 := [(.int ((kc 7).2 (Int32.toNatClampNeg (v3 + (5 : Int32))))), (.int ((kc 7).2 (Int32.toNatClampNeg (v3 + (4 : Int32))))), (.int ((kc 7).2 (Int32.toNatClampNeg (v3 + (3 : Int32))))), (.int ((kc 7).2 (Int32.toNatClampNeg (v3 + (2 : Int32))))), (.int ((kc 7).2 (Int32.toNatClampNeg (v3 + (1 : Int32))))), (.ref 66), (.int r9)]) (mem1 := m10) rfl rfl rfl rfl ?_
        refine it_V.call it_cd363 it_m363 rfl it_m223 [(.ref 66), (.int ((kc 7).2 (Int32.toNatClampNeg (v3 + (1 : Int32))))), (.int ((kc 7).2 (Int32.toNatClampNeg (v3 + (2 : Int32))))), (.int ((kc 7).2 (Int32.toNatClampNeg (v3 + (3 : Int32))))), (.int ((kc 7).2 (Int32.toNatClampNeg (v3 + (4 : Int32))))), (.int ((kc 7).2 (Int32.toNatClampNeg (v3 + (5 : Int32)))))] [(.int r9)] rfl rfl ⟨Nat.le_of_ble_eq_true rfl, Nat.le_of_ble_eq_true rfl, Nat.le_of_ble_eq_true rfl, Nat.le_of_ble_eq_true rfl, rfl⟩ (s_223 kc ((kc 7).2 (Int32.toNatClampNeg (v3 + (1 : Int32)))) ((kc 7).2 (Int32.toNatClampNeg (v3 + (2 : Int32)))) ((kc 7).2 (Int32.toNatClampNeg (v3 + (3 : Int32)))) ((kc 7).2 (Int32.toNatClampNeg (v3 + (4 : Int32)))) ((kc 7).2 (Int32.toNatClampNeg (v3 + (5 : Int32)))) m10 _ h) ?_
        rintro _ m17 ⟨r16, rfl, h⟩
        refine it_V.at (pc1 := 202) (ls1 := [some (.ref (it_K + 7)), some (.ref 0), some (.ref 66), some (.int v3)]) (st1 := [(.int r16), (.int r9)]) (mem1 := m17) rfl rfl rfl rfl ?_
        refine it_V.sN it_cd363 it_m363 1 (pc1 := (if r9 = r16 then 934 else 205)) (ls1 := [some (.ref (it_K + 7)), some (.ref 0), some (.ref 66), some (.int v3)]) (st1 := []) (mem1 := m17) rfl ?_
        refine it_V.ite (fun c18 => ?_) (fun c18 => ?_)
        · have h := h.1 c18
          exact s_363_934 kc Φ _ _ _ _ _ _ _ _ _ _ _ _ _ _ _ _ _ _ _ _ _ _ _ _ _ _ ih hK205 hK228 hK251 hK330 hK343 hK366 hK389 hK438 hK461 hK494 hK543 hK566 hK589 hK622 hK655 hK678 hK721 hK764 hK797 hK820 hK843 hK876 hK919 hK932 hK940 v3 m17 h
        · have h := h.2 c18
          refine it_V.weak (l := [none, none, none, none]) trivial ?_
          exact hK205 m17 h
      · have h := h.2 c3
        refine it_V.ite (fun c19 => ?_) (fun c19 => ?_)
        · have h := h.1 c19
          refine it_V.sN it_cd363 it_m363 5 (pc1 := 212) (ls1 := [some (.ref (it_K + 7)), some (.ref 0), some (.ref 66), some (.int v3)]) (st1 := [(.int (v3 + (1 : Int32))), (.ref (it_K + 7)), (.ref 0)]) (mem1 := m) rfl ?_
          obtain ⟨g20, h⟩ := h
          refine it_V.kald it_cd363 it_m363 rfl (by decide) g20 ?_
          refine it_V.at (pc1 := 213) (ls1 := [some (.ref (it_K + 7)), some (.ref 0), some (.ref 66), some (.int v3)]) (st1 := [(.int ((kc 7).2 (Int32.toNatClampNeg (v3 + (1 : Int32))))), (.ref 0)]) (mem1 := m) rfl rfl rfl rfl ?_
          refine it_V.call it_cd363 it_m363 rfl it_m188 [(.ref 0), (.int ((kc 7).2 (Int32.toNatClampNeg (v3 + (1 : Int32)))))] [] rfl rfl ⟨Nat.le_of_ble_eq_true rfl, Nat.le_of_ble_eq_true rfl, Nat.le_of_ble_eq_true rfl, Nat.le_of_ble_eq_true rfl, rfl⟩ (s_188 kc ((kc 7).2 (Int32.toNatClampNeg (v3 + (1 : Int32)))) m _ h) ?_
          rintro _ m22 ⟨r21, rfl, h⟩
          refine it_V.at (pc1 := 216) (ls1 := [some (.ref (it_K + 7)), some (.ref 0), some (.ref 66), some (.int v3)]) (st1 := [(.int r21)]) (mem1 := m22) rfl rfl rfl rfl ?_
          refine it_V.sN it_cd363 it_m363 5 (pc1 := 221) (ls1 := [some (.ref (it_K + 7)), some (.ref 0), some (.ref 66), some (.int v3)]) (st1 := [(.int (v3 + (1 : Int32))), (.ref (it_K + 7)), (.ref 66), (.int r21)]) (mem1 := m22) rfl ?_
          obtain ⟨g23, h⟩ := h
          refine it_V.kald it_cd363 it_m363 rfl (by decide) g23 ?_
          refine it_V.at (pc1 := 222) (ls1 := [some (.ref (it_K + 7)), some (.ref 0), some (.ref 66), some (.int v3)]) (st1 := [(.int ((kc 7).2 (Int32.toNatClampNeg (v3 + (1 : Int32))))), (.ref 66), (.int r21)]) (mem1 := m22) rfl rfl rfl rfl ?_
          refine it_V.call it_cd363 it_m363 rfl it_m225 [(.ref 66), (.int ((kc 7).2 (Int32.toNatClampNeg (v3 + (1 : Int32)))))] [(.int r21)] rfl rfl ⟨Nat.le_of_ble_eq_true rfl, Nat.le_of_ble_eq_true rfl, Nat.le_of_ble_eq_true rfl, Nat.le_of_ble_eq_true rfl, rfl⟩ (s_225 kc ((kc 7).2 (Int32.toNatClampNeg (v3 + (1 : Int32)))) m22 _ h) ?_
          rintro _ m25 ⟨r24, rfl, h⟩
          refine it_V.at (pc1 := 225) (ls1 := [some (.ref (it_K + 7)), some (.ref 0), some (.ref 66), some (.int v3)]) (st1 := [(.int r24), (.int r21)]) (mem1 := m25) rfl rfl rfl rfl ?_
          refine it_V.sN it_cd363 it_m363 1 (pc1 := (if r21 = r24 then 934 else 228)) (ls1 := [some (.ref (it_K + 7)), some (.ref 0), some (.ref 66), some (.int v3)]) (st1 := []) (mem1 := m25) rfl ?_
          refine it_V.ite (fun c26 => ?_) (fun c26 => ?_)
          · have h := h.1 c26
            exact s_363_934 kc Φ _ _ _ _ _ _ _ _ _ _ _ _ _ _ _ _ _ _ _ _ _ _ _ _ _ _ ih hK205 hK228 hK251 hK330 hK343 hK366 hK389 hK438 hK461 hK494 hK543 hK566 hK589 hK622 hK655 hK678 hK721 hK764 hK797 hK820 hK843 hK876 hK919 hK932 hK940 v3 m25 h
          · have h := h.2 c26
            refine it_V.weak (l := [none, none, none, none]) trivial ?_
            exact hK228 m25 h
        · have h := h.2 c19
          refine it_V.ite (fun c27 => ?_) (fun c27 => ?_)
          · have h := h.1 c27
            refine it_V.sN it_cd363 it_m363 5 (pc1 := 235) (ls1 := [some (.ref (it_K + 7)), some (.ref 0), some (.ref 66), some (.int v3)]) (st1 := [(.int (v3 + (1 : Int32))), (.ref (it_K + 7)), (.ref 0)]) (mem1 := m) rfl ?_
            obtain ⟨g28, h⟩ := h
            refine it_V.kald it_cd363 it_m363 rfl (by decide) g28 ?_
            refine it_V.at (pc1 := 236) (ls1 := [some (.ref (it_K + 7)), some (.ref 0), some (.ref 66), some (.int v3)]) (st1 := [(.int ((kc 7).2 (Int32.toNatClampNeg (v3 + (1 : Int32))))), (.ref 0)]) (mem1 := m) rfl rfl rfl rfl ?_
            refine it_V.call it_cd363 it_m363 rfl it_m189 [(.ref 0), (.int ((kc 7).2 (Int32.toNatClampNeg (v3 + (1 : Int32)))))] [] rfl rfl ⟨Nat.le_of_ble_eq_true rfl, Nat.le_of_ble_eq_true rfl, Nat.le_of_ble_eq_true rfl, Nat.le_of_ble_eq_true rfl, rfl⟩ (s_189 kc ((kc 7).2 (Int32.toNatClampNeg (v3 + (1 : Int32)))) m _ h) ?_
            rintro _ m30 ⟨r29, rfl, h⟩
            refine it_V.at (pc1 := 239) (ls1 := [some (.ref (it_K + 7)), some (.ref 0), some (.ref 66), some (.int v3)]) (st1 := [(.int r29)]) (mem1 := m30) rfl rfl rfl rfl ?_
            refine it_V.sN it_cd363 it_m363 5 (pc1 := 244) (ls1 := [some (.ref (it_K + 7)), some (.ref 0), some (.ref 66), some (.int v3)]) (st1 := [(.int (v3 + (1 : Int32))), (.ref (it_K + 7)), (.ref 66), (.int r29)]) (mem1 := m30) rfl ?_
            obtain ⟨g31, h⟩ := h
            refine it_V.kald it_cd363 it_m363 rfl (by decide) g31 ?_
            refine it_V.at (pc1 := 245) (ls1 := [some (.ref (it_K + 7)), some (.ref 0), some (.ref 66), some (.int v3)]) (st1 := [(.int ((kc 7).2 (Int32.toNatClampNeg (v3 + (1 : Int32))))), (.ref 66), (.int r29)]) (mem1 := m30) rfl rfl rfl rfl ?_
            refine it_V.call it_cd363 it_m363 rfl it_m226 [(.ref 66), (.int ((kc 7).2 (Int32.toNatClampNeg (v3 + (1 : Int32)))))] [(.int r29)] rfl rfl ⟨Nat.le_of_ble_eq_true rfl, Nat.le_of_ble_eq_true rfl, Nat.le_of_ble_eq_true rfl, Nat.le_of_ble_eq_true rfl, rfl⟩ (s_226 kc ((kc 7).2 (Int32.toNatClampNeg (v3 + (1 : Int32)))) m30 _ h) ?_
            rintro _ m33 ⟨r32, rfl, h⟩
            refine it_V.at (pc1 := 248) (ls1 := [some (.ref (it_K + 7)), some (.ref 0), some (.ref 66), some (.int v3)]) (st1 := [(.int r32), (.int r29)]) (mem1 := m33) rfl rfl rfl rfl ?_
            refine it_V.sN it_cd363 it_m363 1 (pc1 := (if r29 = r32 then 934 else 251)) (ls1 := [some (.ref (it_K + 7)), some (.ref 0), some (.ref 66), some (.int v3)]) (st1 := []) (mem1 := m33) rfl ?_
            refine it_V.ite (fun c34 => ?_) (fun c34 => ?_)
            · have h := h.1 c34
              exact s_363_934 kc Φ _ _ _ _ _ _ _ _ _ _ _ _ _ _ _ _ _ _ _ _ _ _ _ _ _ _ ih hK205 hK228 hK251 hK330 hK343 hK366 hK389 hK438 hK461 hK494 hK543 hK566 hK589 hK622 hK655 hK678 hK721 hK764 hK797 hK820 hK843 hK876 hK919 hK932 hK940 v3 m33 h
            · have h := h.2 c34
              refine it_V.weak (l := [none, none, none, none]) trivial ?_
              exact hK251 m33 h
          · have h := h.2 c27
            refine it_V.ite (fun c35 => ?_) (fun c35 => ?_)
            · have h := h.1 c35
              refine it_V.sN it_cd363 it_m363 5 (pc1 := 258) (ls1 := [some (.ref (it_K + 7)), some (.ref 0), some (.ref 66), some (.int v3)]) (st1 := [(.int (v3 + (1 : Int32))), (.ref (it_K + 7)), (.ref 0)]) (mem1 := m) rfl ?_
              obtain ⟨g36, h⟩ := h
              refine it_V.kald it_cd363 it_m363 rfl (by decide) g36 ?_
              refine it_V.at (pc1 := 259) (ls1 := [some (.ref (it_K + 7)), some (.ref 0), some (.ref 66), some (.int v3)]) (st1 := [(.int ((kc 7).2 (Int32.toNatClampNeg (v3 + (1 : Int32))))), (.ref 0)]) (mem1 := m) rfl rfl rfl rfl ?_
              refine it_V.sN it_cd363 it_m363 4 (pc1 := 263) (ls1 := [some (.ref (it_K + 7)), some (.ref 0), some (.ref 66), some (.int v3)]) (st1 := [(.int (v3 + (2 : Int32))), (.ref (it_K + 7)), (.int ((kc 7).2 (Int32.toNatClampNeg (v3 + (1 : Int32))))), (.ref 0)]) (mem1 := m) rfl ?_
              obtain ⟨g37, h⟩ := h
              refine it_V.kald it_cd363 it_m363 rfl (by decide) g37 ?_
              refine it_V.at (pc1 := 264) (ls1 := [some (.ref (it_K + 7)), some (.ref 0), some (.ref 66), some (.int v3)]) (st1 := [(.int ((kc 7).2 (Int32.toNatClampNeg (v3 + (2 : Int32))))), (.int ((kc 7).2 (Int32.toNatClampNeg (v3 + (1 : Int32))))), (.ref 0)]) (mem1 := m) rfl rfl rfl rfl ?_
              refine it_V.sN it_cd363 it_m363 4 (pc1 := 268) (ls1 := [some (.ref (it_K + 7)), some (.ref 0), some (.ref 66), some (.int v3)]) (st1 := [(.int (v3 + (3 : Int32))), (.ref (it_K + 7)), (.int ((kc 7).2 (Int32.toNatClampNeg (v3 + (2 : Int32))))), (.int ((kc 7).2 (Int32.toNatClampNeg (v3 + (1 : Int32))))), (.ref 0)]) (mem1 := m) rfl ?_
              obtain ⟨g38, h⟩ := h
              refine it_V.kald it_cd363 it_m363 rfl (by decide) g38 ?_
              refine it_V.at (pc1 := 269) (ls1 := [some (.ref (it_K + 7)), some (.ref 0), some (.ref 66), some (.int v3)]) (st1 := [(.int ((kc 7).2 (Int32.toNatClampNeg (v3 + (3 : Int32))))), (.int ((kc 7).2 (Int32.toNatClampNeg (v3 + (2 : Int32))))), (.int ((kc 7).2 (Int32.toNatClampNeg (v3 + (1 : Int32))))), (.ref 0)]) (mem1 := m) rfl rfl rfl rfl ?_
              refine it_V.sN it_cd363 it_m363 4 (pc1 := 273) (ls1 := [some (.ref (it_K + 7)), some (.ref 0), some (.ref 66), some (.int v3)]) (st1 := [(.int (v3 + (4 : Int32))), (.ref (it_K + 7)), (.int ((kc 7).2 (Int32.toNatClampNeg (v3 + (3 : Int32))))), (.int ((kc 7).2 (Int32.toNatClampNeg (v3 + (2 : Int32))))), (.int ((kc 7).2 (Int32.toNatClampNeg (v3 + (1 : Int32))))), (.ref 0)]) (mem1 := m) rfl ?_
              obtain ⟨g39, h⟩ := h
              refine it_V.kald it_cd363 it_m363 rfl (by decide) g39 ?_
              refine it_V.at (pc1 := 274) (ls1 := [some (.ref (it_K + 7)), some (.ref 0), some (.ref 66), some (.int v3)]) (st1 := [(.int ((kc 7).2 (Int32.toNatClampNeg (v3 + (4 : Int32))))), (.int ((kc 7).2 (Int32.toNatClampNeg (v3 + (3 : Int32))))), (.int ((kc 7).2 (Int32.toNatClampNeg (v3 + (2 : Int32))))), (.int ((kc 7).2 (Int32.toNatClampNeg (v3 + (1 : Int32))))), (.ref 0)]) (mem1 := m) rfl rfl rfl rfl ?_
              refine it_V.sN it_cd363 it_m363 1 (pc1 := (if ((kc 7).2 (Int32.toNatClampNeg (v3 + (4 : Int32)))) = 0 then 281 else 277)) (ls1 := [some (.ref (it_K + 7)), some (.ref 0), some (.ref 66), some (.int v3)]) (st1 := [(.int ((kc 7).2 (Int32.toNatClampNeg (v3 + (3 : Int32))))), (.int ((kc 7).2 (Int32.toNatClampNeg (v3 + (2 : Int32))))), (.int ((kc 7).2 (Int32.toNatClampNeg (v3 + (1 : Int32))))), (.ref 0)]) (mem1 := m) rfl ?_
              refine it_V.ite (fun c40 => ?_) (fun c40 => ?_)
              · have h := h.1 c40
                refine it_V.sN it_cd363 it_m363 1 (pc1 := 282) (ls1 := [some (.ref (it_K + 7)), some (.ref 0), some (.ref 66), some (.int v3)]) (st1 := [(.int (0 : Int32)), (.int ((kc 7).2 (Int32.toNatClampNeg (v3 + (3 : Int32))))), (.int ((kc 7).2 (Int32.toNatClampNeg (v3 + (2 : Int32))))), (.int ((kc 7).2 (Int32.toNatClampNeg (v3 + (1 : Int32))))), (.ref 0)]) (mem1 := m) rfl ?_
                exact s_363_282 kc Φ _ _ _ _ _ _ _ _ _ _ _ _ _ _ _ _ _ _ _ _ _ _ _ _ _ _ ih hK205 hK228 hK251 hK330 hK343 hK366 hK389 hK438 hK461 hK494 hK543 hK566 hK589 hK622 hK655 hK678 hK721 hK764 hK797 hK820 hK843 hK876 hK919 hK932 hK940 v3 ((kc 7).2 (Int32.toNatClampNeg (v3 + (1 : Int32)))) ((kc 7).2 (Int32.toNatClampNeg (v3 + (2 : Int32)))) ((kc 7).2 (Int32.toNatClampNeg (v3 + (3 : Int32)))) (0 : Int32) m h
              · have h := h.2 c40
                refine it_V.sN it_cd363 it_m363 2 (pc1 := 282) (ls1 := [some (.ref (it_K + 7)), some (.ref 0), some (.ref 66), some (.int v3)]) (st1 := [(.int (1 : Int32)), (.int ((kc 7).2 (Int32.toNatClampNeg (v3 + (3 : Int32))))), (.int ((kc 7).2 (Int32.toNatClampNeg (v3 + (2 : Int32))))), (.int ((kc 7).2 (Int32.toNatClampNeg (v3 + (1 : Int32))))), (.ref 0)]) (mem1 := m) rfl ?_
                exact s_363_282 kc Φ _ _ _ _ _ _ _ _ _ _ _ _ _ _ _ _ _ _ _ _ _ _ _ _ _ _ ih hK205 hK228 hK251 hK330 hK343 hK366 hK389 hK438 hK461 hK494 hK543 hK566 hK589 hK622 hK655 hK678 hK721 hK764 hK797 hK820 hK843 hK876 hK919 hK932 hK940 v3 ((kc 7).2 (Int32.toNatClampNeg (v3 + (1 : Int32)))) ((kc 7).2 (Int32.toNatClampNeg (v3 + (2 : Int32)))) ((kc 7).2 (Int32.toNatClampNeg (v3 + (3 : Int32)))) (1 : Int32) m h
            · have h := h.2 c35
              refine it_V.ite (fun c41 => ?_) (fun c41 => ?_)
              · have h := h.1 c41
                refine it_V.sN it_cd363 it_m363 1 (pc1 := 333) (ls1 := [some (.ref (it_K + 7)), some (.ref 0), some (.ref 66), some (.int v3)]) (st1 := [(.ref 0)]) (mem1 := m) rfl ?_
                refine it_V.call it_cd363 it_m363 rfl it_m191 [(.ref 0)] [] rfl rfl ⟨Nat.le_of_ble_eq_true rfl, Nat.le_of_ble_eq_true rfl, Nat.le_of_ble_eq_true rfl, Nat.le_of_ble_eq_true rfl, rfl⟩ (s_191 kc m _ h) ?_
                rintro _ m43 ⟨r42, rfl, h⟩
                refine it_V.at (pc1 := 336) (ls1 := [some (.ref (it_K + 7)), some (.ref 0), some (.ref 66), some (.int v3)]) (st1 := [(.int r42)]) (mem1 := m43) rfl rfl rfl rfl ?_
                refine it_V.sN it_cd363 it_m363 1 (pc1 := 337) (ls1 := [some (.ref (it_K + 7)), some (.ref 0), some (.ref 66), some (.int v3)]) (st1 := [(.ref 66), (.int r42)]) (mem1 := m43) rfl ?_
                refine it_V.call it_cd363 it_m363 rfl it_m227 [(.ref 66)] [(.int r42)] rfl rfl ⟨Nat.le_of_ble_eq_true rfl, Nat.le_of_ble_eq_true rfl, Nat.le_of_ble_eq_true rfl, Nat.le_of_ble_eq_true rfl, rfl⟩ (s_227 kc m43 _ h) ?_
                rintro _ m45 ⟨r44, rfl, h⟩
                refine it_V.at (pc1 := 340) (ls1 := [some (.ref (it_K + 7)), some (.ref 0), some (.ref 66), some (.int v3)]) (st1 := [(.int r44), (.int r42)]) (mem1 := m45) rfl rfl rfl rfl ?_
                refine it_V.sN it_cd363 it_m363 1 (pc1 := (if r42 = r44 then 934 else 343)) (ls1 := [some (.ref (it_K + 7)), some (.ref 0), some (.ref 66), some (.int v3)]) (st1 := []) (mem1 := m45) rfl ?_
                refine it_V.ite (fun c46 => ?_) (fun c46 => ?_)
                · have h := h.1 c46
                  exact s_363_934 kc Φ _ _ _ _ _ _ _ _ _ _ _ _ _ _ _ _ _ _ _ _ _ _ _ _ _ _ ih hK205 hK228 hK251 hK330 hK343 hK366 hK389 hK438 hK461 hK494 hK543 hK566 hK589 hK622 hK655 hK678 hK721 hK764 hK797 hK820 hK843 hK876 hK919 hK932 hK940 v3 m45 h
                · have h := h.2 c46
                  refine it_V.weak (l := [none, none, none, none]) trivial ?_
                  exact hK343 m45 h
              · have h := h.2 c41
                refine it_V.ite (fun c47 => ?_) (fun c47 => ?_)
                · have h := h.1 c47
                  refine it_V.sN it_cd363 it_m363 5 (pc1 := 350) (ls1 := [some (.ref (it_K + 7)), some (.ref 0), some (.ref 66), some (.int v3)]) (st1 := [(.int (v3 + (1 : Int32))), (.ref (it_K + 7)), (.ref 0)]) (mem1 := m) rfl ?_
                  obtain ⟨g48, h⟩ := h
                  refine it_V.kald it_cd363 it_m363 rfl (by decide) g48 ?_
                  refine it_V.at (pc1 := 351) (ls1 := [some (.ref (it_K + 7)), some (.ref 0), some (.ref 66), some (.int v3)]) (st1 := [(.int ((kc 7).2 (Int32.toNatClampNeg (v3 + (1 : Int32))))), (.ref 0)]) (mem1 := m) rfl rfl rfl rfl ?_
                  refine it_V.call it_cd363 it_m363 rfl it_m192 [(.ref 0), (.int ((kc 7).2 (Int32.toNatClampNeg (v3 + (1 : Int32)))))] [] rfl rfl ⟨Nat.le_of_ble_eq_true rfl, Nat.le_of_ble_eq_true rfl, Nat.le_of_ble_eq_true rfl, Nat.le_of_ble_eq_true rfl, rfl⟩ (s_192 kc ((kc 7).2 (Int32.toNatClampNeg (v3 + (1 : Int32)))) m _ h) ?_
                  rintro _ m50 ⟨r49, rfl, h⟩
                  refine it_V.at (pc1 := 354) (ls1 := [some (.ref (it_K + 7)), some (.ref 0), some (.ref 66), some (.int v3)]) (st1 := [(.int r49)]) (mem1 := m50) rfl rfl rfl rfl ?_
                  refine it_V.sN it_cd363 it_m363 5 (pc1 := 359) (ls1 := [some (.ref (it_K + 7)), some (.ref 0), some (.ref 66), some (.int v3)]) (st1 := [(.int (v3 + (1 : Int32))), (.ref (it_K + 7)), (.ref 66), (.int r49)]) (mem1 := m50) rfl ?_
                  obtain ⟨g51, h⟩ := h
                  refine it_V.kald it_cd363 it_m363 rfl (by decide) g51 ?_
                  refine it_V.at (pc1 := 360) (ls1 := [some (.ref (it_K + 7)), some (.ref 0), some (.ref 66), some (.int v3)]) (st1 := [(.int ((kc 7).2 (Int32.toNatClampNeg (v3 + (1 : Int32))))), (.ref 66), (.int r49)]) (mem1 := m50) rfl rfl rfl rfl ?_
                  refine it_V.call it_cd363 it_m363 rfl it_m229 [(.ref 66), (.int ((kc 7).2 (Int32.toNatClampNeg (v3 + (1 : Int32)))))] [(.int r49)] rfl rfl ⟨Nat.le_of_ble_eq_true rfl, Nat.le_of_ble_eq_true rfl, Nat.le_of_ble_eq_true rfl, Nat.le_of_ble_eq_true rfl, rfl⟩ (s_229 kc ((kc 7).2 (Int32.toNatClampNeg (v3 + (1 : Int32)))) m50 _ h) ?_
                  rintro _ m53 ⟨r52, rfl, h⟩
                  refine it_V.at (pc1 := 363) (ls1 := [some (.ref (it_K + 7)), some (.ref 0), some (.ref 66), some (.int v3)]) (st1 := [(.int r52), (.int r49)]) (mem1 := m53) rfl rfl rfl rfl ?_
                  refine it_V.sN it_cd363 it_m363 1 (pc1 := (if r49 = r52 then 934 else 366)) (ls1 := [some (.ref (it_K + 7)), some (.ref 0), some (.ref 66), some (.int v3)]) (st1 := []) (mem1 := m53) rfl ?_
                  refine it_V.ite (fun c54 => ?_) (fun c54 => ?_)
                  · have h := h.1 c54
                    exact s_363_934 kc Φ _ _ _ _ _ _ _ _ _ _ _ _ _ _ _ _ _ _ _ _ _ _ _ _ _ _ ih hK205 hK228 hK251 hK330 hK343 hK366 hK389 hK438 hK461 hK494 hK543 hK566 hK589 hK622 hK655 hK678 hK721 hK764 hK797 hK820 hK843 hK876 hK919 hK932 hK940 v3 m53 h
                  · have h := h.2 c54
                    refine it_V.weak (l := [none, none, none, none]) trivial ?_
                    exact hK366 m53 h
                · have h := h.2 c47
                  refine it_V.ite (fun c55 => ?_) (fun c55 => ?_)
                  · have h := h.1 c55
                    refine it_V.sN it_cd363 it_m363 5 (pc1 := 373) (ls1 := [some (.ref (it_K + 7)), some (.ref 0), some (.ref 66), some (.int v3)]) (st1 := [(.int (v3 + (1 : Int32))), (.ref (it_K + 7)), (.ref 0)]) (mem1 := m) rfl ?_
                    obtain ⟨g56, h⟩ := h
                    refine it_V.kald it_cd363 it_m363 rfl (by decide) g56 ?_
                    refine it_V.at (pc1 := 374) (ls1 := [some (.ref (it_K + 7)), some (.ref 0), some (.ref 66), some (.int v3)]) (st1 := [(.int ((kc 7).2 (Int32.toNatClampNeg (v3 + (1 : Int32))))), (.ref 0)]) (mem1 := m) rfl rfl rfl rfl ?_
                    refine it_V.call it_cd363 it_m363 rfl it_m193 [(.ref 0), (.int ((kc 7).2 (Int32.toNatClampNeg (v3 + (1 : Int32)))))] [] rfl rfl ⟨Nat.le_of_ble_eq_true rfl, Nat.le_of_ble_eq_true rfl, Nat.le_of_ble_eq_true rfl, Nat.le_of_ble_eq_true rfl, rfl⟩ (s_193 kc ((kc 7).2 (Int32.toNatClampNeg (v3 + (1 : Int32)))) m _ h) ?_
                    rintro _ m58 ⟨r57, rfl, h⟩
                    refine it_V.at (pc1 := 377) (ls1 := [some (.ref (it_K + 7)), some (.ref 0), some (.ref 66), some (.int v3)]) (st1 := [(.int r57)]) (mem1 := m58) rfl rfl rfl rfl ?_
                    refine it_V.sN it_cd363 it_m363 5 (pc1 := 382) (ls1 := [some (.ref (it_K + 7)), some (.ref 0), some (.ref 66), some (.int v3)]) (st1 := [(.int (v3 + (1 : Int32))), (.ref (it_K + 7)), (.ref 66), (.int r57)]) (mem1 := m58) rfl ?_
                    obtain ⟨g59, h⟩ := h
                    refine it_V.kald it_cd363 it_m363 rfl (by decide) g59 ?_
                    refine it_V.at (pc1 := 383) (ls1 := [some (.ref (it_K + 7)), some (.ref 0), some (.ref 66), some (.int v3)]) (st1 := [(.int ((kc 7).2 (Int32.toNatClampNeg (v3 + (1 : Int32))))), (.ref 66), (.int r57)]) (mem1 := m58) rfl rfl rfl rfl ?_
                    refine it_V.call it_cd363 it_m363 rfl it_m317 [(.ref 66), (.int ((kc 7).2 (Int32.toNatClampNeg (v3 + (1 : Int32)))))] [(.int r57)] rfl rfl ⟨Nat.le_of_ble_eq_true rfl, Nat.le_of_ble_eq_true rfl, Nat.le_of_ble_eq_true rfl, Nat.le_of_ble_eq_true rfl, rfl⟩ (s_317 kc ((kc 7).2 (Int32.toNatClampNeg (v3 + (1 : Int32)))) m58 _ h) ?_
                    rintro _ m61 ⟨r60, rfl, h⟩
                    refine it_V.at (pc1 := 386) (ls1 := [some (.ref (it_K + 7)), some (.ref 0), some (.ref 66), some (.int v3)]) (st1 := [(.int r60), (.int r57)]) (mem1 := m61) rfl rfl rfl rfl ?_
                    refine it_V.sN it_cd363 it_m363 1 (pc1 := (if r57 = r60 then 934 else 389)) (ls1 := [some (.ref (it_K + 7)), some (.ref 0), some (.ref 66), some (.int v3)]) (st1 := []) (mem1 := m61) rfl ?_
                    refine it_V.ite (fun c62 => ?_) (fun c62 => ?_)
                    · have h := h.1 c62
                      exact s_363_934 kc Φ _ _ _ _ _ _ _ _ _ _ _ _ _ _ _ _ _ _ _ _ _ _ _ _ _ _ ih hK205 hK228 hK251 hK330 hK343 hK366 hK389 hK438 hK461 hK494 hK543 hK566 hK589 hK622 hK655 hK678 hK721 hK764 hK797 hK820 hK843 hK876 hK919 hK932 hK940 v3 m61 h
                    · have h := h.2 c62
                      refine it_V.weak (l := [none, none, none, none]) trivial ?_
                      exact hK389 m61 h
                  · have h := h.2 c55
                    refine it_V.ite (fun c63 => ?_) (fun c63 => ?_)
                    · have h := h.1 c63
                      refine it_V.sN it_cd363 it_m363 5 (pc1 := 396) (ls1 := [some (.ref (it_K + 7)), some (.ref 0), some (.ref 66), some (.int v3)]) (st1 := [(.int (v3 + (1 : Int32))), (.ref (it_K + 7)), (.ref 0)]) (mem1 := m) rfl ?_
                      obtain ⟨g64, h⟩ := h
                      refine it_V.kald it_cd363 it_m363 rfl (by decide) g64 ?_
                      refine it_V.at (pc1 := 397) (ls1 := [some (.ref (it_K + 7)), some (.ref 0), some (.ref 66), some (.int v3)]) (st1 := [(.int ((kc 7).2 (Int32.toNatClampNeg (v3 + (1 : Int32))))), (.ref 0)]) (mem1 := m) rfl rfl rfl rfl ?_
                      refine it_V.sN it_cd363 it_m363 4 (pc1 := 401) (ls1 := [some (.ref (it_K + 7)), some (.ref 0), some (.ref 66), some (.int v3)]) (st1 := [(.int (v3 + (2 : Int32))), (.ref (it_K + 7)), (.int ((kc 7).2 (Int32.toNatClampNeg (v3 + (1 : Int32))))), (.ref 0)]) (mem1 := m) rfl ?_
                      obtain ⟨g65, h⟩ := h
                      refine it_V.kald it_cd363 it_m363 rfl (by decide) g65 ?_
                      refine it_V.at (pc1 := 402) (ls1 := [some (.ref (it_K + 7)), some (.ref 0), some (.ref 66), some (.int v3)]) (st1 := [(.int ((kc 7).2 (Int32.toNatClampNeg (v3 + (2 : Int32))))), (.int ((kc 7).2 (Int32.toNatClampNeg (v3 + (1 : Int32))))), (.ref 0)]) (mem1 := m) rfl rfl rfl rfl ?_
                      refine it_V.sN it_cd363 it_m363 1 (pc1 := (if ((kc 7).2 (Int32.toNatClampNeg (v3 + (2 : Int32)))) = 0 then 409 else 405)) (ls1 := [some (.ref (it_K + 7)), some (.ref 0), some (.ref 66), some (.int v3)]) (st1 := [(.int ((kc 7).2 (Int32.toNatClampNeg (v3 + (1 : Int32))))), (.ref 0)]) (mem1 := m) rfl ?_
                      refine it_V.ite (fun c66 => ?_) (fun c66 => ?_)
                      · have h := h.1 c66
                        refine it_V.sN it_cd363 it_m363 1 (pc1 := 410) (ls1 := [some (.ref (it_K + 7)), some (.ref 0), some (.ref 66), some (.int v3)]) (st1 := [(.int (0 : Int32)), (.int ((kc 7).2 (Int32.toNatClampNeg (v3 + (1 : Int32))))), (.ref 0)]) (mem1 := m) rfl ?_
                        exact s_363_410 kc Φ _ _ _ _ _ _ _ _ _ _ _ _ _ _ _ _ _ _ _ _ _ _ _ _ _ _ ih hK205 hK228 hK251 hK330 hK343 hK366 hK389 hK438 hK461 hK494 hK543 hK566 hK589 hK622 hK655 hK678 hK721 hK764 hK797 hK820 hK843 hK876 hK919 hK932 hK940 v3 ((kc 7).2 (Int32.toNatClampNeg (v3 + (1 : Int32)))) (0 : Int32) m h
                      · have h := h.2 c66
                        refine it_V.sN it_cd363 it_m363 2 (pc1 := 410) (ls1 := [some (.ref (it_K + 7)), some (.ref 0), some (.ref 66), some (.int v3)]) (st1 := [(.int (1 : Int32)), (.int ((kc 7).2 (Int32.toNatClampNeg (v3 + (1 : Int32))))), (.ref 0)]) (mem1 := m) rfl ?_
                        exact s_363_410 kc Φ _ _ _ _ _ _ _ _ _ _ _ _ _ _ _ _ _ _ _ _ _ _ _ _ _ _ ih hK205 hK228 hK251 hK330 hK343 hK366 hK389 hK438 hK461 hK494 hK543 hK566 hK589 hK622 hK655 hK678 hK721 hK764 hK797 hK820 hK843 hK876 hK919 hK932 hK940 v3 ((kc 7).2 (Int32.toNatClampNeg (v3 + (1 : Int32)))) (1 : Int32) m h
                    · have h := h.2 c63
                      refine it_V.ite (fun c67 => ?_) (fun c67 => ?_)
                      · have h := h.1 c67
                        refine it_V.sN it_cd363 it_m363 5 (pc1 := 445) (ls1 := [some (.ref (it_K + 7)), some (.ref 0), some (.ref 66), some (.int v3)]) (st1 := [(.int (v3 + (1 : Int32))), (.ref (it_K + 7)), (.ref 0)]) (mem1 := m) rfl ?_
                        obtain ⟨g68, h⟩ := h
                        refine it_V.kald it_cd363 it_m363 rfl (by decide) g68 ?_
                        refine it_V.at (pc1 := 446) (ls1 := [some (.ref (it_K + 7)), some (.ref 0), some (.ref 66), some (.int v3)]) (st1 := [(.int ((kc 7).2 (Int32.toNatClampNeg (v3 + (1 : Int32))))), (.ref 0)]) (mem1 := m) rfl rfl rfl rfl ?_
                        refine it_V.call it_cd363 it_m363 rfl it_m195 [(.ref 0), (.int ((kc 7).2 (Int32.toNatClampNeg (v3 + (1 : Int32)))))] [] rfl rfl ⟨Nat.le_of_ble_eq_true rfl, Nat.le_of_ble_eq_true rfl, Nat.le_of_ble_eq_true rfl, Nat.le_of_ble_eq_true rfl, rfl⟩ (s_195 kc ((kc 7).2 (Int32.toNatClampNeg (v3 + (1 : Int32)))) m _ h) ?_
                        rintro _ m70 ⟨r69, rfl, h⟩
                        refine it_V.at (pc1 := 449) (ls1 := [some (.ref (it_K + 7)), some (.ref 0), some (.ref 66), some (.int v3)]) (st1 := [(.int r69)]) (mem1 := m70) rfl rfl rfl rfl ?_
                        refine it_V.sN it_cd363 it_m363 5 (pc1 := 454) (ls1 := [some (.ref (it_K + 7)), some (.ref 0), some (.ref 66), some (.int v3)]) (st1 := [(.int (v3 + (1 : Int32))), (.ref (it_K + 7)), (.ref 66), (.int r69)]) (mem1 := m70) rfl ?_
                        obtain ⟨g71, h⟩ := h
                        refine it_V.kald it_cd363 it_m363 rfl (by decide) g71 ?_
                        refine it_V.at (pc1 := 455) (ls1 := [some (.ref (it_K + 7)), some (.ref 0), some (.ref 66), some (.int v3)]) (st1 := [(.int ((kc 7).2 (Int32.toNatClampNeg (v3 + (1 : Int32))))), (.ref 66), (.int r69)]) (mem1 := m70) rfl rfl rfl rfl ?_
                        refine it_V.call it_cd363 it_m363 rfl it_m343 [(.ref 66), (.int ((kc 7).2 (Int32.toNatClampNeg (v3 + (1 : Int32)))))] [(.int r69)] rfl rfl ⟨Nat.le_of_ble_eq_true rfl, Nat.le_of_ble_eq_true rfl, Nat.le_of_ble_eq_true rfl, Nat.le_of_ble_eq_true rfl, rfl⟩ (s_343 kc ((kc 7).2 (Int32.toNatClampNeg (v3 + (1 : Int32)))) m70 _ h) ?_
                        rintro _ m73 ⟨r72, rfl, h⟩
                        refine it_V.at (pc1 := 458) (ls1 := [some (.ref (it_K + 7)), some (.ref 0), some (.ref 66), some (.int v3)]) (st1 := [(.int r72), (.int r69)]) (mem1 := m73) rfl rfl rfl rfl ?_
                        refine it_V.sN it_cd363 it_m363 1 (pc1 := (if r69 = r72 then 934 else 461)) (ls1 := [some (.ref (it_K + 7)), some (.ref 0), some (.ref 66), some (.int v3)]) (st1 := []) (mem1 := m73) rfl ?_
                        refine it_V.ite (fun c74 => ?_) (fun c74 => ?_)
                        · have h := h.1 c74
                          exact s_363_934 kc Φ _ _ _ _ _ _ _ _ _ _ _ _ _ _ _ _ _ _ _ _ _ _ _ _ _ _ ih hK205 hK228 hK251 hK330 hK343 hK366 hK389 hK438 hK461 hK494 hK543 hK566 hK589 hK622 hK655 hK678 hK721 hK764 hK797 hK820 hK843 hK876 hK919 hK932 hK940 v3 m73 h
                        · have h := h.2 c74
                          refine it_V.weak (l := [none, none, none, none]) trivial ?_
                          exact hK461 m73 h
                      · have h := h.2 c67
                        refine it_V.ite (fun c75 => ?_) (fun c75 => ?_)
                        · have h := h.1 c75
                          refine it_V.sN it_cd363 it_m363 5 (pc1 := 468) (ls1 := [some (.ref (it_K + 7)), some (.ref 0), some (.ref 66), some (.int v3)]) (st1 := [(.int (v3 + (1 : Int32))), (.ref (it_K + 7)), (.ref 0)]) (mem1 := m) rfl ?_
                          obtain ⟨g76, h⟩ := h
                          refine it_V.kald it_cd363 it_m363 rfl (by decide) g76 ?_
                          refine it_V.at (pc1 := 469) (ls1 := [some (.ref (it_K + 7)), some (.ref 0), some (.ref 66), some (.int v3)]) (st1 := [(.int ((kc 7).2 (Int32.toNatClampNeg (v3 + (1 : Int32))))), (.ref 0)]) (mem1 := m) rfl rfl rfl rfl ?_
                          refine it_V.sN it_cd363 it_m363 4 (pc1 := 473) (ls1 := [some (.ref (it_K + 7)), some (.ref 0), some (.ref 66), some (.int v3)]) (st1 := [(.int (v3 + (2 : Int32))), (.ref (it_K + 7)), (.int ((kc 7).2 (Int32.toNatClampNeg (v3 + (1 : Int32))))), (.ref 0)]) (mem1 := m) rfl ?_
                          obtain ⟨g77, h⟩ := h
                          refine it_V.kald it_cd363 it_m363 rfl (by decide) g77 ?_
                          refine it_V.at (pc1 := 474) (ls1 := [some (.ref (it_K + 7)), some (.ref 0), some (.ref 66), some (.int v3)]) (st1 := [(.int ((kc 7).2 (Int32.toNatClampNeg (v3 + (2 : Int32))))), (.int ((kc 7).2 (Int32.toNatClampNeg (v3 + (1 : Int32))))), (.ref 0)]) (mem1 := m) rfl rfl rfl rfl ?_
                          refine it_V.call it_cd363 it_m363 rfl it_m196 [(.ref 0), (.int ((kc 7).2 (Int32.toNatClampNeg (v3 + (1 : Int32))))), (.int ((kc 7).2 (Int32.toNatClampNeg (v3 + (2 : Int32)))))] [] rfl rfl ⟨Nat.le_of_ble_eq_true rfl, Nat.le_of_ble_eq_true rfl, Nat.le_of_ble_eq_true rfl, Nat.le_of_ble_eq_true rfl, rfl⟩ (s_196 kc ((kc 7).2 (Int32.toNatClampNeg (v3 + (1 : Int32)))) ((kc 7).2 (Int32.toNatClampNeg (v3 + (2 : Int32)))) m _ h) ?_
                          rintro _ m79 ⟨r78, rfl, h⟩
                          refine it_V.at (pc1 := 477) (ls1 := [some (.ref (it_K + 7)), some (.ref 0), some (.ref 66), some (.int v3)]) (st1 := [(.int r78)]) (mem1 := m79) rfl rfl rfl rfl ?_
                          refine it_V.sN it_cd363 it_m363 5 (pc1 := 482) (ls1 := [some (.ref (it_K + 7)), some (.ref 0), some (.ref 66), some (.int v3)]) (st1 := [(.int (v3 + (1 : Int32))), (.ref (it_K + 7)), (.ref 66), (.int r78)]) (mem1 := m79) rfl ?_
                          obtain ⟨g80, h⟩ := h
                          refine it_V.kald it_cd363 it_m363 rfl (by decide) g80 ?_
                          refine it_V.at (pc1 := 483) (ls1 := [some (.ref (it_K + 7)), some (.ref 0), some (.ref 66), some (.int v3)]) (st1 := [(.int ((kc 7).2 (Int32.toNatClampNeg (v3 + (1 : Int32))))), (.ref 66), (.int r78)]) (mem1 := m79) rfl rfl rfl rfl ?_
                          refine it_V.sN it_cd363 it_m363 4 (pc1 := 487) (ls1 := [some (.ref (it_K + 7)), some (.ref 0), some (.ref 66), some (.int v3)]) (st1 := [(.int (v3 + (2 : Int32))), (.ref (it_K + 7)), (.int ((kc 7).2 (Int32.toNatClampNeg (v3 + (1 : Int32))))), (.ref 66), (.int r78)]) (mem1 := m79) rfl ?_
                          obtain ⟨g81, h⟩ := h
                          refine it_V.kald it_cd363 it_m363 rfl (by decide) g81 ?_
                          refine it_V.at (pc1 := 488) (ls1 := [some (.ref (it_K + 7)), some (.ref 0), some (.ref 66), some (.int v3)]) (st1 := [(.int ((kc 7).2 (Int32.toNatClampNeg (v3 + (2 : Int32))))), (.int ((kc 7).2 (Int32.toNatClampNeg (v3 + (1 : Int32))))), (.ref 66), (.int r78)]) (mem1 := m79) rfl rfl rfl rfl ?_
                          refine it_V.call it_cd363 it_m363 rfl it_m344 [(.ref 66), (.int ((kc 7).2 (Int32.toNatClampNeg (v3 + (1 : Int32))))), (.int ((kc 7).2 (Int32.toNatClampNeg (v3 + (2 : Int32)))))] [(.int r78)] rfl rfl ⟨Nat.le_of_ble_eq_true rfl, Nat.le_of_ble_eq_true rfl, Nat.le_of_ble_eq_true rfl, Nat.le_of_ble_eq_true rfl, rfl⟩ (s_344 kc ((kc 7).2 (Int32.toNatClampNeg (v3 + (1 : Int32)))) ((kc 7).2 (Int32.toNatClampNeg (v3 + (2 : Int32)))) m79 _ h) ?_
                          rintro _ m83 ⟨r82, rfl, h⟩
                          refine it_V.at (pc1 := 491) (ls1 := [some (.ref (it_K + 7)), some (.ref 0), some (.ref 66), some (.int v3)]) (st1 := [(.int r82), (.int r78)]) (mem1 := m83) rfl rfl rfl rfl ?_
                          refine it_V.sN it_cd363 it_m363 1 (pc1 := (if r78 = r82 then 934 else 494)) (ls1 := [some (.ref (it_K + 7)), some (.ref 0), some (.ref 66), some (.int v3)]) (st1 := []) (mem1 := m83) rfl ?_
                          refine it_V.ite (fun c84 => ?_) (fun c84 => ?_)
                          · have h := h.1 c84
                            exact s_363_934 kc Φ _ _ _ _ _ _ _ _ _ _ _ _ _ _ _ _ _ _ _ _ _ _ _ _ _ _ ih hK205 hK228 hK251 hK330 hK343 hK366 hK389 hK438 hK461 hK494 hK543 hK566 hK589 hK622 hK655 hK678 hK721 hK764 hK797 hK820 hK843 hK876 hK919 hK932 hK940 v3 m83 h
                          · have h := h.2 c84
                            refine it_V.weak (l := [none, none, none, none]) trivial ?_
                            exact hK494 m83 h
                        · have h := h.2 c75
                          refine it_V.ite (fun c85 => ?_) (fun c85 => ?_)
                          · have h := h.1 c85
                            refine it_V.sN it_cd363 it_m363 5 (pc1 := 501) (ls1 := [some (.ref (it_K + 7)), some (.ref 0), some (.ref 66), some (.int v3)]) (st1 := [(.int (v3 + (1 : Int32))), (.ref (it_K + 7)), (.ref 0)]) (mem1 := m) rfl ?_
                            obtain ⟨g86, h⟩ := h
                            refine it_V.kald it_cd363 it_m363 rfl (by decide) g86 ?_
                            refine it_V.at (pc1 := 502) (ls1 := [some (.ref (it_K + 7)), some (.ref 0), some (.ref 66), some (.int v3)]) (st1 := [(.int ((kc 7).2 (Int32.toNatClampNeg (v3 + (1 : Int32))))), (.ref 0)]) (mem1 := m) rfl rfl rfl rfl ?_
                            refine it_V.sN it_cd363 it_m363 4 (pc1 := 506) (ls1 := [some (.ref (it_K + 7)), some (.ref 0), some (.ref 66), some (.int v3)]) (st1 := [(.int (v3 + (2 : Int32))), (.ref (it_K + 7)), (.int ((kc 7).2 (Int32.toNatClampNeg (v3 + (1 : Int32))))), (.ref 0)]) (mem1 := m) rfl ?_
                            obtain ⟨g87, h⟩ := h
                            refine it_V.kald it_cd363 it_m363 rfl (by decide) g87 ?_
                            refine it_V.at (pc1 := 507) (ls1 := [some (.ref (it_K + 7)), some (.ref 0), some (.ref 66), some (.int v3)]) (st1 := [(.int ((kc 7).2 (Int32.toNatClampNeg (v3 + (2 : Int32))))), (.int ((kc 7).2 (Int32.toNatClampNeg (v3 + (1 : Int32))))), (.ref 0)]) (mem1 := m) rfl rfl rfl rfl ?_
                            refine it_V.sN it_cd363 it_m363 1 (pc1 := (if ((kc 7).2 (Int32.toNatClampNeg (v3 + (2 : Int32)))) = 0 then 514 else 510)) (ls1 := [some (.ref (it_K + 7)), some (.ref 0), some (.ref 66), some (.int v3)]) (st1 := [(.int ((kc 7).2 (Int32.toNatClampNeg (v3 + (1 : Int32))))), (.ref 0)]) (mem1 := m) rfl ?_
                            refine it_V.ite (fun c88 => ?_) (fun c88 => ?_)
                            · have h := h.1 c88
                              refine it_V.sN it_cd363 it_m363 1 (pc1 := 515) (ls1 := [some (.ref (it_K + 7)), some (.ref 0), some (.ref 66), some (.int v3)]) (st1 := [(.int (0 : Int32)), (.int ((kc 7).2 (Int32.toNatClampNeg (v3 + (1 : Int32))))), (.ref 0)]) (mem1 := m) rfl ?_
                              exact s_363_515 kc Φ _ _ _ _ _ _ _ _ _ _ _ _ _ _ _ _ _ _ _ _ _ _ _ _ _ _ ih hK205 hK228 hK251 hK330 hK343 hK366 hK389 hK438 hK461 hK494 hK543 hK566 hK589 hK622 hK655 hK678 hK721 hK764 hK797 hK820 hK843 hK876 hK919 hK932 hK940 v3 ((kc 7).2 (Int32.toNatClampNeg (v3 + (1 : Int32)))) (0 : Int32) m h
                            · have h := h.2 c88
                              refine it_V.sN it_cd363 it_m363 2 (pc1 := 515) (ls1 := [some (.ref (it_K + 7)), some (.ref 0), some (.ref 66), some (.int v3)]) (st1 := [(.int (1 : Int32)), (.int ((kc 7).2 (Int32.toNatClampNeg (v3 + (1 : Int32))))), (.ref 0)]) (mem1 := m) rfl ?_
                              exact s_363_515 kc Φ _ _ _ _ _ _ _ _ _ _ _ _ _ _ _ _ _ _ _ _ _ _ _ _ _ _ ih hK205 hK228 hK251 hK330 hK343 hK366 hK389 hK438 hK461 hK494 hK543 hK566 hK589 hK622 hK655 hK678 hK721 hK764 hK797 hK820 hK843 hK876 hK919 hK932 hK940 v3 ((kc 7).2 (Int32.toNatClampNeg (v3 + (1 : Int32)))) (1 : Int32) m h
                          · have h := h.2 c85
                            refine it_V.ite (fun c89 => ?_) (fun c89 => ?_)
                            · have h := h.1 c89
                              refine it_V.sN it_cd363 it_m363 5 (pc1 := 550) (ls1 := [some (.ref (it_K + 7)), some (.ref 0), some (.ref 66), some (.int v3)]) (st1 := [(.int (v3 + (1 : Int32))), (.ref (it_K + 7)), (.ref 0)]) (mem1 := m) rfl ?_
                              obtain ⟨g90, h⟩ := h
                              refine it_V.kald it_cd363 it_m363 rfl (by decide) g90 ?_
                              refine it_V.at (pc1 := 551) (ls1 := [some (.ref (it_K + 7)), some (.ref 0), some (.ref 66), some (.int v3)]) (st1 := [(.int ((kc 7).2 (Int32.toNatClampNeg (v3 + (1 : Int32))))), (.ref 0)]) (mem1 := m) rfl rfl rfl rfl ?_
                              refine it_V.call it_cd363 it_m363 rfl it_m198 [(.ref 0), (.int ((kc 7).2 (Int32.toNatClampNeg (v3 + (1 : Int32)))))] [] rfl rfl ⟨Nat.le_of_ble_eq_true rfl, Nat.le_of_ble_eq_true rfl, Nat.le_of_ble_eq_true rfl, Nat.le_of_ble_eq_true rfl, rfl⟩ (s_198 kc ((kc 7).2 (Int32.toNatClampNeg (v3 + (1 : Int32)))) m _ h) ?_
                              rintro _ m92 ⟨r91, rfl, h⟩
                              refine it_V.at (pc1 := 554) (ls1 := [some (.ref (it_K + 7)), some (.ref 0), some (.ref 66), some (.int v3)]) (st1 := [(.int r91)]) (mem1 := m92) rfl rfl rfl rfl ?_
                              refine it_V.sN it_cd363 it_m363 5 (pc1 := 559) (ls1 := [some (.ref (it_K + 7)), some (.ref 0), some (.ref 66), some (.int v3)]) (st1 := [(.int (v3 + (1 : Int32))), (.ref (it_K + 7)), (.ref 66), (.int r91)]) (mem1 := m92) rfl ?_
                              obtain ⟨g93, h⟩ := h
                              refine it_V.kald it_cd363 it_m363 rfl (by decide) g93 ?_
                              refine it_V.at (pc1 := 560) (ls1 := [some (.ref (it_K + 7)), some (.ref 0), some (.ref 66), some (.int v3)]) (st1 := [(.int ((kc 7).2 (Int32.toNatClampNeg (v3 + (1 : Int32))))), (.ref 66), (.int r91)]) (mem1 := m92) rfl rfl rfl rfl ?_
                              refine it_V.call it_cd363 it_m363 rfl it_m346 [(.ref 66), (.int ((kc 7).2 (Int32.toNatClampNeg (v3 + (1 : Int32)))))] [(.int r91)] rfl rfl ⟨Nat.le_of_ble_eq_true rfl, Nat.le_of_ble_eq_true rfl, Nat.le_of_ble_eq_true rfl, Nat.le_of_ble_eq_true rfl, rfl⟩ (s_346 kc ((kc 7).2 (Int32.toNatClampNeg (v3 + (1 : Int32)))) m92 _ h) ?_
                              rintro _ m95 ⟨r94, rfl, h⟩
                              refine it_V.at (pc1 := 563) (ls1 := [some (.ref (it_K + 7)), some (.ref 0), some (.ref 66), some (.int v3)]) (st1 := [(.int r94), (.int r91)]) (mem1 := m95) rfl rfl rfl rfl ?_
                              refine it_V.sN it_cd363 it_m363 1 (pc1 := (if r91 = r94 then 934 else 566)) (ls1 := [some (.ref (it_K + 7)), some (.ref 0), some (.ref 66), some (.int v3)]) (st1 := []) (mem1 := m95) rfl ?_
                              refine it_V.ite (fun c96 => ?_) (fun c96 => ?_)
                              · have h := h.1 c96
                                exact s_363_934 kc Φ _ _ _ _ _ _ _ _ _ _ _ _ _ _ _ _ _ _ _ _ _ _ _ _ _ _ ih hK205 hK228 hK251 hK330 hK343 hK366 hK389 hK438 hK461 hK494 hK543 hK566 hK589 hK622 hK655 hK678 hK721 hK764 hK797 hK820 hK843 hK876 hK919 hK932 hK940 v3 m95 h
                              · have h := h.2 c96
                                refine it_V.weak (l := [none, none, none, none]) trivial ?_
                                exact hK566 m95 h
                            · have h := h.2 c89
                              refine it_V.ite (fun c97 => ?_) (fun c97 => ?_)
                              · have h := h.1 c97
                                refine it_V.sN it_cd363 it_m363 5 (pc1 := 573) (ls1 := [some (.ref (it_K + 7)), some (.ref 0), some (.ref 66), some (.int v3)]) (st1 := [(.int (v3 + (1 : Int32))), (.ref (it_K + 7)), (.ref 0)]) (mem1 := m) rfl ?_
                                obtain ⟨g98, h⟩ := h
                                refine it_V.kald it_cd363 it_m363 rfl (by decide) g98 ?_
                                refine it_V.at (pc1 := 574) (ls1 := [some (.ref (it_K + 7)), some (.ref 0), some (.ref 66), some (.int v3)]) (st1 := [(.int ((kc 7).2 (Int32.toNatClampNeg (v3 + (1 : Int32))))), (.ref 0)]) (mem1 := m) rfl rfl rfl rfl ?_
                                refine it_V.call it_cd363 it_m363 rfl it_m199 [(.ref 0), (.int ((kc 7).2 (Int32.toNatClampNeg (v3 + (1 : Int32)))))] [] rfl rfl ⟨Nat.le_of_ble_eq_true rfl, Nat.le_of_ble_eq_true rfl, Nat.le_of_ble_eq_true rfl, Nat.le_of_ble_eq_true rfl, rfl⟩ (s_199 kc ((kc 7).2 (Int32.toNatClampNeg (v3 + (1 : Int32)))) m _ h) ?_
                                rintro _ m100 ⟨r99, rfl, h⟩
                                refine it_V.at (pc1 := 577) (ls1 := [some (.ref (it_K + 7)), some (.ref 0), some (.ref 66), some (.int v3)]) (st1 := [(.int r99)]) (mem1 := m100) rfl rfl rfl rfl ?_
                                refine it_V.sN it_cd363 it_m363 5 (pc1 := 582) (ls1 := [some (.ref (it_K + 7)), some (.ref 0), some (.ref 66), some (.int v3)]) (st1 := [(.int (v3 + (1 : Int32))), (.ref (it_K + 7)), (.ref 66), (.int r99)]) (mem1 := m100) rfl ?_
                                obtain ⟨g101, h⟩ := h
                                refine it_V.kald it_cd363 it_m363 rfl (by decide) g101 ?_
                                refine it_V.at (pc1 := 583) (ls1 := [some (.ref (it_K + 7)), some (.ref 0), some (.ref 66), some (.int v3)]) (st1 := [(.int ((kc 7).2 (Int32.toNatClampNeg (v3 + (1 : Int32))))), (.ref 66), (.int r99)]) (mem1 := m100) rfl rfl rfl rfl ?_
                                refine it_V.call it_cd363 it_m363 rfl it_m347 [(.ref 66), (.int ((kc 7).2 (Int32.toNatClampNeg (v3 + (1 : Int32)))))] [(.int r99)] rfl rfl ⟨Nat.le_of_ble_eq_true rfl, Nat.le_of_ble_eq_true rfl, Nat.le_of_ble_eq_true rfl, Nat.le_of_ble_eq_true rfl, rfl⟩ (s_347 kc ((kc 7).2 (Int32.toNatClampNeg (v3 + (1 : Int32)))) m100 _ h) ?_
                                rintro _ m103 ⟨r102, rfl, h⟩
                                refine it_V.at (pc1 := 586) (ls1 := [some (.ref (it_K + 7)), some (.ref 0), some (.ref 66), some (.int v3)]) (st1 := [(.int r102), (.int r99)]) (mem1 := m103) rfl rfl rfl rfl ?_
                                refine it_V.sN it_cd363 it_m363 1 (pc1 := (if r99 = r102 then 934 else 589)) (ls1 := [some (.ref (it_K + 7)), some (.ref 0), some (.ref 66), some (.int v3)]) (st1 := []) (mem1 := m103) rfl ?_
                                refine it_V.ite (fun c104 => ?_) (fun c104 => ?_)
                                · have h := h.1 c104
                                  exact s_363_934 kc Φ _ _ _ _ _ _ _ _ _ _ _ _ _ _ _ _ _ _ _ _ _ _ _ _ _ _ ih hK205 hK228 hK251 hK330 hK343 hK366 hK389 hK438 hK461 hK494 hK543 hK566 hK589 hK622 hK655 hK678 hK721 hK764 hK797 hK820 hK843 hK876 hK919 hK932 hK940 v3 m103 h
                                · have h := h.2 c104
                                  refine it_V.weak (l := [none, none, none, none]) trivial ?_
                                  exact hK589 m103 h
                              · have h := h.2 c97
                                refine it_V.ite (fun c105 => ?_) (fun c105 => ?_)
                                · have h := h.1 c105
                                  refine it_V.sN it_cd363 it_m363 5 (pc1 := 596) (ls1 := [some (.ref (it_K + 7)), some (.ref 0), some (.ref 66), some (.int v3)]) (st1 := [(.int (v3 + (1 : Int32))), (.ref (it_K + 7)), (.ref 0)]) (mem1 := m) rfl ?_
                                  obtain ⟨g106, h⟩ := h
                                  refine it_V.kald it_cd363 it_m363 rfl (by decide) g106 ?_
                                  refine it_V.at (pc1 := 597) (ls1 := [some (.ref (it_K + 7)), some (.ref 0), some (.ref 66), some (.int v3)]) (st1 := [(.int ((kc 7).2 (Int32.toNatClampNeg (v3 + (1 : Int32))))), (.ref 0)]) (mem1 := m) rfl rfl rfl rfl ?_
                                  refine it_V.sN it_cd363 it_m363 4 (pc1 := 601) (ls1 := [some (.ref (it_K + 7)), some (.ref 0), some (.ref 66), some (.int v3)]) (st1 := [(.int (v3 + (2 : Int32))), (.ref (it_K + 7)), (.int ((kc 7).2 (Int32.toNatClampNeg (v3 + (1 : Int32))))), (.ref 0)]) (mem1 := m) rfl ?_
                                  obtain ⟨g107, h⟩ := h
                                  refine it_V.kald it_cd363 it_m363 rfl (by decide) g107 ?_
                                  refine it_V.at (pc1 := 602) (ls1 := [some (.ref (it_K + 7)), some (.ref 0), some (.ref 66), some (.int v3)]) (st1 := [(.int ((kc 7).2 (Int32.toNatClampNeg (v3 + (2 : Int32))))), (.int ((kc 7).2 (Int32.toNatClampNeg (v3 + (1 : Int32))))), (.ref 0)]) (mem1 := m) rfl rfl rfl rfl ?_
                                  refine it_V.call it_cd363 it_m363 rfl it_m200 [(.ref 0), (.int ((kc 7).2 (Int32.toNatClampNeg (v3 + (1 : Int32))))), (.int ((kc 7).2 (Int32.toNatClampNeg (v3 + (2 : Int32)))))] [] rfl rfl ⟨Nat.le_of_ble_eq_true rfl, Nat.le_of_ble_eq_true rfl, Nat.le_of_ble_eq_true rfl, Nat.le_of_ble_eq_true rfl, rfl⟩ (s_200 kc ((kc 7).2 (Int32.toNatClampNeg (v3 + (1 : Int32)))) ((kc 7).2 (Int32.toNatClampNeg (v3 + (2 : Int32)))) m _ h) ?_
                                  rintro _ m109 ⟨r108, rfl, h⟩
                                  refine it_V.at (pc1 := 605) (ls1 := [some (.ref (it_K + 7)), some (.ref 0), some (.ref 66), some (.int v3)]) (st1 := [(.int r108)]) (mem1 := m109) rfl rfl rfl rfl ?_
                                  refine it_V.sN it_cd363 it_m363 5 (pc1 := 610) (ls1 := [some (.ref (it_K + 7)), some (.ref 0), some (.ref 66), some (.int v3)]) (st1 := [(.int (v3 + (1 : Int32))), (.ref (it_K + 7)), (.ref 66), (.int r108)]) (mem1 := m109) rfl ?_
                                  obtain ⟨g110, h⟩ := h
                                  refine it_V.kald it_cd363 it_m363 rfl (by decide) g110 ?_
                                  refine it_V.at (pc1 := 611) (ls1 := [some (.ref (it_K + 7)), some (.ref 0), some (.ref 66), some (.int v3)]) (st1 := [(.int ((kc 7).2 (Int32.toNatClampNeg (v3 + (1 : Int32))))), (.ref 66), (.int r108)]) (mem1 := m109) rfl rfl rfl rfl ?_
                                  refine it_V.sN it_cd363 it_m363 4 (pc1 := 615) (ls1 := [some (.ref (it_K + 7)), some (.ref 0), some (.ref 66), some (.int v3)]) (st1 := [(.int (v3 + (2 : Int32))), (.ref (it_K + 7)), (.int ((kc 7).2 (Int32.toNatClampNeg (v3 + (1 : Int32))))), (.ref 66), (.int r108)]) (mem1 := m109) rfl ?_
                                  obtain ⟨g111, h⟩ := h
                                  refine it_V.kald it_cd363 it_m363 rfl (by decide) g111 ?_
                                  refine it_V.at (pc1 := 616) (ls1 := [some (.ref (it_K + 7)), some (.ref 0), some (.ref 66), some (.int v3)]) (st1 := [(.int ((kc 7).2 (Int32.toNatClampNeg (v3 + (2 : Int32))))), (.int ((kc 7).2 (Int32.toNatClampNeg (v3 + (1 : Int32))))), (.ref 66), (.int r108)]) (mem1 := m109) rfl rfl rfl rfl ?_
                                  refine it_V.call it_cd363 it_m363 rfl it_m350 [(.ref 66), (.int ((kc 7).2 (Int32.toNatClampNeg (v3 + (1 : Int32))))), (.int ((kc 7).2 (Int32.toNatClampNeg (v3 + (2 : Int32)))))] [(.int r108)] rfl rfl ⟨Nat.le_of_ble_eq_true rfl, Nat.le_of_ble_eq_true rfl, Nat.le_of_ble_eq_true rfl, Nat.le_of_ble_eq_true rfl, rfl⟩ (s_350 kc ((kc 7).2 (Int32.toNatClampNeg (v3 + (1 : Int32)))) ((kc 7).2 (Int32.toNatClampNeg (v3 + (2 : Int32)))) m109 _ h) ?_
                                  rintro _ m113 ⟨r112, rfl, h⟩
                                  refine it_V.at (pc1 := 619) (ls1 := [some (.ref (it_K + 7)), some (.ref 0), some (.ref 66), some (.int v3)]) (st1 := [(.int r112), (.int r108)]) (mem1 := m113) rfl rfl rfl rfl ?_
                                  refine it_V.sN it_cd363 it_m363 1 (pc1 := (if r108 = r112 then 934 else 622)) (ls1 := [some (.ref (it_K + 7)), some (.ref 0), some (.ref 66), some (.int v3)]) (st1 := []) (mem1 := m113) rfl ?_
                                  refine it_V.ite (fun c114 => ?_) (fun c114 => ?_)
                                  · have h := h.1 c114
                                    exact s_363_934 kc Φ _ _ _ _ _ _ _ _ _ _ _ _ _ _ _ _ _ _ _ _ _ _ _ _ _ _ ih hK205 hK228 hK251 hK330 hK343 hK366 hK389 hK438 hK461 hK494 hK543 hK566 hK589 hK622 hK655 hK678 hK721 hK764 hK797 hK820 hK843 hK876 hK919 hK932 hK940 v3 m113 h
                                  · have h := h.2 c114
                                    refine it_V.weak (l := [none, none, none, none]) trivial ?_
                                    exact hK622 m113 h
                                · have h := h.2 c105
                                  refine it_V.ite (fun c115 => ?_) (fun c115 => ?_)
                                  · have h := h.1 c115
                                    refine it_V.sN it_cd363 it_m363 5 (pc1 := 629) (ls1 := [some (.ref (it_K + 7)), some (.ref 0), some (.ref 66), some (.int v3)]) (st1 := [(.int (v3 + (1 : Int32))), (.ref (it_K + 7)), (.ref 0)]) (mem1 := m) rfl ?_
                                    obtain ⟨g116, h⟩ := h
                                    refine it_V.kald it_cd363 it_m363 rfl (by decide) g116 ?_
                                    refine it_V.at (pc1 := 630) (ls1 := [some (.ref (it_K + 7)), some (.ref 0), some (.ref 66), some (.int v3)]) (st1 := [(.int ((kc 7).2 (Int32.toNatClampNeg (v3 + (1 : Int32))))), (.ref 0)]) (mem1 := m) rfl rfl rfl rfl ?_
                                    refine it_V.sN it_cd363 it_m363 4 (pc1 := 634) (ls1 := [some (.ref (it_K + 7)), some (.ref 0), some (.ref 66), some (.int v3)]) (st1 := [(.int (v3 + (2 : Int32))), (.ref (it_K + 7)), (.int ((kc 7).2 (Int32.toNatClampNeg (v3 + (1 : Int32))))), (.ref 0)]) (mem1 := m) rfl ?_
                                    obtain ⟨g117, h⟩ := h
                                    refine it_V.kald it_cd363 it_m363 rfl (by decide) g117 ?_
                                    refine it_V.at (pc1 := 635) (ls1 := [some (.ref (it_K + 7)), some (.ref 0), some (.ref 66), some (.int v3)]) (st1 := [(.int ((kc 7).2 (Int32.toNatClampNeg (v3 + (2 : Int32))))), (.int ((kc 7).2 (Int32.toNatClampNeg (v3 + (1 : Int32))))), (.ref 0)]) (mem1 := m) rfl rfl rfl rfl ?_
                                    refine it_V.call it_cd363 it_m363 rfl it_m201 [(.ref 0), (.int ((kc 7).2 (Int32.toNatClampNeg (v3 + (1 : Int32))))), (.int ((kc 7).2 (Int32.toNatClampNeg (v3 + (2 : Int32)))))] [] rfl rfl ⟨Nat.le_of_ble_eq_true rfl, Nat.le_of_ble_eq_true rfl, Nat.le_of_ble_eq_true rfl, Nat.le_of_ble_eq_true rfl, rfl⟩ (s_201 kc ((kc 7).2 (Int32.toNatClampNeg (v3 + (1 : Int32)))) ((kc 7).2 (Int32.toNatClampNeg (v3 + (2 : Int32)))) m _ h) ?_
                                    rintro _ m119 ⟨r118, rfl, h⟩
                                    refine it_V.at (pc1 := 638) (ls1 := [some (.ref (it_K + 7)), some (.ref 0), some (.ref 66), some (.int v3)]) (st1 := [(.int r118)]) (mem1 := m119) rfl rfl rfl rfl ?_
                                    refine it_V.sN it_cd363 it_m363 5 (pc1 := 643) (ls1 := [some (.ref (it_K + 7)), some (.ref 0), some (.ref 66), some (.int v3)]) (st1 := [(.int (v3 + (1 : Int32))), (.ref (it_K + 7)), (.ref 66), (.int r118)]) (mem1 := m119) rfl ?_
                                    obtain ⟨g120, h⟩ := h
                                    refine it_V.kald it_cd363 it_m363 rfl (by decide) g120 ?_
                                    refine it_V.at (pc1 := 644) (ls1 := [some (.ref (it_K + 7)), some (.ref 0), some (.ref 66), some (.int v3)]) (st1 := [(.int ((kc 7).2 (Int32.toNatClampNeg (v3 + (1 : Int32))))), (.ref 66), (.int r118)]) (mem1 := m119) rfl rfl rfl rfl ?_
                                    refine it_V.sN it_cd363 it_m363 4 (pc1 := 648) (ls1 := [some (.ref (it_K + 7)), some (.ref 0), some (.ref 66), some (.int v3)]) (st1 := [(.int (v3 + (2 : Int32))), (.ref (it_K + 7)), (.int ((kc 7).2 (Int32.toNatClampNeg (v3 + (1 : Int32))))), (.ref 66), (.int r118)]) (mem1 := m119) rfl ?_
                                    obtain ⟨g121, h⟩ := h
                                    refine it_V.kald it_cd363 it_m363 rfl (by decide) g121 ?_
                                    refine it_V.at (pc1 := 649) (ls1 := [some (.ref (it_K + 7)), some (.ref 0), some (.ref 66), some (.int v3)]) (st1 := [(.int ((kc 7).2 (Int32.toNatClampNeg (v3 + (2 : Int32))))), (.int ((kc 7).2 (Int32.toNatClampNeg (v3 + (1 : Int32))))), (.ref 66), (.int r118)]) (mem1 := m119) rfl rfl rfl rfl ?_
                                    refine it_V.call it_cd363 it_m363 rfl it_m351 [(.ref 66), (.int ((kc 7).2 (Int32.toNatClampNeg (v3 + (1 : Int32))))), (.int ((kc 7).2 (Int32.toNatClampNeg (v3 + (2 : Int32)))))] [(.int r118)] rfl rfl ⟨Nat.le_of_ble_eq_true rfl, Nat.le_of_ble_eq_true rfl, Nat.le_of_ble_eq_true rfl, Nat.le_of_ble_eq_true rfl, rfl⟩ (s_351 kc ((kc 7).2 (Int32.toNatClampNeg (v3 + (1 : Int32)))) ((kc 7).2 (Int32.toNatClampNeg (v3 + (2 : Int32)))) m119 _ h) ?_
                                    rintro _ m123 ⟨r122, rfl, h⟩
                                    refine it_V.at (pc1 := 652) (ls1 := [some (.ref (it_K + 7)), some (.ref 0), some (.ref 66), some (.int v3)]) (st1 := [(.int r122), (.int r118)]) (mem1 := m123) rfl rfl rfl rfl ?_
                                    refine it_V.sN it_cd363 it_m363 1 (pc1 := (if r118 = r122 then 934 else 655)) (ls1 := [some (.ref (it_K + 7)), some (.ref 0), some (.ref 66), some (.int v3)]) (st1 := []) (mem1 := m123) rfl ?_
                                    refine it_V.ite (fun c124 => ?_) (fun c124 => ?_)
                                    · have h := h.1 c124
                                      exact s_363_934 kc Φ _ _ _ _ _ _ _ _ _ _ _ _ _ _ _ _ _ _ _ _ _ _ _ _ _ _ ih hK205 hK228 hK251 hK330 hK343 hK366 hK389 hK438 hK461 hK494 hK543 hK566 hK589 hK622 hK655 hK678 hK721 hK764 hK797 hK820 hK843 hK876 hK919 hK932 hK940 v3 m123 h
                                    · have h := h.2 c124
                                      refine it_V.weak (l := [none, none, none, none]) trivial ?_
                                      exact hK655 m123 h
                                  · have h := h.2 c115
                                    refine it_V.ite (fun c125 => ?_) (fun c125 => ?_)
                                    · have h := h.1 c125
                                      refine it_V.sN it_cd363 it_m363 5 (pc1 := 662) (ls1 := [some (.ref (it_K + 7)), some (.ref 0), some (.ref 66), some (.int v3)]) (st1 := [(.int (v3 + (1 : Int32))), (.ref (it_K + 7)), (.ref 0)]) (mem1 := m) rfl ?_
                                      obtain ⟨g126, h⟩ := h
                                      refine it_V.kald it_cd363 it_m363 rfl (by decide) g126 ?_
                                      refine it_V.at (pc1 := 663) (ls1 := [some (.ref (it_K + 7)), some (.ref 0), some (.ref 66), some (.int v3)]) (st1 := [(.int ((kc 7).2 (Int32.toNatClampNeg (v3 + (1 : Int32))))), (.ref 0)]) (mem1 := m) rfl rfl rfl rfl ?_
                                      refine it_V.call it_cd363 it_m363 rfl it_m202 [(.ref 0), (.int ((kc 7).2 (Int32.toNatClampNeg (v3 + (1 : Int32)))))] [] rfl rfl ⟨Nat.le_of_ble_eq_true rfl, Nat.le_of_ble_eq_true rfl, Nat.le_of_ble_eq_true rfl, Nat.le_of_ble_eq_true rfl, rfl⟩ (s_202 kc ((kc 7).2 (Int32.toNatClampNeg (v3 + (1 : Int32)))) m _ h) ?_
                                      rintro _ m128 ⟨r127, rfl, h⟩
                                      refine it_V.at (pc1 := 666) (ls1 := [some (.ref (it_K + 7)), some (.ref 0), some (.ref 66), some (.int v3)]) (st1 := [(.int r127)]) (mem1 := m128) rfl rfl rfl rfl ?_
                                      refine it_V.sN it_cd363 it_m363 5 (pc1 := 671) (ls1 := [some (.ref (it_K + 7)), some (.ref 0), some (.ref 66), some (.int v3)]) (st1 := [(.int (v3 + (1 : Int32))), (.ref (it_K + 7)), (.ref 66), (.int r127)]) (mem1 := m128) rfl ?_
                                      obtain ⟨g129, h⟩ := h
                                      refine it_V.kald it_cd363 it_m363 rfl (by decide) g129 ?_
                                      refine it_V.at (pc1 := 672) (ls1 := [some (.ref (it_K + 7)), some (.ref 0), some (.ref 66), some (.int v3)]) (st1 := [(.int ((kc 7).2 (Int32.toNatClampNeg (v3 + (1 : Int32))))), (.ref 66), (.int r127)]) (mem1 := m128) rfl rfl rfl rfl ?_
                                      refine it_V.call it_cd363 it_m363 rfl it_m353 [(.ref 66), (.int ((kc 7).2 (Int32.toNatClampNeg (v3 + (1 : Int32)))))] [(.int r127)] rfl rfl ⟨Nat.le_of_ble_eq_true rfl, Nat.le_of_ble_eq_true rfl, Nat.le_of_ble_eq_true rfl, Nat.le_of_ble_eq_true rfl, rfl⟩ (s_353 kc ((kc 7).2 (Int32.toNatClampNeg (v3 + (1 : Int32)))) m128 _ h) ?_
                                      rintro _ m131 ⟨r130, rfl, h⟩
                                      refine it_V.at (pc1 := 675) (ls1 := [some (.ref (it_K + 7)), some (.ref 0), some (.ref 66), some (.int v3)]) (st1 := [(.int r130), (.int r127)]) (mem1 := m131) rfl rfl rfl rfl ?_
                                      refine it_V.sN it_cd363 it_m363 1 (pc1 := (if r127 = r130 then 934 else 678)) (ls1 := [some (.ref (it_K + 7)), some (.ref 0), some (.ref 66), some (.int v3)]) (st1 := []) (mem1 := m131) rfl ?_
                                      refine it_V.ite (fun c132 => ?_) (fun c132 => ?_)
                                      · have h := h.1 c132
                                        exact s_363_934 kc Φ _ _ _ _ _ _ _ _ _ _ _ _ _ _ _ _ _ _ _ _ _ _ _ _ _ _ ih hK205 hK228 hK251 hK330 hK343 hK366 hK389 hK438 hK461 hK494 hK543 hK566 hK589 hK622 hK655 hK678 hK721 hK764 hK797 hK820 hK843 hK876 hK919 hK932 hK940 v3 m131 h
                                      · have h := h.2 c132
                                        refine it_V.weak (l := [none, none, none, none]) trivial ?_
                                        exact hK678 m131 h
                                    · have h := h.2 c125
                                      refine it_V.ite (fun c133 => ?_) (fun c133 => ?_)
                                      · have h := h.1 c133
                                        refine it_V.sN it_cd363 it_m363 5 (pc1 := 685) (ls1 := [some (.ref (it_K + 7)), some (.ref 0), some (.ref 66), some (.int v3)]) (st1 := [(.int (v3 + (1 : Int32))), (.ref (it_K + 7)), (.ref 0)]) (mem1 := m) rfl ?_
                                        obtain ⟨g134, h⟩ := h
                                        refine it_V.kald it_cd363 it_m363 rfl (by decide) g134 ?_
                                        refine it_V.at (pc1 := 686) (ls1 := [some (.ref (it_K + 7)), some (.ref 0), some (.ref 66), some (.int v3)]) (st1 := [(.int ((kc 7).2 (Int32.toNatClampNeg (v3 + (1 : Int32))))), (.ref 0)]) (mem1 := m) rfl rfl rfl rfl ?_
                                        refine it_V.sN it_cd363 it_m363 4 (pc1 := 690) (ls1 := [some (.ref (it_K + 7)), some (.ref 0), some (.ref 66), some (.int v3)]) (st1 := [(.int (v3 + (2 : Int32))), (.ref (it_K + 7)), (.int ((kc 7).2 (Int32.toNatClampNeg (v3 + (1 : Int32))))), (.ref 0)]) (mem1 := m) rfl ?_
                                        obtain ⟨g135, h⟩ := h
                                        refine it_V.kald it_cd363 it_m363 rfl (by decide) g135 ?_
                                        refine it_V.at (pc1 := 691) (ls1 := [some (.ref (it_K + 7)), some (.ref 0), some (.ref 66), some (.int v3)]) (st1 := [(.int ((kc 7).2 (Int32.toNatClampNeg (v3 + (2 : Int32))))), (.int ((kc 7).2 (Int32.toNatClampNeg (v3 + (1 : Int32))))), (.ref 0)]) (mem1 := m) rfl rfl rfl rfl ?_
                                        refine it_V.sN it_cd363 it_m363 4 (pc1 := 695) (ls1 := [some (.ref (it_K + 7)), some (.ref 0), some (.ref 66), some (.int v3)]) (st1 := [(.int (v3 + (3 : Int32))), (.ref (it_K + 7)), (.int ((kc 7).2 (Int32.toNatClampNeg (v3 + (2 : Int32))))), (.int ((kc 7).2 (Int32.toNatClampNeg (v3 + (1 : Int32))))), (.ref 0)]) (mem1 := m) rfl ?_
                                        obtain ⟨g136, h⟩ := h
                                        refine it_V.kald it_cd363 it_m363 rfl (by decide) g136 ?_
                                        refine it_V.at (pc1 := 696) (ls1 := [some (.ref (it_K + 7)), some (.ref 0), some (.ref 66), some (.int v3)]) (st1 := [(.int ((kc 7).2 (Int32.toNatClampNeg (v3 + (3 : Int32))))), (.int ((kc 7).2 (Int32.toNatClampNeg (v3 + (2 : Int32))))), (.int ((kc 7).2 (Int32.toNatClampNeg (v3 + (1 : Int32))))), (.ref 0)]) (mem1 := m) rfl rfl rfl rfl ?_
                                        refine it_V.call it_cd363 it_m363 rfl it_m203 [(.ref 0), (.int ((kc 7).2 (Int32.toNatClampNeg (v3 + (1 : Int32))))), (.int ((kc 7).2 (Int32.toNatClampNeg (v3 + (2 : Int32))))), (.int ((kc 7).2 (Int32.toNatClampNeg (v3 + (3 : Int32)))))] [] rfl rfl ⟨Nat.le_of_ble_eq_true rfl, Nat.le_of_ble_eq_true rfl, Nat.le_of_ble_eq_true rfl, Nat.le_of_ble_eq_true rfl, rfl⟩ (s_203 kc ((kc 7).2 (Int32.toNatClampNeg (v3 + (1 : Int32)))) ((kc 7).2 (Int32.toNatClampNeg (v3 + (2 : Int32)))) ((kc 7).2 (Int32.toNatClampNeg (v3 + (3 : Int32)))) m _ h) ?_
                                        rintro _ m138 ⟨r137, rfl, h⟩
                                        refine it_V.at (pc1 := 699) (ls1 := [some (.ref (it_K + 7)), some (.ref 0), some (.ref 66), some (.int v3)]) (st1 := [(.int r137)]) (mem1 := m138) rfl rfl rfl rfl ?_
                                        refine it_V.sN it_cd363 it_m363 5 (pc1 := 704) (ls1 := [some (.ref (it_K + 7)), some (.ref 0), some (.ref 66), some (.int v3)]) (st1 := [(.int (v3 + (1 : Int32))), (.ref (it_K + 7)), (.ref 66), (.int r137)]) (mem1 := m138) rfl ?_
                                        obtain ⟨g139, h⟩ := h
                                        refine it_V.kald it_cd363 it_m363 rfl (by decide) g139 ?_
                                        refine it_V.at (pc1 := 705) (ls1 := [some (.ref (it_K + 7)), some (.ref 0), some (.ref 66), some (.int v3)]) (st1 := [(.int ((kc 7).2 (Int32.toNatClampNeg (v3 + (1 : Int32))))), (.ref 66), (.int r137)]) (mem1 := m138) rfl rfl rfl rfl ?_
                                        refine it_V.sN it_cd363 it_m363 4 (pc1 := 709) (ls1 := [some (.ref (it_K + 7)), some (.ref 0), some (.ref 66), some (.int v3)]) (st1 := [(.int (v3 + (2 : Int32))), (.ref (it_K + 7)), (.int ((kc 7).2 (Int32.toNatClampNeg (v3 + (1 : Int32))))), (.ref 66), (.int r137)]) (mem1 := m138) rfl ?_
                                        obtain ⟨g140, h⟩ := h
                                        refine it_V.kald it_cd363 it_m363 rfl (by decide) g140 ?_
                                        refine it_V.at (pc1 := 710) (ls1 := [some (.ref (it_K + 7)), some (.ref 0), some (.ref 66), some (.int v3)]) (st1 := [(.int ((kc 7).2 (Int32.toNatClampNeg (v3 + (2 : Int32))))), (.int ((kc 7).2 (Int32.toNatClampNeg (v3 + (1 : Int32))))), (.ref 66), (.int r137)]) (mem1 := m138) rfl rfl rfl rfl ?_
                                        refine it_V.sN it_cd363 it_m363 4 (pc1 := 714) (ls1 := [some (.ref (it_K + 7)), some (.ref 0), some (.ref 66), some (.int v3)]) (st1 := [(.int (v3 + (3 : Int32))), (.ref (it_K + 7)), (.int ((kc 7).2 (Int32.toNatClampNeg (v3 + (2 : Int32))))), (.int ((kc 7).2 (Int32.toNatClampNeg (v3 + (1 : Int32))))), (.ref 66), (.int r137)]) (mem1 := m138) rfl ?_
                                        obtain ⟨g141, h⟩ := h
                                        refine it_V.kald it_cd363 it_m363 rfl (by decide) g141 ?_
                                        refine it_V.at (pc1 := 715) (ls1 := [some (.ref (it_K + 7)), some (.ref 0), some (.ref 66), some (.int v3)]) (st1 := [(.int ((kc 7).2 (Int32.toNatClampNeg (v3 + (3 : Int32))))), (.int ((kc 7).2 (Int32.toNatClampNeg (v3 + (2 : Int32))))), (.int ((kc 7).2 (Int32.toNatClampNeg (v3 + (1 : Int32))))), (.ref 66), (.int r137)]) (mem1 := m138) rfl rfl rfl rfl ?_
                                        refine it_V.call it_cd363 it_m363 rfl it_m263 [(.ref 66), (.int ((kc 7).2 (Int32.toNatClampNeg (v3 + (1 : Int32))))), (.int ((kc 7).2 (Int32.toNatClampNeg (v3 + (2 : Int32))))), (.int ((kc 7).2 (Int32.toNatClampNeg (v3 + (3 : Int32)))))] [(.int r137)] rfl rfl ⟨Nat.le_of_ble_eq_true rfl, Nat.le_of_ble_eq_true rfl, Nat.le_of_ble_eq_true rfl, Nat.le_of_ble_eq_true rfl, rfl⟩ (s_263 kc ((kc 7).2 (Int32.toNatClampNeg (v3 + (1 : Int32)))) ((kc 7).2 (Int32.toNatClampNeg (v3 + (2 : Int32)))) ((kc 7).2 (Int32.toNatClampNeg (v3 + (3 : Int32)))) m138 _ h) ?_
                                        rintro _ m143 ⟨r142, rfl, h⟩
                                        refine it_V.at (pc1 := 718) (ls1 := [some (.ref (it_K + 7)), some (.ref 0), some (.ref 66), some (.int v3)]) (st1 := [(.int r142), (.int r137)]) (mem1 := m143) rfl rfl rfl rfl ?_
                                        refine it_V.sN it_cd363 it_m363 1 (pc1 := (if r137 = r142 then 934 else 721)) (ls1 := [some (.ref (it_K + 7)), some (.ref 0), some (.ref 66), some (.int v3)]) (st1 := []) (mem1 := m143) rfl ?_
                                        refine it_V.ite (fun c144 => ?_) (fun c144 => ?_)
                                        · have h := h.1 c144
                                          exact s_363_934 kc Φ _ _ _ _ _ _ _ _ _ _ _ _ _ _ _ _ _ _ _ _ _ _ _ _ _ _ ih hK205 hK228 hK251 hK330 hK343 hK366 hK389 hK438 hK461 hK494 hK543 hK566 hK589 hK622 hK655 hK678 hK721 hK764 hK797 hK820 hK843 hK876 hK919 hK932 hK940 v3 m143 h
                                        · have h := h.2 c144
                                          refine it_V.weak (l := [none, none, none, none]) trivial ?_
                                          exact hK721 m143 h
                                      · have h := h.2 c133
                                        refine it_V.ite (fun c145 => ?_) (fun c145 => ?_)
                                        · have h := h.1 c145
                                          refine it_V.sN it_cd363 it_m363 5 (pc1 := 728) (ls1 := [some (.ref (it_K + 7)), some (.ref 0), some (.ref 66), some (.int v3)]) (st1 := [(.int (v3 + (1 : Int32))), (.ref (it_K + 7)), (.ref 0)]) (mem1 := m) rfl ?_
                                          obtain ⟨g146, h⟩ := h
                                          refine it_V.kald it_cd363 it_m363 rfl (by decide) g146 ?_
                                          refine it_V.at (pc1 := 729) (ls1 := [some (.ref (it_K + 7)), some (.ref 0), some (.ref 66), some (.int v3)]) (st1 := [(.int ((kc 7).2 (Int32.toNatClampNeg (v3 + (1 : Int32))))), (.ref 0)]) (mem1 := m) rfl rfl rfl rfl ?_
                                          refine it_V.sN it_cd363 it_m363 4 (pc1 := 733) (ls1 := [some (.ref (it_K + 7)), some (.ref 0), some (.ref 66), some (.int v3)]) (st1 := [(.int (v3 + (2 : Int32))), (.ref (it_K + 7)), (.int ((kc 7).2 (Int32.toNatClampNeg (v3 + (1 : Int32))))), (.ref 0)]) (mem1 := m) rfl ?_
                                          obtain ⟨g147, h⟩ := h
                                          refine it_V.kald it_cd363 it_m363 rfl (by decide) g147 ?_
                                          refine it_V.at (pc1 := 734) (ls1 := [some (.ref (it_K + 7)), some (.ref 0), some (.ref 66), some (.int v3)]) (st1 := [(.int ((kc 7).2 (Int32.toNatClampNeg (v3 + (2 : Int32))))), (.int ((kc 7).2 (Int32.toNatClampNeg (v3 + (1 : Int32))))), (.ref 0)]) (mem1 := m) rfl rfl rfl rfl ?_
                                          refine it_V.sN it_cd363 it_m363 4 (pc1 := 738) (ls1 := [some (.ref (it_K + 7)), some (.ref 0), some (.ref 66), some (.int v3)]) (st1 := [(.int (v3 + (3 : Int32))), (.ref (it_K + 7)), (.int ((kc 7).2 (Int32.toNatClampNeg (v3 + (2 : Int32))))), (.int ((kc 7).2 (Int32.toNatClampNeg (v3 + (1 : Int32))))), (.ref 0)]) (mem1 := m) rfl ?_
                                          obtain ⟨g148, h⟩ := h
                                          refine it_V.kald it_cd363 it_m363 rfl (by decide) g148 ?_
                                          refine it_V.at (pc1 := 739) (ls1 := [some (.ref (it_K + 7)), some (.ref 0), some (.ref 66), some (.int v3)]) (st1 := [(.int ((kc 7).2 (Int32.toNatClampNeg (v3 + (3 : Int32))))), (.int ((kc 7).2 (Int32.toNatClampNeg (v3 + (2 : Int32))))), (.int ((kc 7).2 (Int32.toNatClampNeg (v3 + (1 : Int32))))), (.ref 0)]) (mem1 := m) rfl rfl rfl rfl ?_
                                          refine it_V.call it_cd363 it_m363 rfl it_m204 [(.ref 0), (.int ((kc 7).2 (Int32.toNatClampNeg (v3 + (1 : Int32))))), (.int ((kc 7).2 (Int32.toNatClampNeg (v3 + (2 : Int32))))), (.int ((kc 7).2 (Int32.toNatClampNeg (v3 + (3 : Int32)))))] [] rfl rfl ⟨Nat.le_of_ble_eq_true rfl, Nat.le_of_ble_eq_true rfl, Nat.le_of_ble_eq_true rfl, Nat.le_of_ble_eq_true rfl, rfl⟩ (s_204 kc ((kc 7).2 (Int32.toNatClampNeg (v3 + (1 : Int32)))) ((kc 7).2 (Int32.toNatClampNeg (v3 + (2 : Int32)))) ((kc 7).2 (Int32.toNatClampNeg (v3 + (3 : Int32)))) m _ h) ?_
                                          rintro _ m150 ⟨r149, rfl, h⟩
                                          refine it_V.at (pc1 := 742) (ls1 := [some (.ref (it_K + 7)), some (.ref 0), some (.ref 66), some (.int v3)]) (st1 := [(.int r149)]) (mem1 := m150) rfl rfl rfl rfl ?_
                                          refine it_V.sN it_cd363 it_m363 5 (pc1 := 747) (ls1 := [some (.ref (it_K + 7)), some (.ref 0), some (.ref 66), some (.int v3)]) (st1 := [(.int (v3 + (1 : Int32))), (.ref (it_K + 7)), (.ref 66), (.int r149)]) (mem1 := m150) rfl ?_
                                          obtain ⟨g151, h⟩ := h
                                          refine it_V.kald it_cd363 it_m363 rfl (by decide) g151 ?_
                                          refine it_V.at (pc1 := 748) (ls1 := [some (.ref (it_K + 7)), some (.ref 0), some (.ref 66), some (.int v3)]) (st1 := [(.int ((kc 7).2 (Int32.toNatClampNeg (v3 + (1 : Int32))))), (.ref 66), (.int r149)]) (mem1 := m150) rfl rfl rfl rfl ?_
                                          refine it_V.sN it_cd363 it_m363 4 (pc1 := 752) (ls1 := [some (.ref (it_K + 7)), some (.ref 0), some (.ref 66), some (.int v3)]) (st1 := [(.int (v3 + (2 : Int32))), (.ref (it_K + 7)), (.int ((kc 7).2 (Int32.toNatClampNeg (v3 + (1 : Int32))))), (.ref 66), (.int r149)]) (mem1 := m150) rfl ?_
                                          obtain ⟨g152, h⟩ := h
                                          refine it_V.kald it_cd363 it_m363 rfl (by decide) g152 ?_
                                          refine it_V.at (pc1 := 753) (ls1 := [some (.ref (it_K + 7)), some (.ref 0), some (.ref 66), some (.int v3)]) (st1 := [(.int ((kc 7).2 (Int32.toNatClampNeg (v3 + (2 : Int32))))), (.int ((kc 7).2 (Int32.toNatClampNeg (v3 + (1 : Int32))))), (.ref 66), (.int r149)]) (mem1 := m150) rfl rfl rfl rfl ?_
                                          refine it_V.sN it_cd363 it_m363 4 (pc1 := 757) (ls1 := [some (.ref (it_K + 7)), some (.ref 0), some (.ref 66), some (.int v3)]) (st1 := [(.int (v3 + (3 : Int32))), (.ref (it_K + 7)), (.int ((kc 7).2 (Int32.toNatClampNeg (v3 + (2 : Int32))))), (.int ((kc 7).2 (Int32.toNatClampNeg (v3 + (1 : Int32))))), (.ref 66), (.int r149)]) (mem1 := m150) rfl ?_
                                          obtain ⟨g153, h⟩ := h
                                          refine it_V.kald it_cd363 it_m363 rfl (by decide) g153 ?_
                                          refine it_V.at (pc1 := 758) (ls1 := [some (.ref (it_K + 7)), some (.ref 0), some (.ref 66), some (.int v3)]) (st1 := [(.int ((kc 7).2 (Int32.toNatClampNeg (v3 + (3 : Int32))))), (.int ((kc 7).2 (Int32.toNatClampNeg (v3 + (2 : Int32))))), (.int ((kc 7).2 (Int32.toNatClampNeg (v3 + (1 : Int32))))), (.ref 66), (.int r149)]) (mem1 := m150) rfl rfl rfl rfl ?_
                                          refine it_V.call it_cd363 it_m363 rfl it_m354 [(.ref 66), (.int ((kc 7).2 (Int32.toNatClampNeg (v3 + (1 : Int32))))), (.int ((kc 7).2 (Int32.toNatClampNeg (v3 + (2 : Int32))))), (.int ((kc 7).2 (Int32.toNatClampNeg (v3 + (3 : Int32)))))] [(.int r149)] rfl rfl ⟨Nat.le_of_ble_eq_true rfl, Nat.le_of_ble_eq_true rfl, Nat.le_of_ble_eq_true rfl, Nat.le_of_ble_eq_true rfl, rfl⟩ (s_354 kc ((kc 7).2 (Int32.toNatClampNeg (v3 + (1 : Int32)))) ((kc 7).2 (Int32.toNatClampNeg (v3 + (2 : Int32)))) ((kc 7).2 (Int32.toNatClampNeg (v3 + (3 : Int32)))) m150 _ h) ?_
                                          rintro _ m155 ⟨r154, rfl, h⟩
                                          refine it_V.at (pc1 := 761) (ls1 := [some (.ref (it_K + 7)), some (.ref 0), some (.ref 66), some (.int v3)]) (st1 := [(.int r154), (.int r149)]) (mem1 := m155) rfl rfl rfl rfl ?_
                                          refine it_V.sN it_cd363 it_m363 1 (pc1 := (if r149 = r154 then 934 else 764)) (ls1 := [some (.ref (it_K + 7)), some (.ref 0), some (.ref 66), some (.int v3)]) (st1 := []) (mem1 := m155) rfl ?_
                                          refine it_V.ite (fun c156 => ?_) (fun c156 => ?_)
                                          · have h := h.1 c156
                                            exact s_363_934 kc Φ _ _ _ _ _ _ _ _ _ _ _ _ _ _ _ _ _ _ _ _ _ _ _ _ _ _ ih hK205 hK228 hK251 hK330 hK343 hK366 hK389 hK438 hK461 hK494 hK543 hK566 hK589 hK622 hK655 hK678 hK721 hK764 hK797 hK820 hK843 hK876 hK919 hK932 hK940 v3 m155 h
                                          · have h := h.2 c156
                                            refine it_V.weak (l := [none, none, none, none]) trivial ?_
                                            exact hK764 m155 h
                                        · have h := h.2 c145
                                          refine it_V.ite (fun c157 => ?_) (fun c157 => ?_)
                                          · have h := h.1 c157
                                            refine it_V.sN it_cd363 it_m363 5 (pc1 := 771) (ls1 := [some (.ref (it_K + 7)), some (.ref 0), some (.ref 66), some (.int v3)]) (st1 := [(.int (v3 + (1 : Int32))), (.ref (it_K + 7)), (.ref 0)]) (mem1 := m) rfl ?_
                                            obtain ⟨g158, h⟩ := h
                                            refine it_V.kald it_cd363 it_m363 rfl (by decide) g158 ?_
                                            refine it_V.at (pc1 := 772) (ls1 := [some (.ref (it_K + 7)), some (.ref 0), some (.ref 66), some (.int v3)]) (st1 := [(.int ((kc 7).2 (Int32.toNatClampNeg (v3 + (1 : Int32))))), (.ref 0)]) (mem1 := m) rfl rfl rfl rfl ?_
                                            refine it_V.sN it_cd363 it_m363 4 (pc1 := 776) (ls1 := [some (.ref (it_K + 7)), some (.ref 0), some (.ref 66), some (.int v3)]) (st1 := [(.int (v3 + (2 : Int32))), (.ref (it_K + 7)), (.int ((kc 7).2 (Int32.toNatClampNeg (v3 + (1 : Int32))))), (.ref 0)]) (mem1 := m) rfl ?_
                                            obtain ⟨g159, h⟩ := h
                                            refine it_V.kald it_cd363 it_m363 rfl (by decide) g159 ?_
                                            refine it_V.at (pc1 := 777) (ls1 := [some (.ref (it_K + 7)), some (.ref 0), some (.ref 66), some (.int v3)]) (st1 := [(.int ((kc 7).2 (Int32.toNatClampNeg (v3 + (2 : Int32))))), (.int ((kc 7).2 (Int32.toNatClampNeg (v3 + (1 : Int32))))), (.ref 0)]) (mem1 := m) rfl rfl rfl rfl ?_
                                            refine it_V.call it_cd363 it_m363 rfl it_m205 [(.ref 0), (.int ((kc 7).2 (Int32.toNatClampNeg (v3 + (1 : Int32))))), (.int ((kc 7).2 (Int32.toNatClampNeg (v3 + (2 : Int32)))))] [] rfl rfl ⟨Nat.le_of_ble_eq_true rfl, Nat.le_of_ble_eq_true rfl, Nat.le_of_ble_eq_true rfl, Nat.le_of_ble_eq_true rfl, rfl⟩ (s_205 kc ((kc 7).2 (Int32.toNatClampNeg (v3 + (1 : Int32)))) ((kc 7).2 (Int32.toNatClampNeg (v3 + (2 : Int32)))) m _ h) ?_
                                            rintro _ m161 ⟨r160, rfl, h⟩
                                            refine it_V.at (pc1 := 780) (ls1 := [some (.ref (it_K + 7)), some (.ref 0), some (.ref 66), some (.int v3)]) (st1 := [(.int r160)]) (mem1 := m161) rfl rfl rfl rfl ?_
                                            refine it_V.sN it_cd363 it_m363 5 (pc1 := 785) (ls1 := [some (.ref (it_K + 7)), some (.ref 0), some (.ref 66), some (.int v3)]) (st1 := [(.int (v3 + (1 : Int32))), (.ref (it_K + 7)), (.ref 66), (.int r160)]) (mem1 := m161) rfl ?_
                                            obtain ⟨g162, h⟩ := h
                                            refine it_V.kald it_cd363 it_m363 rfl (by decide) g162 ?_
                                            refine it_V.at (pc1 := 786) (ls1 := [some (.ref (it_K + 7)), some (.ref 0), some (.ref 66), some (.int v3)]) (st1 := [(.int ((kc 7).2 (Int32.toNatClampNeg (v3 + (1 : Int32))))), (.ref 66), (.int r160)]) (mem1 := m161) rfl rfl rfl rfl ?_
                                            refine it_V.sN it_cd363 it_m363 4 (pc1 := 790) (ls1 := [some (.ref (it_K + 7)), some (.ref 0), some (.ref 66), some (.int v3)]) (st1 := [(.int (v3 + (2 : Int32))), (.ref (it_K + 7)), (.int ((kc 7).2 (Int32.toNatClampNeg (v3 + (1 : Int32))))), (.ref 66), (.int r160)]) (mem1 := m161) rfl ?_
                                            obtain ⟨g163, h⟩ := h
                                            refine it_V.kald it_cd363 it_m363 rfl (by decide) g163 ?_
                                            refine it_V.at (pc1 := 791) (ls1 := [some (.ref (it_K + 7)), some (.ref 0), some (.ref 66), some (.int v3)]) (st1 := [(.int ((kc 7).2 (Int32.toNatClampNeg (v3 + (2 : Int32))))), (.int ((kc 7).2 (Int32.toNatClampNeg (v3 + (1 : Int32))))), (.ref 66), (.int r160)]) (mem1 := m161) rfl rfl rfl rfl ?_
                                            refine it_V.call it_cd363 it_m363 rfl it_m355 [(.ref 66), (.int ((kc 7).2 (Int32.toNatClampNeg (v3 + (1 : Int32))))), (.int ((kc 7).2 (Int32.toNatClampNeg (v3 + (2 : Int32)))))] [(.int r160)] rfl rfl ⟨Nat.le_of_ble_eq_true rfl, Nat.le_of_ble_eq_true rfl, Nat.le_of_ble_eq_true rfl, Nat.le_of_ble_eq_true rfl, rfl⟩ (s_355 kc ((kc 7).2 (Int32.toNatClampNeg (v3 + (1 : Int32)))) ((kc 7).2 (Int32.toNatClampNeg (v3 + (2 : Int32)))) m161 _ h) ?_
                                            rintro _ m165 ⟨r164, rfl, h⟩
                                            refine it_V.at (pc1 := 794) (ls1 := [some (.ref (it_K + 7)), some (.ref 0), some (.ref 66), some (.int v3)]) (st1 := [(.int r164), (.int r160)]) (mem1 := m165) rfl rfl rfl rfl ?_
                                            refine it_V.sN it_cd363 it_m363 1 (pc1 := (if r160 = r164 then 934 else 797)) (ls1 := [some (.ref (it_K + 7)), some (.ref 0), some (.ref 66), some (.int v3)]) (st1 := []) (mem1 := m165) rfl ?_
                                            refine it_V.ite (fun c166 => ?_) (fun c166 => ?_)
                                            · have h := h.1 c166
                                              exact s_363_934 kc Φ _ _ _ _ _ _ _ _ _ _ _ _ _ _ _ _ _ _ _ _ _ _ _ _ _ _ ih hK205 hK228 hK251 hK330 hK343 hK366 hK389 hK438 hK461 hK494 hK543 hK566 hK589 hK622 hK655 hK678 hK721 hK764 hK797 hK820 hK843 hK876 hK919 hK932 hK940 v3 m165 h
                                            · have h := h.2 c166
                                              refine it_V.weak (l := [none, none, none, none]) trivial ?_
                                              exact hK797 m165 h
                                          · have h := h.2 c157
                                            refine it_V.ite (fun c167 => ?_) (fun c167 => ?_)
                                            · have h := h.1 c167
                                              refine it_V.sN it_cd363 it_m363 5 (pc1 := 804) (ls1 := [some (.ref (it_K + 7)), some (.ref 0), some (.ref 66), some (.int v3)]) (st1 := [(.int (v3 + (1 : Int32))), (.ref (it_K + 7)), (.ref 0)]) (mem1 := m) rfl ?_
                                              obtain ⟨g168, h⟩ := h
                                              refine it_V.kald it_cd363 it_m363 rfl (by decide) g168 ?_
                                              refine it_V.at (pc1 := 805) (ls1 := [some (.ref (it_K + 7)), some (.ref 0), some (.ref 66), some (.int v3)]) (st1 := [(.int ((kc 7).2 (Int32.toNatClampNeg (v3 + (1 : Int32))))), (.ref 0)]) (mem1 := m) rfl rfl rfl rfl ?_
                                              refine it_V.call it_cd363 it_m363 rfl it_m206 [(.ref 0), (.int ((kc 7).2 (Int32.toNatClampNeg (v3 + (1 : Int32)))))] [] rfl rfl ⟨Nat.le_of_ble_eq_true rfl, Nat.le_of_ble_eq_true rfl, Nat.le_of_ble_eq_true rfl, Nat.le_of_ble_eq_true rfl, rfl⟩ (s_206 kc ((kc 7).2 (Int32.toNatClampNeg (v3 + (1 : Int32)))) m _ h) ?_
                                              rintro _ m170 ⟨r169, rfl, h⟩
                                              refine it_V.at (pc1 := 808) (ls1 := [some (.ref (it_K + 7)), some (.ref 0), some (.ref 66), some (.int v3)]) (st1 := [(.int r169)]) (mem1 := m170) rfl rfl rfl rfl ?_
                                              refine it_V.sN it_cd363 it_m363 5 (pc1 := 813) (ls1 := [some (.ref (it_K + 7)), some (.ref 0), some (.ref 66), some (.int v3)]) (st1 := [(.int (v3 + (1 : Int32))), (.ref (it_K + 7)), (.ref 66), (.int r169)]) (mem1 := m170) rfl ?_
                                              obtain ⟨g171, h⟩ := h
                                              refine it_V.kald it_cd363 it_m363 rfl (by decide) g171 ?_
                                              refine it_V.at (pc1 := 814) (ls1 := [some (.ref (it_K + 7)), some (.ref 0), some (.ref 66), some (.int v3)]) (st1 := [(.int ((kc 7).2 (Int32.toNatClampNeg (v3 + (1 : Int32))))), (.ref 66), (.int r169)]) (mem1 := m170) rfl rfl rfl rfl ?_
                                              refine it_V.call it_cd363 it_m363 rfl it_m356 [(.ref 66), (.int ((kc 7).2 (Int32.toNatClampNeg (v3 + (1 : Int32)))))] [(.int r169)] rfl rfl ⟨Nat.le_of_ble_eq_true rfl, Nat.le_of_ble_eq_true rfl, Nat.le_of_ble_eq_true rfl, Nat.le_of_ble_eq_true rfl, rfl⟩ (s_356 kc ((kc 7).2 (Int32.toNatClampNeg (v3 + (1 : Int32)))) m170 _ h) ?_
                                              rintro _ m173 ⟨r172, rfl, h⟩
                                              refine it_V.at (pc1 := 817) (ls1 := [some (.ref (it_K + 7)), some (.ref 0), some (.ref 66), some (.int v3)]) (st1 := [(.int r172), (.int r169)]) (mem1 := m173) rfl rfl rfl rfl ?_
                                              refine it_V.sN it_cd363 it_m363 1 (pc1 := (if r169 = r172 then 934 else 820)) (ls1 := [some (.ref (it_K + 7)), some (.ref 0), some (.ref 66), some (.int v3)]) (st1 := []) (mem1 := m173) rfl ?_
                                              refine it_V.ite (fun c174 => ?_) (fun c174 => ?_)
                                              · have h := h.1 c174
                                                exact s_363_934 kc Φ _ _ _ _ _ _ _ _ _ _ _ _ _ _ _ _ _ _ _ _ _ _ _ _ _ _ ih hK205 hK228 hK251 hK330 hK343 hK366 hK389 hK438 hK461 hK494 hK543 hK566 hK589 hK622 hK655 hK678 hK721 hK764 hK797 hK820 hK843 hK876 hK919 hK932 hK940 v3 m173 h
                                              · have h := h.2 c174
                                                refine it_V.weak (l := [none, none, none, none]) trivial ?_
                                                exact hK820 m173 h
                                            · have h := h.2 c167
                                              refine it_V.ite (fun c175 => ?_) (fun c175 => ?_)
                                              · have h := h.1 c175
                                                refine it_V.sN it_cd363 it_m363 5 (pc1 := 827) (ls1 := [some (.ref (it_K + 7)), some (.ref 0), some (.ref 66), some (.int v3)]) (st1 := [(.int (v3 + (1 : Int32))), (.ref (it_K + 7)), (.ref 0)]) (mem1 := m) rfl ?_
                                                obtain ⟨g176, h⟩ := h
                                                refine it_V.kald it_cd363 it_m363 rfl (by decide) g176 ?_
                                                refine it_V.at (pc1 := 828) (ls1 := [some (.ref (it_K + 7)), some (.ref 0), some (.ref 66), some (.int v3)]) (st1 := [(.int ((kc 7).2 (Int32.toNatClampNeg (v3 + (1 : Int32))))), (.ref 0)]) (mem1 := m) rfl rfl rfl rfl ?_
                                                refine it_V.call it_cd363 it_m363 rfl it_m207 [(.ref 0), (.int ((kc 7).2 (Int32.toNatClampNeg (v3 + (1 : Int32)))))] [] rfl rfl ⟨Nat.le_of_ble_eq_true rfl, Nat.le_of_ble_eq_true rfl, Nat.le_of_ble_eq_true rfl, Nat.le_of_ble_eq_true rfl, rfl⟩ (s_207 kc ((kc 7).2 (Int32.toNatClampNeg (v3 + (1 : Int32)))) m _ h) ?_
                                                rintro _ m178 ⟨r177, rfl, h⟩
                                                refine it_V.at (pc1 := 831) (ls1 := [some (.ref (it_K + 7)), some (.ref 0), some (.ref 66), some (.int v3)]) (st1 := [(.int r177)]) (mem1 := m178) rfl rfl rfl rfl ?_
                                                refine it_V.sN it_cd363 it_m363 5 (pc1 := 836) (ls1 := [some (.ref (it_K + 7)), some (.ref 0), some (.ref 66), some (.int v3)]) (st1 := [(.int (v3 + (1 : Int32))), (.ref (it_K + 7)), (.ref 66), (.int r177)]) (mem1 := m178) rfl ?_
                                                obtain ⟨g179, h⟩ := h
                                                refine it_V.kald it_cd363 it_m363 rfl (by decide) g179 ?_
                                                refine it_V.at (pc1 := 837) (ls1 := [some (.ref (it_K + 7)), some (.ref 0), some (.ref 66), some (.int v3)]) (st1 := [(.int ((kc 7).2 (Int32.toNatClampNeg (v3 + (1 : Int32))))), (.ref 66), (.int r177)]) (mem1 := m178) rfl rfl rfl rfl ?_
                                                refine it_V.call it_cd363 it_m363 rfl it_m357 [(.ref 66), (.int ((kc 7).2 (Int32.toNatClampNeg (v3 + (1 : Int32)))))] [(.int r177)] rfl rfl ⟨Nat.le_of_ble_eq_true rfl, Nat.le_of_ble_eq_true rfl, Nat.le_of_ble_eq_true rfl, Nat.le_of_ble_eq_true rfl, rfl⟩ (s_357 kc ((kc 7).2 (Int32.toNatClampNeg (v3 + (1 : Int32)))) m178 _ h) ?_
                                                rintro _ m181 ⟨r180, rfl, h⟩
                                                refine it_V.at (pc1 := 840) (ls1 := [some (.ref (it_K + 7)), some (.ref 0), some (.ref 66), some (.int v3)]) (st1 := [(.int r180), (.int r177)]) (mem1 := m181) rfl rfl rfl rfl ?_
                                                refine it_V.sN it_cd363 it_m363 1 (pc1 := (if r177 = r180 then 934 else 843)) (ls1 := [some (.ref (it_K + 7)), some (.ref 0), some (.ref 66), some (.int v3)]) (st1 := []) (mem1 := m181) rfl ?_
                                                refine it_V.ite (fun c182 => ?_) (fun c182 => ?_)
                                                · have h := h.1 c182
                                                  exact s_363_934 kc Φ _ _ _ _ _ _ _ _ _ _ _ _ _ _ _ _ _ _ _ _ _ _ _ _ _ _ ih hK205 hK228 hK251 hK330 hK343 hK366 hK389 hK438 hK461 hK494 hK543 hK566 hK589 hK622 hK655 hK678 hK721 hK764 hK797 hK820 hK843 hK876 hK919 hK932 hK940 v3 m181 h
                                                · have h := h.2 c182
                                                  refine it_V.weak (l := [none, none, none, none]) trivial ?_
                                                  exact hK843 m181 h
                                              · have h := h.2 c175
                                                refine it_V.ite (fun c183 => ?_) (fun c183 => ?_)
                                                · have h := h.1 c183
                                                  refine it_V.sN it_cd363 it_m363 5 (pc1 := 850) (ls1 := [some (.ref (it_K + 7)), some (.ref 0), some (.ref 66), some (.int v3)]) (st1 := [(.int (v3 + (1 : Int32))), (.ref (it_K + 7)), (.ref 0)]) (mem1 := m) rfl ?_
                                                  obtain ⟨g184, h⟩ := h
                                                  refine it_V.kald it_cd363 it_m363 rfl (by decide) g184 ?_
                                                  refine it_V.at (pc1 := 851) (ls1 := [some (.ref (it_K + 7)), some (.ref 0), some (.ref 66), some (.int v3)]) (st1 := [(.int ((kc 7).2 (Int32.toNatClampNeg (v3 + (1 : Int32))))), (.ref 0)]) (mem1 := m) rfl rfl rfl rfl ?_
                                                  refine it_V.sN it_cd363 it_m363 4 (pc1 := 855) (ls1 := [some (.ref (it_K + 7)), some (.ref 0), some (.ref 66), some (.int v3)]) (st1 := [(.int (v3 + (2 : Int32))), (.ref (it_K + 7)), (.int ((kc 7).2 (Int32.toNatClampNeg (v3 + (1 : Int32))))), (.ref 0)]) (mem1 := m) rfl ?_
                                                  obtain ⟨g185, h⟩ := h
                                                  refine it_V.kald it_cd363 it_m363 rfl (by decide) g185 ?_
                                                  refine it_V.at (pc1 := 856) (ls1 := [some (.ref (it_K + 7)), some (.ref 0), some (.ref 66), some (.int v3)]) (st1 := [(.int ((kc 7).2 (Int32.toNatClampNeg (v3 + (2 : Int32))))), (.int ((kc 7).2 (Int32.toNatClampNeg (v3 + (1 : Int32))))), (.ref 0)]) (mem1 := m) rfl rfl rfl rfl ?_
                                                  refine it_V.call it_cd363 it_m363 rfl it_m208 [(.ref 0), (.int ((kc 7).2 (Int32.toNatClampNeg (v3 + (1 : Int32))))), (.int ((kc 7).2 (Int32.toNatClampNeg (v3 + (2 : Int32)))))] [] rfl rfl ⟨Nat.le_of_ble_eq_true rfl, Nat.le_of_ble_eq_true rfl, Nat.le_of_ble_eq_true rfl, Nat.le_of_ble_eq_true rfl, rfl⟩ (s_208 kc ((kc 7).2 (Int32.toNatClampNeg (v3 + (1 : Int32)))) ((kc 7).2 (Int32.toNatClampNeg (v3 + (2 : Int32)))) m _ h) ?_
                                                  rintro _ m187 ⟨r186, rfl, h⟩
                                                  refine it_V.at (pc1 := 859) (ls1 := [some (.ref (it_K + 7)), some (.ref 0), some (.ref 66), some (.int v3)]) (st1 := [(.int r186)]) (mem1 := m187) rfl rfl rfl rfl ?_
                                                  refine it_V.sN it_cd363 it_m363 5 (pc1 := 864) (ls1 := [some (.ref (it_K + 7)), some (.ref 0), some (.ref 66), some (.int v3)]) (st1 := [(.int (v3 + (1 : Int32))), (.ref (it_K + 7)), (.ref 66), (.int r186)]) (mem1 := m187) rfl ?_
                                                  obtain ⟨g188, h⟩ := h
                                                  refine it_V.kald it_cd363 it_m363 rfl (by decide) g188 ?_
                                                  refine it_V.at (pc1 := 865) (ls1 := [some (.ref (it_K + 7)), some (.ref 0), some (.ref 66), some (.int v3)]) (st1 := [(.int ((kc 7).2 (Int32.toNatClampNeg (v3 + (1 : Int32))))), (.ref 66), (.int r186)]) (mem1 := m187) rfl rfl rfl rfl ?_
                                                  refine it_V.sN it_cd363 it_m363 4 (pc1 := 869) (ls1 := [some (.ref (it_K + 7)), some (.ref 0), some (.ref 66), some (.int v3)]) (st1 := [(.int (v3 + (2 : Int32))), (.ref (it_K + 7)), (.int ((kc 7).2 (Int32.toNatClampNeg (v3 + (1 : Int32))))), (.ref 66), (.int r186)]) (mem1 := m187) rfl ?_
                                                  obtain ⟨g189, h⟩ := h
                                                  refine it_V.kald it_cd363 it_m363 rfl (by decide) g189 ?_
                                                  refine it_V.at (pc1 := 870) (ls1 := [some (.ref (it_K + 7)), some (.ref 0), some (.ref 66), some (.int v3)]) (st1 := [(.int ((kc 7).2 (Int32.toNatClampNeg (v3 + (2 : Int32))))), (.int ((kc 7).2 (Int32.toNatClampNeg (v3 + (1 : Int32))))), (.ref 66), (.int r186)]) (mem1 := m187) rfl rfl rfl rfl ?_
                                                  refine it_V.call it_cd363 it_m363 rfl it_m358 [(.ref 66), (.int ((kc 7).2 (Int32.toNatClampNeg (v3 + (1 : Int32))))), (.int ((kc 7).2 (Int32.toNatClampNeg (v3 + (2 : Int32)))))] [(.int r186)] rfl rfl ⟨Nat.le_of_ble_eq_true rfl, Nat.le_of_ble_eq_true rfl, Nat.le_of_ble_eq_true rfl, Nat.le_of_ble_eq_true rfl, rfl⟩ (s_358 kc ((kc 7).2 (Int32.toNatClampNeg (v3 + (1 : Int32)))) ((kc 7).2 (Int32.toNatClampNeg (v3 + (2 : Int32)))) m187 _ h) ?_
                                                  rintro _ m191 ⟨r190, rfl, h⟩
                                                  refine it_V.at (pc1 := 873) (ls1 := [some (.ref (it_K + 7)), some (.ref 0), some (.ref 66), some (.int v3)]) (st1 := [(.int r190), (.int r186)]) (mem1 := m191) rfl rfl rfl rfl ?_
                                                  refine it_V.sN it_cd363 it_m363 1 (pc1 := (if r186 = r190 then 934 else 876)) (ls1 := [some (.ref (it_K + 7)), some (.ref 0), some (.ref 66), some (.int v3)]) (st1 := []) (mem1 := m191) rfl ?_
                                                  refine it_V.ite (fun c192 => ?_) (fun c192 => ?_)
                                                  · have h := h.1 c192
                                                    exact s_363_934 kc Φ _ _ _ _ _ _ _ _ _ _ _ _ _ _ _ _ _ _ _ _ _ _ _ _ _ _ ih hK205 hK228 hK251 hK330 hK343 hK366 hK389 hK438 hK461 hK494 hK543 hK566 hK589 hK622 hK655 hK678 hK721 hK764 hK797 hK820 hK843 hK876 hK919 hK932 hK940 v3 m191 h
                                                  · have h := h.2 c192
                                                    refine it_V.weak (l := [none, none, none, none]) trivial ?_
                                                    exact hK876 m191 h
                                                · have h := h.2 c183
                                                  refine it_V.ite (fun c193 => ?_) (fun c193 => ?_)
                                                  · have h := h.1 c193
                                                    refine it_V.sN it_cd363 it_m363 5 (pc1 := 883) (ls1 := [some (.ref (it_K + 7)), some (.ref 0), some (.ref 66), some (.int v3)]) (st1 := [(.int (v3 + (1 : Int32))), (.ref (it_K + 7)), (.ref 0)]) (mem1 := m) rfl ?_
                                                    obtain ⟨g194, h⟩ := h
                                                    refine it_V.kald it_cd363 it_m363 rfl (by decide) g194 ?_
                                                    refine it_V.at (pc1 := 884) (ls1 := [some (.ref (it_K + 7)), some (.ref 0), some (.ref 66), some (.int v3)]) (st1 := [(.int ((kc 7).2 (Int32.toNatClampNeg (v3 + (1 : Int32))))), (.ref 0)]) (mem1 := m) rfl rfl rfl rfl ?_
                                                    refine it_V.sN it_cd363 it_m363 4 (pc1 := 888) (ls1 := [some (.ref (it_K + 7)), some (.ref 0), some (.ref 66), some (.int v3)]) (st1 := [(.int (v3 + (2 : Int32))), (.ref (it_K + 7)), (.int ((kc 7).2 (Int32.toNatClampNeg (v3 + (1 : Int32))))), (.ref 0)]) (mem1 := m) rfl ?_
                                                    obtain ⟨g195, h⟩ := h
                                                    refine it_V.kald it_cd363 it_m363 rfl (by decide) g195 ?_
                                                    refine it_V.at (pc1 := 889) (ls1 := [some (.ref (it_K + 7)), some (.ref 0), some (.ref 66), some (.int v3)]) (st1 := [(.int ((kc 7).2 (Int32.toNatClampNeg (v3 + (2 : Int32))))), (.int ((kc 7).2 (Int32.toNatClampNeg (v3 + (1 : Int32))))), (.ref 0)]) (mem1 := m) rfl rfl rfl rfl ?_
                                                    refine it_V.sN it_cd363 it_m363 4 (pc1 := 893) (ls1 := [some (.ref (it_K + 7)), some (.ref 0), some (.ref 66), some (.int v3)]) (st1 := [(.int (v3 + (3 : Int32))), (.ref (it_K + 7)), (.int ((kc 7).2 (Int32.toNatClampNeg (v3 + (2 : Int32))))), (.int ((kc 7).2 (Int32.toNatClampNeg (v3 + (1 : Int32))))), (.ref 0)]) (mem1 := m) rfl ?_
                                                    obtain ⟨g196, h⟩ := h
                                                    refine it_V.kald it_cd363 it_m363 rfl (by decide) g196 ?_
                                                    refine it_V.at (pc1 := 894) (ls1 := [some (.ref (it_K + 7)), some (.ref 0), some (.ref 66), some (.int v3)]) (st1 := [(.int ((kc 7).2 (Int32.toNatClampNeg (v3 + (3 : Int32))))), (.int ((kc 7).2 (Int32.toNatClampNeg (v3 + (2 : Int32))))), (.int ((kc 7).2 (Int32.toNatClampNeg (v3 + (1 : Int32))))), (.ref 0)]) (mem1 := m) rfl rfl rfl rfl ?_
                                                    refine it_V.call it_cd363 it_m363 rfl it_m209 [(.ref 0), (.int ((kc 7).2 (Int32.toNatClampNeg (v3 + (1 : Int32))))), (.int ((kc 7).2 (Int32.toNatClampNeg (v3 + (2 : Int32))))), (.int ((kc 7).2 (Int32.toNatClampNeg (v3 + (3 : Int32)))))] [] rfl rfl ⟨Nat.le_of_ble_eq_true rfl, Nat.le_of_ble_eq_true rfl, Nat.le_of_ble_eq_true rfl, Nat.le_of_ble_eq_true rfl, rfl⟩ (s_209 kc ((kc 7).2 (Int32.toNatClampNeg (v3 + (1 : Int32)))) ((kc 7).2 (Int32.toNatClampNeg (v3 + (2 : Int32)))) ((kc 7).2 (Int32.toNatClampNeg (v3 + (3 : Int32)))) m _ h) ?_
                                                    rintro _ m198 ⟨r197, rfl, h⟩
                                                    refine it_V.at (pc1 := 897) (ls1 := [some (.ref (it_K + 7)), some (.ref 0), some (.ref 66), some (.int v3)]) (st1 := [(.int r197)]) (mem1 := m198) rfl rfl rfl rfl ?_
                                                    refine it_V.sN it_cd363 it_m363 5 (pc1 := 902) (ls1 := [some (.ref (it_K + 7)), some (.ref 0), some (.ref 66), some (.int v3)]) (st1 := [(.int (v3 + (1 : Int32))), (.ref (it_K + 7)), (.ref 66), (.int r197)]) (mem1 := m198) rfl ?_
                                                    obtain ⟨g199, h⟩ := h
                                                    refine it_V.kald it_cd363 it_m363 rfl (by decide) g199 ?_
                                                    refine it_V.at (pc1 := 903) (ls1 := [some (.ref (it_K + 7)), some (.ref 0), some (.ref 66), some (.int v3)]) (st1 := [(.int ((kc 7).2 (Int32.toNatClampNeg (v3 + (1 : Int32))))), (.ref 66), (.int r197)]) (mem1 := m198) rfl rfl rfl rfl ?_
                                                    refine it_V.sN it_cd363 it_m363 4 (pc1 := 907) (ls1 := [some (.ref (it_K + 7)), some (.ref 0), some (.ref 66), some (.int v3)]) (st1 := [(.int (v3 + (2 : Int32))), (.ref (it_K + 7)), (.int ((kc 7).2 (Int32.toNatClampNeg (v3 + (1 : Int32))))), (.ref 66), (.int r197)]) (mem1 := m198) rfl ?_
                                                    obtain ⟨g200, h⟩ := h
                                                    refine it_V.kald it_cd363 it_m363 rfl (by decide) g200 ?_
                                                    refine it_V.at (pc1 := 908) (ls1 := [some (.ref (it_K + 7)), some (.ref 0), some (.ref 66), some (.int v3)]) (st1 := [(.int ((kc 7).2 (Int32.toNatClampNeg (v3 + (2 : Int32))))), (.int ((kc 7).2 (Int32.toNatClampNeg (v3 + (1 : Int32))))), (.ref 66), (.int r197)]) (mem1 := m198) rfl rfl rfl rfl ?_
                                                    refine it_V.sN it_cd363 it_m363 4 (pc1 := 912) (ls1 := [some (.ref (it_K + 7)), some (.ref 0), some (.ref 66), some (.int v3)]) (st1 := [(.int (v3 + (3 : Int32))), (.ref (it_K + 7)), (.int ((kc 7).2 (Int32.toNatClampNeg (v3 + (2 : Int32))))), (.int ((kc 7).2 (Int32.toNatClampNeg (v3 + (1 : Int32))))), (.ref 66), (.int r197)]) (mem1 := m198) rfl ?_
                                                    obtain ⟨g201, h⟩ := h
                                                    refine it_V.kald it_cd363 it_m363 rfl (by decide) g201 ?_
                                                    refine it_V.at (pc1 := 913) (ls1 := [some (.ref (it_K + 7)), some (.ref 0), some (.ref 66), some (.int v3)]) (st1 := [(.int ((kc 7).2 (Int32.toNatClampNeg (v3 + (3 : Int32))))), (.int ((kc 7).2 (Int32.toNatClampNeg (v3 + (2 : Int32))))), (.int ((kc 7).2 (Int32.toNatClampNeg (v3 + (1 : Int32))))), (.ref 66), (.int r197)]) (mem1 := m198) rfl rfl rfl rfl ?_
                                                    refine it_V.call it_cd363 it_m363 rfl it_m243 [(.ref 66), (.int ((kc 7).2 (Int32.toNatClampNeg (v3 + (1 : Int32))))), (.int ((kc 7).2 (Int32.toNatClampNeg (v3 + (2 : Int32))))), (.int ((kc 7).2 (Int32.toNatClampNeg (v3 + (3 : Int32)))))] [(.int r197)] rfl rfl ⟨Nat.le_of_ble_eq_true rfl, Nat.le_of_ble_eq_true rfl, Nat.le_of_ble_eq_true rfl, Nat.le_of_ble_eq_true rfl, rfl⟩ (s_243 kc ((kc 7).2 (Int32.toNatClampNeg (v3 + (1 : Int32)))) ((kc 7).2 (Int32.toNatClampNeg (v3 + (2 : Int32)))) ((kc 7).2 (Int32.toNatClampNeg (v3 + (3 : Int32)))) m198 _ h) ?_
                                                    rintro _ m203 ⟨r202, rfl, h⟩
                                                    refine it_V.at (pc1 := 916) (ls1 := [some (.ref (it_K + 7)), some (.ref 0), some (.ref 66), some (.int v3)]) (st1 := [(.int r202), (.int r197)]) (mem1 := m203) rfl rfl rfl rfl ?_
                                                    refine it_V.sN it_cd363 it_m363 1 (pc1 := (if r197 = r202 then 934 else 919)) (ls1 := [some (.ref (it_K + 7)), some (.ref 0), some (.ref 66), some (.int v3)]) (st1 := []) (mem1 := m203) rfl ?_
                                                    refine it_V.ite (fun c204 => ?_) (fun c204 => ?_)
                                                    · have h := h.1 c204
                                                      exact s_363_934 kc Φ _ _ _ _ _ _ _ _ _ _ _ _ _ _ _ _ _ _ _ _ _ _ _ _ _ _ ih hK205 hK228 hK251 hK330 hK343 hK366 hK389 hK438 hK461 hK494 hK543 hK566 hK589 hK622 hK655 hK678 hK721 hK764 hK797 hK820 hK843 hK876 hK919 hK932 hK940 v3 m203 h
                                                    · have h := h.2 c204
                                                      refine it_V.weak (l := [none, none, none, none]) trivial ?_
                                                      exact hK919 m203 h
                                                  · have h := h.2 c193
                                                    refine it_V.ite (fun c205 => ?_) (fun c205 => ?_)
                                                    · have h := h.1 c205
                                                      refine it_V.sN it_cd363 it_m363 1 (pc1 := 922) (ls1 := [some (.ref (it_K + 7)), some (.ref 0), some (.ref 66), some (.int v3)]) (st1 := [(.ref 0)]) (mem1 := m) rfl ?_
                                                      refine it_V.call it_cd363 it_m363 rfl it_m210 [(.ref 0)] [] rfl rfl ⟨Nat.le_of_ble_eq_true rfl, Nat.le_of_ble_eq_true rfl, Nat.le_of_ble_eq_true rfl, Nat.le_of_ble_eq_true rfl, rfl⟩ (s_210 kc m _ h) ?_
                                                      rintro _ m207 ⟨r206, rfl, h⟩
                                                      refine it_V.at (pc1 := 925) (ls1 := [some (.ref (it_K + 7)), some (.ref 0), some (.ref 66), some (.int v3)]) (st1 := [(.int r206)]) (mem1 := m207) rfl rfl rfl rfl ?_
                                                      refine it_V.sN it_cd363 it_m363 1 (pc1 := 926) (ls1 := [some (.ref (it_K + 7)), some (.ref 0), some (.ref 66), some (.int v3)]) (st1 := [(.ref 66), (.int r206)]) (mem1 := m207) rfl ?_
                                                      refine it_V.call it_cd363 it_m363 rfl it_m359 [(.ref 66)] [(.int r206)] rfl rfl ⟨Nat.le_of_ble_eq_true rfl, Nat.le_of_ble_eq_true rfl, Nat.le_of_ble_eq_true rfl, Nat.le_of_ble_eq_true rfl, rfl⟩ (s_359 kc m207 _ h) ?_
                                                      rintro _ m209 ⟨r208, rfl, h⟩
                                                      refine it_V.at (pc1 := 929) (ls1 := [some (.ref (it_K + 7)), some (.ref 0), some (.ref 66), some (.int v3)]) (st1 := [(.int r208), (.int r206)]) (mem1 := m209) rfl rfl rfl rfl ?_
                                                      refine it_V.sN it_cd363 it_m363 1 (pc1 := (if r206 = r208 then 934 else 932)) (ls1 := [some (.ref (it_K + 7)), some (.ref 0), some (.ref 66), some (.int v3)]) (st1 := []) (mem1 := m209) rfl ?_
                                                      refine it_V.ite (fun c210 => ?_) (fun c210 => ?_)
                                                      · have h := h.1 c210
                                                        exact s_363_934 kc Φ _ _ _ _ _ _ _ _ _ _ _ _ _ _ _ _ _ _ _ _ _ _ _ _ _ _ ih hK205 hK228 hK251 hK330 hK343 hK366 hK389 hK438 hK461 hK494 hK543 hK566 hK589 hK622 hK655 hK678 hK721 hK764 hK797 hK820 hK843 hK876 hK919 hK932 hK940 v3 m209 h
                                                      · have h := h.2 c210
                                                        refine it_V.weak (l := [none, none, none, none]) trivial ?_
                                                        exact hK932 m209 h
                                                    · have h := h.2 c205
                                                      exact s_363_934 kc Φ _ _ _ _ _ _ _ _ _ _ _ _ _ _ _ _ _ _ _ _ _ _ _ _ _ _ ih hK205 hK228 hK251 hK330 hK343 hK366 hK389 hK438 hK461 hK494 hK543 hK566 hK589 hK622 hK655 hK678 hK721 hK764 hK797 hK820 hK843 hK876 hK919 hK932 hK940 v3 m h
set_option maxRecDepth 100000 in
set_option maxHeartbeats 4000000 in
theorem s_363_205 (kc : it_Kc) (Φ : Int32 → it_Me → Prop) (m : it_Me) (h : w_363_205 kc Φ m) : it_V kc it_sh0 363 205 [none, none, none, none] [] m (it_Pi Φ) := by
  rw [w_363_205] at h
  refine it_V.sN it_cd363 it_m363 1 (pc1 := 206) (ls1 := [none, none, none, none]) (st1 := [(.int (0 : Int32))]) (mem1 := m) rfl ?_
  exact it_V.ret it_cd363 it_m363 rfl rfl ⟨_, rfl, h⟩
set_option maxRecDepth 100000 in
set_option maxHeartbeats 4000000 in
theorem s_363_228 (kc : it_Kc) (Φ : Int32 → it_Me → Prop) (m : it_Me) (h : w_363_228 kc Φ m) : it_V kc it_sh0 363 228 [none, none, none, none] [] m (it_Pi Φ) := by
  rw [w_363_228] at h
  refine it_V.sN it_cd363 it_m363 1 (pc1 := 229) (ls1 := [none, none, none, none]) (st1 := [(.int (0 : Int32))]) (mem1 := m) rfl ?_
  exact it_V.ret it_cd363 it_m363 rfl rfl ⟨_, rfl, h⟩
set_option maxRecDepth 100000 in
set_option maxHeartbeats 4000000 in
theorem s_363_251 (kc : it_Kc) (Φ : Int32 → it_Me → Prop) (m : it_Me) (h : w_363_251 kc Φ m) : it_V kc it_sh0 363 251 [none, none, none, none] [] m (it_Pi Φ) := by
  rw [w_363_251] at h
  refine it_V.sN it_cd363 it_m363 1 (pc1 := 252) (ls1 := [none, none, none, none]) (st1 := [(.int (0 : Int32))]) (mem1 := m) rfl ?_
  exact it_V.ret it_cd363 it_m363 rfl rfl ⟨_, rfl, h⟩
set_option maxRecDepth 100000 in
set_option maxHeartbeats 4000000 in
theorem s_363_330 (kc : it_Kc) (Φ : Int32 → it_Me → Prop) (m : it_Me) (h : w_363_330 kc Φ m) : it_V kc it_sh0 363 330 [none, none, none, none] [] m (it_Pi Φ) := by
  rw [w_363_330] at h
  refine it_V.sN it_cd363 it_m363 1 (pc1 := 331) (ls1 := [none, none, none, none]) (st1 := [(.int (0 : Int32))]) (mem1 := m) rfl ?_
  exact it_V.ret it_cd363 it_m363 rfl rfl ⟨_, rfl, h⟩
set_option maxRecDepth 100000 in
set_option maxHeartbeats 4000000 in
theorem s_363_343 (kc : it_Kc) (Φ : Int32 → it_Me → Prop) (m : it_Me) (h : w_363_343 kc Φ m) : it_V kc it_sh0 363 343 [none, none, none, none] [] m (it_Pi Φ) := by
  rw [w_363_343] at h
  refine it_V.sN it_cd363 it_m363 1 (pc1 := 344) (ls1 := [none, none, none, none]) (st1 := [(.int (0 : Int32))]) (mem1 := m) rfl ?_
  exact it_V.ret it_cd363 it_m363 rfl rfl ⟨_, rfl, h⟩
set_option maxRecDepth 100000 in
set_option maxHeartbeats 4000000 in
theorem s_363_366 (kc : it_Kc) (Φ : Int32 → it_Me → Prop) (m : it_Me) (h : w_363_366 kc Φ m) : it_V kc it_sh0 363 366 [none, none, none, none] [] m (it_Pi Φ) := by
  rw [w_363_366] at h
  refine it_V.sN it_cd363 it_m363 1 (pc1 := 367) (ls1 := [none, none, none, none]) (st1 := [(.int (0 : Int32))]) (mem1 := m) rfl ?_
  exact it_V.ret it_cd363 it_m363 rfl rfl ⟨_, rfl, h⟩
set_option maxRecDepth 100000 in
set_option maxHeartbeats 4000000 in
theorem s_363_389 (kc : it_Kc) (Φ : Int32 → it_Me → Prop) (m : it_Me) (h : w_363_389 kc Φ m) : it_V kc it_sh0 363 389 [none, none, none, none] [] m (it_Pi Φ) := by
  rw [w_363_389] at h
  refine it_V.sN it_cd363 it_m363 1 (pc1 := 390) (ls1 := [none, none, none, none]) (st1 := [(.int (0 : Int32))]) (mem1 := m) rfl ?_
  exact it_V.ret it_cd363 it_m363 rfl rfl ⟨_, rfl, h⟩
set_option maxRecDepth 100000 in
set_option maxHeartbeats 4000000 in
theorem s_363_438 (kc : it_Kc) (Φ : Int32 → it_Me → Prop) (m : it_Me) (h : w_363_438 kc Φ m) : it_V kc it_sh0 363 438 [none, none, none, none] [] m (it_Pi Φ) := by
  rw [w_363_438] at h
  refine it_V.sN it_cd363 it_m363 1 (pc1 := 439) (ls1 := [none, none, none, none]) (st1 := [(.int (0 : Int32))]) (mem1 := m) rfl ?_
  exact it_V.ret it_cd363 it_m363 rfl rfl ⟨_, rfl, h⟩
set_option maxRecDepth 100000 in
set_option maxHeartbeats 4000000 in
theorem s_363_461 (kc : it_Kc) (Φ : Int32 → it_Me → Prop) (m : it_Me) (h : w_363_461 kc Φ m) : it_V kc it_sh0 363 461 [none, none, none, none] [] m (it_Pi Φ) := by
  rw [w_363_461] at h
  refine it_V.sN it_cd363 it_m363 1 (pc1 := 462) (ls1 := [none, none, none, none]) (st1 := [(.int (0 : Int32))]) (mem1 := m) rfl ?_
  exact it_V.ret it_cd363 it_m363 rfl rfl ⟨_, rfl, h⟩
set_option maxRecDepth 100000 in
set_option maxHeartbeats 4000000 in
theorem s_363_494 (kc : it_Kc) (Φ : Int32 → it_Me → Prop) (m : it_Me) (h : w_363_494 kc Φ m) : it_V kc it_sh0 363 494 [none, none, none, none] [] m (it_Pi Φ) := by
  rw [w_363_494] at h
  refine it_V.sN it_cd363 it_m363 1 (pc1 := 495) (ls1 := [none, none, none, none]) (st1 := [(.int (0 : Int32))]) (mem1 := m) rfl ?_
  exact it_V.ret it_cd363 it_m363 rfl rfl ⟨_, rfl, h⟩
set_option maxRecDepth 100000 in
set_option maxHeartbeats 4000000 in
theorem s_363_543 (kc : it_Kc) (Φ : Int32 → it_Me → Prop) (m : it_Me) (h : w_363_543 kc Φ m) : it_V kc it_sh0 363 543 [none, none, none, none] [] m (it_Pi Φ) := by
  rw [w_363_543] at h
  refine it_V.sN it_cd363 it_m363 1 (pc1 := 544) (ls1 := [none, none, none, none]) (st1 := [(.int (0 : Int32))]) (mem1 := m) rfl ?_
  exact it_V.ret it_cd363 it_m363 rfl rfl ⟨_, rfl, h⟩
set_option maxRecDepth 100000 in
set_option maxHeartbeats 4000000 in
theorem s_363_566 (kc : it_Kc) (Φ : Int32 → it_Me → Prop) (m : it_Me) (h : w_363_566 kc Φ m) : it_V kc it_sh0 363 566 [none, none, none, none] [] m (it_Pi Φ) := by
  rw [w_363_566] at h
  refine it_V.sN it_cd363 it_m363 1 (pc1 := 567) (ls1 := [none, none, none, none]) (st1 := [(.int (0 : Int32))]) (mem1 := m) rfl ?_
  exact it_V.ret it_cd363 it_m363 rfl rfl ⟨_, rfl, h⟩
set_option maxRecDepth 100000 in
set_option maxHeartbeats 4000000 in
theorem s_363_589 (kc : it_Kc) (Φ : Int32 → it_Me → Prop) (m : it_Me) (h : w_363_589 kc Φ m) : it_V kc it_sh0 363 589 [none, none, none, none] [] m (it_Pi Φ) := by
  rw [w_363_589] at h
  refine it_V.sN it_cd363 it_m363 1 (pc1 := 590) (ls1 := [none, none, none, none]) (st1 := [(.int (0 : Int32))]) (mem1 := m) rfl ?_
  exact it_V.ret it_cd363 it_m363 rfl rfl ⟨_, rfl, h⟩
set_option maxRecDepth 100000 in
set_option maxHeartbeats 4000000 in
theorem s_363_622 (kc : it_Kc) (Φ : Int32 → it_Me → Prop) (m : it_Me) (h : w_363_622 kc Φ m) : it_V kc it_sh0 363 622 [none, none, none, none] [] m (it_Pi Φ) := by
  rw [w_363_622] at h
  refine it_V.sN it_cd363 it_m363 1 (pc1 := 623) (ls1 := [none, none, none, none]) (st1 := [(.int (0 : Int32))]) (mem1 := m) rfl ?_
  exact it_V.ret it_cd363 it_m363 rfl rfl ⟨_, rfl, h⟩
set_option maxRecDepth 100000 in
set_option maxHeartbeats 4000000 in
theorem s_363_655 (kc : it_Kc) (Φ : Int32 → it_Me → Prop) (m : it_Me) (h : w_363_655 kc Φ m) : it_V kc it_sh0 363 655 [none, none, none, none] [] m (it_Pi Φ) := by
  rw [w_363_655] at h
  refine it_V.sN it_cd363 it_m363 1 (pc1 := 656) (ls1 := [none, none, none, none]) (st1 := [(.int (0 : Int32))]) (mem1 := m) rfl ?_
  exact it_V.ret it_cd363 it_m363 rfl rfl ⟨_, rfl, h⟩
set_option maxRecDepth 100000 in
set_option maxHeartbeats 4000000 in
theorem s_363_678 (kc : it_Kc) (Φ : Int32 → it_Me → Prop) (m : it_Me) (h : w_363_678 kc Φ m) : it_V kc it_sh0 363 678 [none, none, none, none] [] m (it_Pi Φ) := by
  rw [w_363_678] at h
  refine it_V.sN it_cd363 it_m363 1 (pc1 := 679) (ls1 := [none, none, none, none]) (st1 := [(.int (0 : Int32))]) (mem1 := m) rfl ?_
  exact it_V.ret it_cd363 it_m363 rfl rfl ⟨_, rfl, h⟩
set_option maxRecDepth 100000 in
set_option maxHeartbeats 4000000 in
theorem s_363_721 (kc : it_Kc) (Φ : Int32 → it_Me → Prop) (m : it_Me) (h : w_363_721 kc Φ m) : it_V kc it_sh0 363 721 [none, none, none, none] [] m (it_Pi Φ) := by
  rw [w_363_721] at h
  refine it_V.sN it_cd363 it_m363 1 (pc1 := 722) (ls1 := [none, none, none, none]) (st1 := [(.int (0 : Int32))]) (mem1 := m) rfl ?_
  exact it_V.ret it_cd363 it_m363 rfl rfl ⟨_, rfl, h⟩
set_option maxRecDepth 100000 in
set_option maxHeartbeats 4000000 in
theorem s_363_764 (kc : it_Kc) (Φ : Int32 → it_Me → Prop) (m : it_Me) (h : w_363_764 kc Φ m) : it_V kc it_sh0 363 764 [none, none, none, none] [] m (it_Pi Φ) := by
  rw [w_363_764] at h
  refine it_V.sN it_cd363 it_m363 1 (pc1 := 765) (ls1 := [none, none, none, none]) (st1 := [(.int (0 : Int32))]) (mem1 := m) rfl ?_
  exact it_V.ret it_cd363 it_m363 rfl rfl ⟨_, rfl, h⟩
set_option maxRecDepth 100000 in
set_option maxHeartbeats 4000000 in
theorem s_363_797 (kc : it_Kc) (Φ : Int32 → it_Me → Prop) (m : it_Me) (h : w_363_797 kc Φ m) : it_V kc it_sh0 363 797 [none, none, none, none] [] m (it_Pi Φ) := by
  rw [w_363_797] at h
  refine it_V.sN it_cd363 it_m363 1 (pc1 := 798) (ls1 := [none, none, none, none]) (st1 := [(.int (0 : Int32))]) (mem1 := m) rfl ?_
  exact it_V.ret it_cd363 it_m363 rfl rfl ⟨_, rfl, h⟩
set_option maxRecDepth 100000 in
set_option maxHeartbeats 4000000 in
theorem s_363_820 (kc : it_Kc) (Φ : Int32 → it_Me → Prop) (m : it_Me) (h : w_363_820 kc Φ m) : it_V kc it_sh0 363 820 [none, none, none, none] [] m (it_Pi Φ) := by
  rw [w_363_820] at h
  refine it_V.sN it_cd363 it_m363 1 (pc1 := 821) (ls1 := [none, none, none, none]) (st1 := [(.int (0 : Int32))]) (mem1 := m) rfl ?_
  exact it_V.ret it_cd363 it_m363 rfl rfl ⟨_, rfl, h⟩
set_option maxRecDepth 100000 in
set_option maxHeartbeats 4000000 in
theorem s_363_843 (kc : it_Kc) (Φ : Int32 → it_Me → Prop) (m : it_Me) (h : w_363_843 kc Φ m) : it_V kc it_sh0 363 843 [none, none, none, none] [] m (it_Pi Φ) := by
  rw [w_363_843] at h
  refine it_V.sN it_cd363 it_m363 1 (pc1 := 844) (ls1 := [none, none, none, none]) (st1 := [(.int (0 : Int32))]) (mem1 := m) rfl ?_
  exact it_V.ret it_cd363 it_m363 rfl rfl ⟨_, rfl, h⟩
set_option maxRecDepth 100000 in
set_option maxHeartbeats 4000000 in
theorem s_363_876 (kc : it_Kc) (Φ : Int32 → it_Me → Prop) (m : it_Me) (h : w_363_876 kc Φ m) : it_V kc it_sh0 363 876 [none, none, none, none] [] m (it_Pi Φ) := by
  rw [w_363_876] at h
  refine it_V.sN it_cd363 it_m363 1 (pc1 := 877) (ls1 := [none, none, none, none]) (st1 := [(.int (0 : Int32))]) (mem1 := m) rfl ?_
  exact it_V.ret it_cd363 it_m363 rfl rfl ⟨_, rfl, h⟩
set_option maxRecDepth 100000 in
set_option maxHeartbeats 4000000 in
theorem s_363_919 (kc : it_Kc) (Φ : Int32 → it_Me → Prop) (m : it_Me) (h : w_363_919 kc Φ m) : it_V kc it_sh0 363 919 [none, none, none, none] [] m (it_Pi Φ) := by
  rw [w_363_919] at h
  refine it_V.sN it_cd363 it_m363 1 (pc1 := 920) (ls1 := [none, none, none, none]) (st1 := [(.int (0 : Int32))]) (mem1 := m) rfl ?_
  exact it_V.ret it_cd363 it_m363 rfl rfl ⟨_, rfl, h⟩
set_option maxRecDepth 100000 in
set_option maxHeartbeats 4000000 in
theorem s_363_932 (kc : it_Kc) (Φ : Int32 → it_Me → Prop) (m : it_Me) (h : w_363_932 kc Φ m) : it_V kc it_sh0 363 932 [none, none, none, none] [] m (it_Pi Φ) := by
  rw [w_363_932] at h
  refine it_V.sN it_cd363 it_m363 1 (pc1 := 933) (ls1 := [none, none, none, none]) (st1 := [(.int (0 : Int32))]) (mem1 := m) rfl ?_
  exact it_V.ret it_cd363 it_m363 rfl rfl ⟨_, rfl, h⟩
set_option maxRecDepth 100000 in
set_option maxHeartbeats 4000000 in
theorem s_363_940 (kc : it_Kc) (Φ : Int32 → it_Me → Prop) (m : it_Me) (h : w_363_940 kc Φ m) : it_V kc it_sh0 363 940 [none, none, none, none] [] m (it_Pi Φ) := by
  rw [w_363_940] at h
  refine it_V.sN it_cd363 it_m363 1 (pc1 := 941) (ls1 := [none, none, none, none]) (st1 := [(.int (1 : Int32))]) (mem1 := m) rfl ?_
  exact it_V.ret it_cd363 it_m363 rfl rfl ⟨_, rfl, h⟩
set_option maxRecDepth 100000 in
set_option maxHeartbeats 4000000 in
theorem s_363 (kc : it_Kc) (x3 : Int32) (m : it_Me) (Φ : Int32 → it_Me → Prop) (h : w_363 kc x3 m Φ) : it_V kc it_sh0 363 18 (it_loc0 [(.ref (it_K + 7)), (.ref 0), (.ref 66), (.int x3)] 4) [] m (it_Pi Φ) := by
  rw [w_363] at h
  refine it_V.at (pc1 := 18) (ls1 := [some (.ref (it_K + 7)), some (.ref 0), some (.ref 66), some (.int x3)]) (st1 := []) (mem1 := m) rfl rfl rfl rfl ?_
  obtain ⟨n, h⟩ := h
  exact s_363_18 kc Φ _ _ _ _ _ _ _ _ _ _ _ _ _ _ _ _ _ _ _ _ _ _ _ _ _ (fun m h => s_363_205 kc Φ m h) (fun m h => s_363_228 kc Φ m h) (fun m h => s_363_251 kc Φ m h) (fun m h => s_363_330 kc Φ m h) (fun m h => s_363_343 kc Φ m h) (fun m h => s_363_366 kc Φ m h) (fun m h => s_363_389 kc Φ m h) (fun m h => s_363_438 kc Φ m h) (fun m h => s_363_461 kc Φ m h) (fun m h => s_363_494 kc Φ m h) (fun m h => s_363_543 kc Φ m h) (fun m h => s_363_566 kc Φ m h) (fun m h => s_363_589 kc Φ m h) (fun m h => s_363_622 kc Φ m h) (fun m h => s_363_655 kc Φ m h) (fun m h => s_363_678 kc Φ m h) (fun m h => s_363_721 kc Φ m h) (fun m h => s_363_764 kc Φ m h) (fun m h => s_363_797 kc Φ m h) (fun m h => s_363_820 kc Φ m h) (fun m h => s_363_843 kc Φ m h) (fun m h => s_363_876 kc Φ m h) (fun m h => s_363_919 kc Φ m h) (fun m h => s_363_932 kc Φ m h) (fun m h => s_363_940 kc Φ m h) n x3 m h
