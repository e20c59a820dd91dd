-- THE RELATION of both sides
/-- ground -/
def rG (I : am_I) (R C A : Int) (lk : Int → Int) : Prop := (mg I R C A) ∧ (mW I C A) ∧ (cg I R C A lk) ∧ (gm_isL A lk (I 5)) ∧ (cW I) ∧ (I 86 = lk) ∧ (∀ p, 0 ≤ p → p < A → lk p = 0 ∨ lk p = 1) ∧ (1 ≤ gm_L A lk)
theorem rG.m {I : am_I} {R C A : Int} {lk : Int → Int} (h : rG I R C A lk) : mg I R C A := h.1
theorem rG.w {I : am_I} {R C A : Int} {lk : Int → Int} (h : rG I R C A lk) : mW I C A := h.2.1
theorem rG.c {I : am_I} {R C A : Int} {lk : Int → Int} (h : rG I R C A lk) : cg I R C A lk := h.2.2.1
theorem rG.l {I : am_I} {R C A : Int} {lk : Int → Int} (h : rG I R C A lk) : gm_isL A lk (I 5) := h.2.2.2.1
theorem rG.t {I : am_I} {R C A : Int} {lk : Int → Int} (h : rG I R C A lk) : cW I := h.2.2.2.2.1
theorem rG.k {I : am_I} {R C A : Int} {lk : Int → Int} (h : rG I R C A lk) : I 86 = lk := h.2.2.2.2.2.1
theorem rG.b {I : am_I} {R C A : Int} {lk : Int → Int} (h : rG I R C A lk) : ∀ p, 0 ≤ p → p < A → lk p = 0 ∨ lk p = 1 := h.2.2.2.2.2.2.1
theorem rG.n {I : am_I} {R C A : Int} {lk : Int → Int} (h : rG I R C A lk) : 1 ≤ gm_L A lk := h.2.2.2.2.2.2.2
/-- rules -/
def rU (I : am_I) (U : Int → Int) : Prop := (cr I U) ∧ (∀ j, 6 ≤ j → j ≤ 12 → I 85 j = U j) ∧ (0 ≤ U 6 ∧ U 6 ≤ 3) ∧ (1 ≤ U 7 ∧ U 7 ≤ 50) ∧ (1 ≤ U 8 ∧ U 8 ≤ U 9 ∧ U 9 ≤ 20) ∧ (1 ≤ U 10 ∧ U 10 ≤ 4) ∧ (U 11 = 0 ∨ U 11 = 1) ∧ (0 ≤ U 12 ∧ U 12 ≤ 2)
theorem rU.c {I : am_I} {U : Int → Int} (h : rU I U) : cr I U := h.1
theorem rU.m {I : am_I} {U : Int → Int} (h : rU I U) : ∀ j, 6 ≤ j → j ≤ 12 → I 85 j = U j := h.2.1
theorem rU.u6 {I : am_I} {U : Int → Int} (h : rU I U) : 0 ≤ U 6 ∧ U 6 ≤ 3 := h.2.2.1
theorem rU.u7 {I : am_I} {U : Int → Int} (h : rU I U) : 1 ≤ U 7 ∧ U 7 ≤ 50 := h.2.2.2.1
theorem rU.u8 {I : am_I} {U : Int → Int} (h : rU I U) : 1 ≤ U 8 ∧ U 8 ≤ U 9 ∧ U 9 ≤ 20 := h.2.2.2.2.1
theorem rU.u10 {I : am_I} {U : Int → Int} (h : rU I U) : 1 ≤ U 10 ∧ U 10 ≤ 4 := h.2.2.2.2.2.1
theorem rU.u11 {I : am_I} {U : Int → Int} (h : rU I U) : U 11 = 0 ∨ U 11 = 1 := h.2.2.2.2.2.2.1
theorem rU.u12 {I : am_I} {U : Int → Int} (h : rU I U) : 0 ≤ U 12 ∧ U 12 ≤ 2 := h.2.2.2.2.2.2.2
/-- the position -/
def rP (I : am_I) (A : Int) (lk : Int → Int) (S : Int) : Prop := (∀ p, 0 ≤ p → p < 32 → I 17 p = I 87 p) ∧ (gm_zb A (I 87)) ∧ (gm_st A lk (I 87)) ∧ (I 18 0 = I 88 0 ∧ 0 ≤ I 88 0) ∧ (I 18 1 = I 88 1 ∧ 0 ≤ I 88 1) ∧ (I 16 2 = I 85 5) ∧ (I 85 5 = 0 ∨ I 85 5 = 1) ∧ (gm_tot A (I 87) + I 88 0 + I 88 1 = S) ∧ (S ≤ 600000)
theorem rP.e {I : am_I} {A : Int} {lk : Int → Int} {S : Int} (h : rP I A lk S) : ∀ p, 0 ≤ p → p < 32 → I 17 p = I 87 p := h.1
theorem rP.z {I : am_I} {A : Int} {lk : Int → Int} {S : Int} (h : rP I A lk S) : gm_zb A (I 87) := h.2.1
theorem rP.s {I : am_I} {A : Int} {lk : Int → Int} {S : Int} (h : rP I A lk S) : gm_st A lk (I 87) := h.2.2.1
theorem rP.s0 {I : am_I} {A : Int} {lk : Int → Int} {S : Int} (h : rP I A lk S) : I 18 0 = I 88 0 ∧ 0 ≤ I 88 0 := h.2.2.2.1
theorem rP.s1 {I : am_I} {A : Int} {lk : Int → Int} {S : Int} (h : rP I A lk S) : I 18 1 = I 88 1 ∧ 0 ≤ I 88 1 := h.2.2.2.2.1
theorem rP.w {I : am_I} {A : Int} {lk : Int → Int} {S : Int} (h : rP I A lk S) : I 16 2 = I 85 5 := h.2.2.2.2.2.1
theorem rP.w1 {I : am_I} {A : Int} {lk : Int → Int} {S : Int} (h : rP I A lk S) : I 85 5 = 0 ∨ I 85 5 = 1 := h.2.2.2.2.2.2.1
theorem rP.t {I : am_I} {A : Int} {lk : Int → Int} {S : Int} (h : rP I A lk S) : gm_tot A (I 87) + I 88 0 + I 88 1 = S := h.2.2.2.2.2.2.2.1
theorem rP.B {I : am_I} {A : Int} {lk : Int → Int} {S : Int} (h : rP I A lk S) : S ≤ 600000 := h.2.2.2.2.2.2.2.2
/-- a step of the history: the board, stores and side at j, pit q, and at j + 1 -/
def hst (A C : Int) (lk U : Int → Int) (S : Int) (H : Int → Int) (q j : Int) : Prop := (gm_st A lk (fun p => H (j * 35 + p))) ∧ (gm_zb A (fun p => H (j * 35 + p))) ∧ (H (j * 35 + 34) = 0 ∨ H (j * 35 + 34) = 1) ∧ (0 ≤ H (j * 35 + 32)) ∧ (0 ≤ H (j * 35 + 33)) ∧ (gm_tot A (fun p => H (j * 35 + p)) + H (j * 35 + 32) + H (j * 35 + 33) = S) ∧ (0 ≤ q) ∧ (q < A) ∧ (lk q = 0) ∧ (gm_sd A q = H (j * 35 + 34)) ∧ ((gm_mv A C lk (U 6) (U 7) (U 8) (U 9) (fun p => H (j * 35 + p)) (H (j * 35 + 34)) q).2.2 = 0) ∧ (∀ p, 0 ≤ p → p < A → H ((j + 1) * 35 + p) = (gm_mv A C lk (U 6) (U 7) (U 8) (U 9) (fun p => H (j * 35 + p)) (H (j * 35 + 34)) q).1 p) ∧ (∀ p, A ≤ p → p < 32 → H ((j + 1) * 35 + p) = 0) ∧ (H ((j + 1) * 35 + 32) = H (j * 35 + 32) + (if H (j * 35 + 34) = 0 then gm_tot A (fun p => H (j * 35 + p)) - gm_tot A (gm_mv A C lk (U 6) (U 7) (U 8) (U 9) (fun p => H (j * 35 + p)) (H (j * 35 + 34)) q).1 else 0)) ∧ (H ((j + 1) * 35 + 33) = H (j * 35 + 33) + (if H (j * 35 + 34) = 1 then gm_tot A (fun p => H (j * 35 + p)) - gm_tot A (gm_mv A C lk (U 6) (U 7) (U 8) (U 9) (fun p => H (j * 35 + p)) (H (j * 35 + 34)) q).1 else 0)) ∧ (H ((j + 1) * 35 + 34) = 1 - H (j * 35 + 34))
theorem hst.s {A C : Int} {lk U : Int → Int} {S : Int} {H : Int → Int} {q j : Int} (h : hst A C lk U S H q j) : gm_st A lk (fun p => H (j * 35 + p)) := h.1
theorem hst.z {A C : Int} {lk U : Int → Int} {S : Int} {H : Int → Int} {q j : Int} (h : hst A C lk U S H q j) : gm_zb A (fun p => H (j * 35 + p)) := h.2.1
theorem hst.w {A C : Int} {lk U : Int → Int} {S : Int} {H : Int → Int} {q j : Int} (h : hst A C lk U S H q j) : H (j * 35 + 34) = 0 ∨ H (j * 35 + 34) = 1 := h.2.2.1
theorem hst.n0 {A C : Int} {lk U : Int → Int} {S : Int} {H : Int → Int} {q j : Int} (h : hst A C lk U S H q j) : 0 ≤ H (j * 35 + 32) := h.2.2.2.1
theorem hst.n1 {A C : Int} {lk U : Int → Int} {S : Int} {H : Int → Int} {q j : Int} (h : hst A C lk U S H q j) : 0 ≤ H (j * 35 + 33) := h.2.2.2.2.1
theorem hst.t {A C : Int} {lk U : Int → Int} {S : Int} {H : Int → Int} {q j : Int} (h : hst A C lk U S H q j) : gm_tot A (fun p => H (j * 35 + p)) + H (j * 35 + 32) + H (j * 35 + 33) = S := h.2.2.2.2.2.1
theorem hst.q0 {A C : Int} {lk U : Int → Int} {S : Int} {H : Int → Int} {q j : Int} (h : hst A C lk U S H q j) : 0 ≤ q := h.2.2.2.2.2.2.1
theorem hst.q1 {A C : Int} {lk U : Int → Int} {S : Int} {H : Int → Int} {q j : Int} (h : hst A C lk U S H q j) : q < A := h.2.2.2.2.2.2.2.1
theorem hst.ql {A C : Int} {lk U : Int → Int} {S : Int} {H : Int → Int} {q j : Int} (h : hst A C lk U S H q j) : lk q = 0 := h.2.2.2.2.2.2.2.2.1
theorem hst.qs {A C : Int} {lk U : Int → Int} {S : Int} {H : Int → Int} {q j : Int} (h : hst A C lk U S H q j) : gm_sd A q = H (j * 35 + 34) := h.2.2.2.2.2.2.2.2.2.1
theorem hst.nl {A C : Int} {lk U : Int → Int} {S : Int} {H : Int → Int} {q j : Int} (h : hst A C lk U S H q j) : (gm_mv A C lk (U 6) (U 7) (U 8) (U 9) (fun p => H (j * 35 + p)) (H (j * 35 + 34)) q).2.2 = 0 := h.2.2.2.2.2.2.2.2.2.2.1
theorem hst.e {A C : Int} {lk U : Int → Int} {S : Int} {H : Int → Int} {q j : Int} (h : hst A C lk U S H q j) : ∀ p, 0 ≤ p → p < A → H ((j + 1) * 35 + p) = (gm_mv A C lk (U 6) (U 7) (U 8) (U 9) (fun p => H (j * 35 + p)) (H (j * 35 + 34)) q).1 p := h.2.2.2.2.2.2.2.2.2.2.2.1
theorem hst.ez {A C : Int} {lk U : Int → Int} {S : Int} {H : Int → Int} {q j : Int} (h : hst A C lk U S H q j) : ∀ p, A ≤ p → p < 32 → H ((j + 1) * 35 + p) = 0 := h.2.2.2.2.2.2.2.2.2.2.2.2.1
theorem hst.es0 {A C : Int} {lk U : Int → Int} {S : Int} {H : Int → Int} {q j : Int} (h : hst A C lk U S H q j) : H ((j + 1) * 35 + 32) = H (j * 35 + 32) + (if H (j * 35 + 34) = 0 then gm_tot A (fun p => H (j * 35 + p)) - gm_tot A (gm_mv A C lk (U 6) (U 7) (U 8) (U 9) (fun p => H (j * 35 + p)) (H (j * 35 + 34)) q).1 else 0) := h.2.2.2.2.2.2.2.2.2.2.2.2.2.1
theorem hst.es1 {A C : Int} {lk U : Int → Int} {S : Int} {H : Int → Int} {q j : Int} (h : hst A C lk U S H q j) : H ((j + 1) * 35 + 33) = H (j * 35 + 33) + (if H (j * 35 + 34) = 1 then gm_tot A (fun p => H (j * 35 + p)) - gm_tot A (gm_mv A C lk (U 6) (U 7) (U 8) (U 9) (fun p => H (j * 35 + p)) (H (j * 35 + 34)) q).1 else 0) := h.2.2.2.2.2.2.2.2.2.2.2.2.2.2.1
theorem hst.ew {A C : Int} {lk U : Int → Int} {S : Int} {H : Int → Int} {q j : Int} (h : hst A C lk U S H q j) : H ((j + 1) * 35 + 34) = 1 - H (j * 35 + 34) := h.2.2.2.2.2.2.2.2.2.2.2.2.2.2.2
/-- moves made and taken back -/
def rH (K : am_K) (F : am_F) (I : am_I) (A C : Int) (lk U : Int → Int) (S : Int) : Prop := (I 59 0 = I 85 37) ∧ (I 59 1 = I 85 37 + I 85 38) ∧ (0 ≤ I 85 37) ∧ (0 ≤ I 85 38) ∧ (I 85 37 + I 85 38 ≤ 1000) ∧ ((K (F 59 2)).1 = 100) ∧ (K (F 59 3) = (100, 34 * (K (F 59 2)).2)) ∧ (16 ≤ (K (F 59 2)).2) ∧ ((K (F 59 2)).2 ≤ 1000) ∧ (I 85 37 + I 85 38 ≤ (K (F 59 2)).2) ∧ (∀ j, 0 ≤ j → j < I 85 37 + I 85 38 → hst A C lk U S (I 104) (I (F 59 2) j) j) ∧ (0 < I 85 37 + I 85 38 → (∀ p, 0 ≤ p → p < 32 → I 104 (I 85 37 * 35 + p) = I 87 p) ∧ I 104 (I 85 37 * 35 + 32) = I 88 0 ∧ I 104 (I 85 37 * 35 + 33) = I 88 1 ∧ I 104 (I 85 37 * 35 + 34) = I 85 5) ∧ (∀ j, 0 ≤ j → j < I 85 37 → ∀ p, 0 ≤ p → p < 34 → I (F 59 3) (j * 34 + p) = I 104 (j * 35 + p))
theorem rH.a {K : am_K} {F : am_F} {I : am_I} {A C : Int} {lk U : Int → Int} {S : Int} (h : rH K F I A C lk U S) : I 59 0 = I 85 37 := h.1
theorem rH.b {K : am_K} {F : am_F} {I : am_I} {A C : Int} {lk U : Int → Int} {S : Int} (h : rH K F I A C lk U S) : I 59 1 = I 85 37 + I 85 38 := h.2.1
theorem rH.a0 {K : am_K} {F : am_F} {I : am_I} {A C : Int} {lk U : Int → Int} {S : Int} (h : rH K F I A C lk U S) : 0 ≤ I 85 37 := h.2.2.1
theorem rH.b0 {K : am_K} {F : am_F} {I : am_I} {A C : Int} {lk U : Int → Int} {S : Int} (h : rH K F I A C lk U S) : 0 ≤ I 85 38 := h.2.2.2.1
theorem rH.b1 {K : am_K} {F : am_F} {I : am_I} {A C : Int} {lk U : Int → Int} {S : Int} (h : rH K F I A C lk U S) : I 85 37 + I 85 38 ≤ 1000 := h.2.2.2.2.1
theorem rH.k1 {K : am_K} {F : am_F} {I : am_I} {A C : Int} {lk U : Int → Int} {S : Int} (h : rH K F I A C lk U S) : (K (F 59 2)).1 = 100 := h.2.2.2.2.2.1
theorem rH.k2 {K : am_K} {F : am_F} {I : am_I} {A C : Int} {lk U : Int → Int} {S : Int} (h : rH K F I A C lk U S) : K (F 59 3) = (100, 34 * (K (F 59 2)).2) := h.2.2.2.2.2.2.1
theorem rH.l0 {K : am_K} {F : am_F} {I : am_I} {A C : Int} {lk U : Int → Int} {S : Int} (h : rH K F I A C lk U S) : 16 ≤ (K (F 59 2)).2 := h.2.2.2.2.2.2.2.1
theorem rH.l1 {K : am_K} {F : am_F} {I : am_I} {A C : Int} {lk U : Int → Int} {S : Int} (h : rH K F I A C lk U S) : (K (F 59 2)).2 ≤ 1000 := h.2.2.2.2.2.2.2.2.1
theorem rH.l2 {K : am_K} {F : am_F} {I : am_I} {A C : Int} {lk U : Int → Int} {S : Int} (h : rH K F I A C lk U S) : I 85 37 + I 85 38 ≤ (K (F 59 2)).2 := h.2.2.2.2.2.2.2.2.2.1
theorem rH.st {K : am_K} {F : am_F} {I : am_I} {A C : Int} {lk U : Int → Int} {S : Int} (h : rH K F I A C lk U S) : ∀ j, 0 ≤ j → j < I 85 37 + I 85 38 → hst A C lk U S (I 104) (I (F 59 2) j) j := h.2.2.2.2.2.2.2.2.2.2.1
theorem rH.cu {K : am_K} {F : am_F} {I : am_I} {A C : Int} {lk U : Int → Int} {S : Int} (h : rH K F I A C lk U S) : 0 < I 85 37 + I 85 38 → (∀ p, 0 ≤ p → p < 32 → I 104 (I 85 37 * 35 + p) = I 87 p) ∧ I 104 (I 85 37 * 35 + 32) = I 88 0 ∧ I 104 (I 85 37 * 35 + 33) = I 88 1 ∧ I 104 (I 85 37 * 35 + 34) = I 85 5 := h.2.2.2.2.2.2.2.2.2.2.2.1
theorem rH.bo {K : am_K} {F : am_F} {I : am_I} {A C : Int} {lk U : Int → Int} {S : Int} (h : rH K F I A C lk U S) : ∀ j, 0 ≤ j → j < I 85 37 → ∀ p, 0 ≤ p → p < 34 → I (F 59 3) (j * 34 + p) = I 104 (j * 35 + p) := h.2.2.2.2.2.2.2.2.2.2.2.2
/-- the line -/
def rL (I : am_I) : Prop := (I 79 0 = I 85 39) ∧ (I 85 39 = 0 ∨ I 85 39 = 1) ∧ (I 85 39 = 1 → I 79 1 = I 85 40 ∧ I 79 2 = I 85 43 ∧ 0 ≤ I 85 40 ∧ I 85 40 ≤ 400 ∧ (∀ k, 0 ≤ k → k < I 85 40 → I 80 k = I 105 k))
theorem rL.a {I : am_I} (h : rL I) : I 79 0 = I 85 39 := h.1
theorem rL.a1 {I : am_I} (h : rL I) : I 85 39 = 0 ∨ I 85 39 = 1 := h.2.1
theorem rL.m {I : am_I} (h : rL I) : I 85 39 = 1 → I 79 1 = I 85 40 ∧ I 79 2 = I 85 43 ∧ 0 ≤ I 85 40 ∧ I 85 40 ≤ 400 ∧ (∀ k, 0 ≤ k → k < I 85 40 → I 80 k = I 105 k) := h.2.2
/-- the players -/
def rV (I : am_I) : Prop := (I 83 0 = I 107 0 ∧ 0 ≤ I 107 0 ∧ I 107 0 ≤ 3) ∧ (I 84 0 = I 107 1 ∧ 0 ≤ I 107 1 ∧ I 107 1 ≤ 3) ∧ (I 107 0 = 3 → I 83 1 = I 108 0) ∧ (I 107 1 = 3 → I 84 1 = I 108 1)
theorem rV.a {I : am_I} (h : rV I) : I 83 0 = I 107 0 ∧ 0 ≤ I 107 0 ∧ I 107 0 ≤ 3 := h.1
theorem rV.b {I : am_I} (h : rV I) : I 84 0 = I 107 1 ∧ 0 ≤ I 107 1 ∧ I 107 1 ≤ 3 := h.2.1
theorem rV.x {I : am_I} (h : rV I) : I 107 0 = 3 → I 83 1 = I 108 0 := h.2.2.1
theorem rV.y {I : am_I} (h : rV I) : I 107 1 = 3 → I 84 1 = I 108 1 := h.2.2.2
/-- the game by places -/
def gp_b (A : Int) (lk : Int → Int) (k : Int) : Int → Int := gm_bd2 A lk (k / 2)
def gp_al (A C : Int) (lk U : Int → Int) (k p : Int) : Int := gm_al A C lk U (gp_b A lk k) (k % 2) p
def gp_mv (A C : Int) (lk U : Int → Int) (k p : Int) : Int → Int := (gm_mv A C lk (U 6) (U 7) (U 8) (U 9) (gp_b A lk k) (k % 2) p).1
def gp_tk (A C : Int) (lk U : Int → Int) (k p : Int) : Int := gm_tot A (gp_b A lk k) - gm_tot A (gp_mv A C lk U k p)
def gp_to (A C : Int) (lk U : Int → Int) (k p : Int) : Int := 2 * gm_nu A lk (gp_mv A C lk U k p) + (1 - k % 2)
def gp_n (A C : Int) (lk U : Int → Int) (k : Int) (d : Nat) : Int := gm_sm (gp_al A C lk U k) d
def gp_cnt (A C : Int) (lk U : Int → Int) (k : Nat) : Int := gm_sm (fun i => gp_n A C lk U i A.toNat) k
def gp_cd (A C : Int) (lk U : Int → Int) (k p : Int) : Int := p * 1048576 + gp_tk A C lk U k p * 65536 + gp_to A C lk U k p
def gp_en (A : Int) (lk U : Int → Int) (k : Int) : Int := gm_sm (gm_ct A (U 12) (gp_b A lk k) (k % 2) (k % 2)) A.toNat - gm_sm (gm_ct A (U 12) (gp_b A lk k) (k % 2) (1 - k % 2)) A.toNat
def gp_top (A : Int) (lk : Int → Int) (n : Int) : Int := 2 * gW (gm_L A lk + 1) n
/-- the class's graph, up to a place -/
def gG (K : am_K) (F : am_F) (I : am_I) (A C : Int) (lk U : Int → Int) (T : Int) : Prop := (I (F 63 1) 0 = 0) ∧ (∀ k : Nat, (k : Int) ≤ T → I (F 63 1) (k : Int) = gp_cnt A C lk U k) ∧ (∀ k : Nat, (k : Int) < T → ∀ p : Nat, (p : Int) < A → gp_al A C lk U (k : Int) (p : Int) = 1 → I (F 63 2) (gp_cnt A C lk U k + gp_n A C lk U (k : Int) p) = gp_cd A C lk U (k : Int) (p : Int)) ∧ (∀ k, 0 ≤ k → k < T → I (F 63 0) k = gp_en A lk U k)
theorem gG.s0 {K : am_K} {F : am_F} {I : am_I} {A C : Int} {lk U : Int → Int} {T : Int} (h : gG K F I A C lk U T) : I (F 63 1) 0 = 0 := h.1
theorem gG.s {K : am_K} {F : am_F} {I : am_I} {A C : Int} {lk U : Int → Int} {T : Int} (h : gG K F I A C lk U T) : ∀ k : Nat, (k : Int) ≤ T → I (F 63 1) (k : Int) = gp_cnt A C lk U k := h.2.1
theorem gG.e {K : am_K} {F : am_F} {I : am_I} {A C : Int} {lk U : Int → Int} {T : Int} (h : gG K F I A C lk U T) : ∀ k : Nat, (k : Int) < T → ∀ p : Nat, (p : Int) < A → gp_al A C lk U (k : Int) (p : Int) = 1 → I (F 63 2) (gp_cnt A C lk U k + gp_n A C lk U (k : Int) p) = gp_cd A C lk U (k : Int) (p : Int) := h.2.2.1
theorem gG.d {K : am_K} {F : am_F} {I : am_I} {A C : Int} {lk U : Int → Int} {T : Int} (h : gG K F I A C lk U T) : ∀ k, 0 ≤ k → k < T → I (F 63 0) k = gp_en A lk U k := h.2.2.2
/-- a best move is there -/
def gp_best (A C : Int) (lk U v r : Int → Int) (k p : Int) : Prop := 0 ≤ p ∧ p < A ∧ gp_al A C lk U k p = 1 ∧ gp_tk A C lk U k p - v (gp_to A C lk U k p) = v k ∧ (v k ≤ 0 ∨ 0 < gp_tk A C lk U k p ∨ r (gp_to A C lk U k p) < r k)
/-- what is asked of solving while it is on -/
def rQ1 (K : am_K) (F : am_F) (I : am_I) (A C : Int) (lk U : Int → Int) : Prop := (0 ≤ I 85 22 ∧ I 85 22 ≤ 12) ∧ (I 62 8 = I 85 22 + 1) ∧ (I 62 9 = I 85 23) ∧ (0 ≤ I 85 23 ∧ I 85 23 ≤ I 85 22 + 1) ∧ (I 62 2 = gp_top A lk (I 85 22)) ∧ (I 62 3 = gp_top A lk (I 85 23 - 1)) ∧ (I 85 24 = gp_top A lk (I 85 23 - 1)) ∧ (gp_top A lk (I 85 22) ≤ (K (F 62 4)).2) ∧ (gm_L A lk * gW (gm_L A lk + 1) (I 85 22 - 1) ≤ (K (F 63 2)).2) ∧ (2 * gW (gm_L A lk) (I 85 22) * am_max (gm_Ls A lk 0) (gm_Ls A lk 1) ≤ 200000) ∧ (∀ k, 0 ≤ k → k < gp_top A lk (I 85 23 - 1) → I (F 62 4) k = I 93 k ∧ I (F 62 5) k = I 94 k ∧ (-gm_lay (gm_L A lk) (k / 2) ≤ I 93 k ∧ I 93 k ≤ gm_lay (gm_L A lk) (k / 2)) ∧ (0 ≤ I 94 k ∧ I 94 k ≤ 1000000)) ∧ (∀ k, 0 ≤ k → k < gp_top A lk (I 85 23 - 1) → (∃ p, 0 ≤ p ∧ p < A ∧ gp_al A C lk U k p = 1) → ∃ p, gp_best A C lk U (I 93) (I 94) k p) ∧ (∀ k, 0 ≤ k → k < gp_top A lk (I 85 22) → I (F 62 6) k = I 95 k ∧ I (F 62 7) k = I 96 k ∧ (-60 ≤ I 95 k ∧ I 95 k ≤ 60) ∧ (0 ≤ I 96 k ∧ I 96 k ≤ 1000000))
theorem rQ1.m {K : am_K} {F : am_F} {I : am_I} {A C : Int} {lk U : Int → Int} (h : rQ1 K F I A C lk U) : 0 ≤ I 85 22 ∧ I 85 22 ≤ 12 := h.1
theorem rQ1.l8 {K : am_K} {F : am_F} {I : am_I} {A C : Int} {lk U : Int → Int} (h : rQ1 K F I A C lk U) : I 62 8 = I 85 22 + 1 := h.2.1
theorem rQ1.l9 {K : am_K} {F : am_F} {I : am_I} {A C : Int} {lk U : Int → Int} (h : rQ1 K F I A C lk U) : I 62 9 = I 85 23 := h.2.2.1
theorem rQ1.y {K : am_K} {F : am_F} {I : am_I} {A C : Int} {lk U : Int → Int} (h : rQ1 K F I A C lk U) : 0 ≤ I 85 23 ∧ I 85 23 ≤ I 85 22 + 1 := h.2.2.2.1
theorem rQ1.p {K : am_K} {F : am_F} {I : am_I} {A C : Int} {lk U : Int → Int} (h : rQ1 K F I A C lk U) : I 62 2 = gp_top A lk (I 85 22) := h.2.2.2.2.1
theorem rQ1.s {K : am_K} {F : am_F} {I : am_I} {A C : Int} {lk U : Int → Int} (h : rQ1 K F I A C lk U) : I 62 3 = gp_top A lk (I 85 23 - 1) := h.2.2.2.2.2.1
theorem rQ1.s2 {K : am_K} {F : am_F} {I : am_I} {A C : Int} {lk U : Int → Int} (h : rQ1 K F I A C lk U) : I 85 24 = gp_top A lk (I 85 23 - 1) := h.2.2.2.2.2.2.1
theorem rQ1.rV {K : am_K} {F : am_F} {I : am_I} {A C : Int} {lk U : Int → Int} (h : rQ1 K F I A C lk U) : gp_top A lk (I 85 22) ≤ (K (F 62 4)).2 := h.2.2.2.2.2.2.2.1
theorem rQ1.rE {K : am_K} {F : am_F} {I : am_I} {A C : Int} {lk U : Int → Int} (h : rQ1 K F I A C lk U) : gm_L A lk * gW (gm_L A lk + 1) (I 85 22 - 1) ≤ (K (F 63 2)).2 := h.2.2.2.2.2.2.2.2.1
theorem rQ1.ws {K : am_K} {F : am_F} {I : am_I} {A C : Int} {lk U : Int → Int} (h : rQ1 K F I A C lk U) : 2 * gW (gm_L A lk) (I 85 22) * am_max (gm_Ls A lk 0) (gm_Ls A lk 1) ≤ 200000 := h.2.2.2.2.2.2.2.2.2.1
theorem rQ1.v {K : am_K} {F : am_F} {I : am_I} {A C : Int} {lk U : Int → Int} (h : rQ1 K F I A C lk U) : ∀ k, 0 ≤ k → k < gp_top A lk (I 85 23 - 1) → I (F 62 4) k = I 93 k ∧ I (F 62 5) k = I 94 k ∧ (-gm_lay (gm_L A lk) (k / 2) ≤ I 93 k ∧ I 93 k ≤ gm_lay (gm_L A lk) (k / 2)) ∧ (0 ≤ I 94 k ∧ I 94 k ≤ 1000000) := h.2.2.2.2.2.2.2.2.2.2.1
theorem rQ1.be {K : am_K} {F : am_F} {I : am_I} {A C : Int} {lk U : Int → Int} (h : rQ1 K F I A C lk U) : ∀ k, 0 ≤ k → k < gp_top A lk (I 85 23 - 1) → (∃ p, 0 ≤ p ∧ p < A ∧ gp_al A C lk U k p = 1) → ∃ p, gp_best A C lk U (I 93) (I 94) k p := h.2.2.2.2.2.2.2.2.2.2.2.1
theorem rQ1.cl {K : am_K} {F : am_F} {I : am_I} {A C : Int} {lk U : Int → Int} (h : rQ1 K F I A C lk U) : ∀ k, 0 ≤ k → k < gp_top A lk (I 85 22) → I (F 62 6) k = I 95 k ∧ I (F 62 7) k = I 96 k ∧ (-60 ≤ I 95 k ∧ I 95 k ≤ 60) ∧ (0 ≤ I 96 k ∧ I 96 k ≤ 1000000) := h.2.2.2.2.2.2.2.2.2.2.2.2
def rQ (K : am_K) (F : am_F) (I : am_I) (A C : Int) (lk U : Int → Int) : Prop := (I 62 1 = I 85 21) ∧ (I 85 21 = 0 ∨ I 85 21 = 1) ∧ (I 85 21 = 1 → rQ1 K F I A C lk U) ∧ (0 ≤ I 63 3 ∧ I 63 3 ≤ 13) ∧ (gp_top A lk (I 63 3 - 1) ≤ (K (F 62 4)).2) ∧ (gG K F I A C lk U (gp_top A lk (I 63 3 - 1))) ∧ (I 85 21 = 1 → I 85 23 ≤ I 63 3) ∧ (gp_cnt A C lk U (gp_top A lk (I 63 3 - 1)).toNat ≤ (K (F 63 2)).2)
theorem rQ.b {K : am_K} {F : am_F} {I : am_I} {A C : Int} {lk U : Int → Int} (h : rQ K F I A C lk U) : I 62 1 = I 85 21 := h.1
theorem rQ.b1 {K : am_K} {F : am_F} {I : am_I} {A C : Int} {lk U : Int → Int} (h : rQ K F I A C lk U) : I 85 21 = 0 ∨ I 85 21 = 1 := h.2.1
theorem rQ.on {K : am_K} {F : am_F} {I : am_I} {A C : Int} {lk U : Int → Int} (h : rQ K F I A C lk U) : I 85 21 = 1 → rQ1 K F I A C lk U := h.2.2.1
theorem rQ.g0 {K : am_K} {F : am_F} {I : am_I} {A C : Int} {lk U : Int → Int} (h : rQ K F I A C lk U) : 0 ≤ I 63 3 ∧ I 63 3 ≤ 13 := h.2.2.2.1
theorem rQ.g1 {K : am_K} {F : am_F} {I : am_I} {A C : Int} {lk U : Int → Int} (h : rQ K F I A C lk U) : gp_top A lk (I 63 3 - 1) ≤ (K (F 62 4)).2 := h.2.2.2.2.1
theorem rQ.g {K : am_K} {F : am_F} {I : am_I} {A C : Int} {lk U : Int → Int} (h : rQ K F I A C lk U) : gG K F I A C lk U (gp_top A lk (I 63 3 - 1)) := h.2.2.2.2.2.1
theorem rQ.gs {K : am_K} {F : am_F} {I : am_I} {A C : Int} {lk U : Int → Int} (h : rQ K F I A C lk U) : I 85 21 = 1 → I 85 23 ≤ I 63 3 := h.2.2.2.2.2.2.1
theorem rQ.ge {K : am_K} {F : am_F} {I : am_I} {A C : Int} {lk U : Int → Int} (h : rQ K F I A C lk U) : gp_cnt A C lk U (gp_top A lk (I 63 3 - 1)).toNat ≤ (K (F 63 2)).2 := h.2.2.2.2.2.2.2
/-- cells that come and go -/
def vok (r : Nat) : Prop := (59 < r ∧ r < 62) ∨ (63 < r ∧ r < 67) ∨ (67 < r ∧ r < 72) ∨ (72 < r ∧ r < 79) ∨ 108 < r
def vrl (F : am_F) : List Nat := [F 59 2, F 59 3, F 62 4, F 62 5, F 62 6, F 62 7, F 63 0, F 63 1, F 63 2, F 72 1, F 72 2, F 72 3, F 72 4, F 72 5, F 72 6]
def rA (n : Nat) (K : am_K) (F : am_F) : Prop := (cw K F) ∧ (mw K F) ∧ ((vrl F).Nodup) ∧ (∀ r, r ∈ vrl F → vok r ∧ r < n) ∧ (109 ≤ n) ∧ ((F 85 33 = 101 ∧ F 85 34 = 102) ∨ (F 85 33 = 102 ∧ F 85 34 = 101)) ∧ ((K (F 62 4)).1 = 100) ∧ (K (F 62 5) = (100, (K (F 62 4)).2)) ∧ (K (F 62 6) = (100, (K (F 62 4)).2)) ∧ (K (F 62 7) = (100, (K (F 62 4)).2)) ∧ (K (F 63 0) = (100, (K (F 62 4)).2)) ∧ (K (F 63 1) = (100, (K (F 62 4)).2 + 1)) ∧ ((K (F 63 2)).1 = 100) ∧ (K (F 72 1) = (100, (K (F 62 4)).2)) ∧ (K (F 72 2) = (100, (K (F 62 4)).2)) ∧ (K (F 72 3) = (100, (K (F 62 4)).2)) ∧ (K (F 72 4) = (100, (K (F 62 4)).2)) ∧ (K (F 72 5) = (100, (K (F 62 4)).2 + 1)) ∧ (K (F 72 6) = (100, (K (F 63 2)).2)) ∧ (0 ≤ (K (F 62 4)).2) ∧ ((K (F 62 4)).2 ≤ 40000) ∧ (0 ≤ (K (F 63 2)).2) ∧ ((K (F 63 2)).2 ≤ 480000)
theorem rA.c {n : Nat} {K : am_K} {F : am_F} (h : rA n K F) : cw K F := h.1
theorem rA.m {n : Nat} {K : am_K} {F : am_F} (h : rA n K F) : mw K F := h.2.1
theorem rA.nd {n : Nat} {K : am_K} {F : am_F} (h : rA n K F) : (vrl F).Nodup := h.2.2.1
theorem rA.ok {n : Nat} {K : am_K} {F : am_F} (h : rA n K F) : ∀ r, r ∈ vrl F → vok r ∧ r < n := h.2.2.2.1
theorem rA.nn {n : Nat} {K : am_K} {F : am_F} (h : rA n K F) : 109 ≤ n := h.2.2.2.2.1
theorem rA.mm {n : Nat} {K : am_K} {F : am_F} (h : rA n K F) : (F 85 33 = 101 ∧ F 85 34 = 102) ∨ (F 85 33 = 102 ∧ F 85 34 = 101) := h.2.2.2.2.2.1
theorem rA.v1 {n : Nat} {K : am_K} {F : am_F} (h : rA n K F) : (K (F 62 4)).1 = 100 := h.2.2.2.2.2.2.1
theorem rA.v2 {n : Nat} {K : am_K} {F : am_F} (h : rA n K F) : K (F 62 5) = (100, (K (F 62 4)).2) := h.2.2.2.2.2.2.2.1
theorem rA.v3 {n : Nat} {K : am_K} {F : am_F} (h : rA n K F) : K (F 62 6) = (100, (K (F 62 4)).2) := h.2.2.2.2.2.2.2.2.1
theorem rA.v4 {n : Nat} {K : am_K} {F : am_F} (h : rA n K F) : K (F 62 7) = (100, (K (F 62 4)).2) := h.2.2.2.2.2.2.2.2.2.1
theorem rA.g0 {n : Nat} {K : am_K} {F : am_F} (h : rA n K F) : K (F 63 0) = (100, (K (F 62 4)).2) := h.2.2.2.2.2.2.2.2.2.2.1
theorem rA.g1 {n : Nat} {K : am_K} {F : am_F} (h : rA n K F) : K (F 63 1) = (100, (K (F 62 4)).2 + 1) := h.2.2.2.2.2.2.2.2.2.2.2.1
theorem rA.g2 {n : Nat} {K : am_K} {F : am_F} (h : rA n K F) : (K (F 63 2)).1 = 100 := h.2.2.2.2.2.2.2.2.2.2.2.2.1
theorem rA.w1 {n : Nat} {K : am_K} {F : am_F} (h : rA n K F) : K (F 72 1) = (100, (K (F 62 4)).2) := h.2.2.2.2.2.2.2.2.2.2.2.2.2.1
theorem rA.w2 {n : Nat} {K : am_K} {F : am_F} (h : rA n K F) : K (F 72 2) = (100, (K (F 62 4)).2) := h.2.2.2.2.2.2.2.2.2.2.2.2.2.2.1
theorem rA.w3 {n : Nat} {K : am_K} {F : am_F} (h : rA n K F) : K (F 72 3) = (100, (K (F 62 4)).2) := h.2.2.2.2.2.2.2.2.2.2.2.2.2.2.2.1
theorem rA.w4 {n : Nat} {K : am_K} {F : am_F} (h : rA n K F) : K (F 72 4) = (100, (K (F 62 4)).2) := h.2.2.2.2.2.2.2.2.2.2.2.2.2.2.2.2.1
theorem rA.w5 {n : Nat} {K : am_K} {F : am_F} (h : rA n K F) : K (F 72 5) = (100, (K (F 62 4)).2 + 1) := h.2.2.2.2.2.2.2.2.2.2.2.2.2.2.2.2.2.1
theorem rA.w6 {n : Nat} {K : am_K} {F : am_F} (h : rA n K F) : K (F 72 6) = (100, (K (F 63 2)).2) := h.2.2.2.2.2.2.2.2.2.2.2.2.2.2.2.2.2.2.1
theorem rA.V0 {n : Nat} {K : am_K} {F : am_F} (h : rA n K F) : 0 ≤ (K (F 62 4)).2 := h.2.2.2.2.2.2.2.2.2.2.2.2.2.2.2.2.2.2.2.1
theorem rA.V1 {n : Nat} {K : am_K} {F : am_F} (h : rA n K F) : (K (F 62 4)).2 ≤ 40000 := h.2.2.2.2.2.2.2.2.2.2.2.2.2.2.2.2.2.2.2.2.1
theorem rA.E0 {n : Nat} {K : am_K} {F : am_F} (h : rA n K F) : 0 ≤ (K (F 63 2)).2 := h.2.2.2.2.2.2.2.2.2.2.2.2.2.2.2.2.2.2.2.2.2.1
theorem rA.E1 {n : Nat} {K : am_K} {F : am_F} (h : rA n K F) : (K (F 63 2)).2 ≤ 480000 := h.2.2.2.2.2.2.2.2.2.2.2.2.2.2.2.2.2.2.2.2.2.2
def rel (n : Nat) (K : am_K) (F : am_F) (I : am_I) (R C A : Int) (lk U : Int → Int) (S : Int) : Prop := (rA n K F) ∧ (rG I R C A lk) ∧ (rU I U) ∧ (rP I A lk S) ∧ (rH K F I A C lk U S) ∧ (rL I) ∧ (rV I) ∧ (rQ K F I A C lk U)
theorem rel.a {n : Nat} {K : am_K} {F : am_F} {I : am_I} {R C A : Int} {lk U : Int → Int} {S : Int} (h : rel n K F I R C A lk U S) : rA n K F := h.1
theorem rel.g {n : Nat} {K : am_K} {F : am_F} {I : am_I} {R C A : Int} {lk U : Int → Int} {S : Int} (h : rel n K F I R C A lk U S) : rG I R C A lk := h.2.1
theorem rel.u {n : Nat} {K : am_K} {F : am_F} {I : am_I} {R C A : Int} {lk U : Int → Int} {S : Int} (h : rel n K F I R C A lk U S) : rU I U := h.2.2.1
theorem rel.p {n : Nat} {K : am_K} {F : am_F} {I : am_I} {R C A : Int} {lk U : Int → Int} {S : Int} (h : rel n K F I R C A lk U S) : rP I A lk S := h.2.2.2.1
theorem rel.h {n : Nat} {K : am_K} {F : am_F} {I : am_I} {R C A : Int} {lk U : Int → Int} {S : Int} (h : rel n K F I R C A lk U S) : rH K F I A C lk U S := h.2.2.2.2.1
theorem rel.l {n : Nat} {K : am_K} {F : am_F} {I : am_I} {R C A : Int} {lk U : Int → Int} {S : Int} (h : rel n K F I R C A lk U S) : rL I := h.2.2.2.2.2.1
theorem rel.v {n : Nat} {K : am_K} {F : am_F} {I : am_I} {R C A : Int} {lk U : Int → Int} {S : Int} (h : rel n K F I R C A lk U S) : rV I := h.2.2.2.2.2.2.1
theorem rel.q {n : Nat} {K : am_K} {F : am_F} {I : am_I} {R C A : Int} {lk U : Int → Int} {S : Int} (h : rel n K F I R C A lk U S) : rQ K F I A C lk U := h.2.2.2.2.2.2.2
/-- scratch: what no call reads before it writes it -/
def sc (I J : am_I) : Prop := ∀ b j, b ≠ 20 → b ≠ 21 → (b < 23 ∨ 55 < b) → (b ≠ 19 ∨ j ≠ 3) → b ≠ 58 → b ≠ 67 → b ≠ 91 → b ≠ 92 → (b < 97 ∨ 103 < b) → (b ≠ 85 ∨ ((j < 15 ∨ 15 < j) ∧ (j < 17 ∨ 19 < j))) → (b ≠ 2 ∨ j ≠ 9) → J b j = I b j
theorem sc.rfl {I : am_I} : sc I I := fun _ _ _ _ _ _ _ _ _ _ _ _ _ => Eq.refl _
theorem sc.trans {I J H : am_I} (h : sc I J) (h' : sc J H) : sc I H := fun b j a1 a2 a3 a4 a5 a6 a7 a8 a9 a10 a11 => (h' b j a1 a2 a3 a4 a5 a6 a7 a8 a9 a10 a11).trans (h b j a1 a2 a3 a4 a5 a6 a7 a8 a9 a10 a11)
theorem sc.row {I J : am_I} (h : sc I J) {b : Nat} (h1 : b ≠ 20 ∧ b ≠ 21 ∧ (b < 23 ∨ 55 < b) ∧ b ≠ 19 ∧ b ≠ 58 ∧ b ≠ 67 ∧ b ≠ 91 ∧ b ≠ 92 ∧ (b < 97 ∨ 103 < b) ∧ b ≠ 85 ∧ b ≠ 2) : J b = I b := by
  funext j
  exact h b j h1.1 h1.2.1 h1.2.2.1 (Or.inl h1.2.2.2.1) h1.2.2.2.2.1 h1.2.2.2.2.2.1 h1.2.2.2.2.2.2.1 h1.2.2.2.2.2.2.2.1 h1.2.2.2.2.2.2.2.2.1 (Or.inl h1.2.2.2.2.2.2.2.2.2.1) (Or.inl h1.2.2.2.2.2.2.2.2.2.2)
theorem sc.fld {I J : am_I} (h : sc I J) {j : Int} (hj : (j < 15 ∨ 15 < j) ∧ (j < 17 ∨ 19 < j)) : J 85 j = I 85 j := h 85 j (by decide) (by decide) (by decide) (Or.inl (by decide)) (by decide) (by decide) (by decide) (by decide) (by decide) (Or.inr hj) (Or.inl (by decide))
theorem cs.sc {I J : am_I} (h : cs I J) : sc I J := fun b j a1 a2 a3 a4 _ _ _ _ _ _ _ => h b j a1 a2 a3 a4
theorem ms.sc {I J : am_I} (h : ms I J) : sc I J := fun b j _ _ _ _ _ _ a7 _ a9 a10 _ => h b j a7 (by omega) (by omega)
theorem sc.st2 {I J : am_I} (h : sc I J) (v : Int) : sc I (am_u2 J 2 9 v) := fun b j a1 a2 a3 a4 a5 a6 a7 a8 a9 a10 a11 => by
  rw [← h b j a1 a2 a3 a4 a5 a6 a7 a8 a9 a10 a11]
  unfold am_u2
  rw [if_neg (by omega)]
theorem sc.st85 {I J : am_I} (h : sc I J) (v : Int) : sc I (am_u2 J 85 15 v) := fun b j a1 a2 a3 a4 a5 a6 a7 a8 a9 a10 a11 => by
  rw [← h b j a1 a2 a3 a4 a5 a6 a7 a8 a9 a10 a11]
  unfold am_u2
  rw [if_neg (by omega)]
theorem sc.rd {I J : am_I} (h : sc I J) (g : Int → Int) : sc I (am_row J 92 g) := fun b j a1 a2 a3 a4 a5 a6 a7 a8 a9 a10 a11 => by
  rw [am_row_n a8]; exact h b j a1 a2 a3 a4 a5 a6 a7 a8 a9 a10 a11
theorem sc.c58 {I J : am_I} (h : sc I J) (g : Int → Int) : sc I (am_row J 58 g) := fun b j a1 a2 a3 a4 a5 a6 a7 a8 a9 a10 a11 => by
  rw [am_row_n a5]; exact h b j a1 a2 a3 a4 a5 a6 a7 a8 a9 a10 a11
section KEPT
variable {n : Nat} {K : am_K} {F : am_F} {I J : am_I} {R C A : Int} {lk U : Int → Int} {S : Int}
theorem vok.sc {r : Nat} (h : vok r) (hs : sc I J) : J r = I r := hs.row (by unfold vok at h; omega)
theorem rG.kept (h : rG I R C A lk) (hb : ∀ b, (3 ≤ b ∧ b ≤ 14) ∨ b = 57 ∨ b = 86 ∨ b = 89 ∨ b = 90 → J b = I b) (h0 : J 85 0 = I 85 0) (h1 : J 85 1 = I 85 1) : rG J R C A lk := by
  refine ⟨h.m.kept h0 h1, ?_, h.c.kept (fun b x y => hb b (by omega)), ?_, ?_, ?_, h.b, h.n⟩
  · intro k a b; rw [hb 89 (by omega), hb 90 (by omega)]; exact h.w k a b
  · rw [hb 5 (by omega)]; exact h.l
  · intro m k a b c d; rw [hb 57 (by omega)]; exact h.t m k a b c d
  · rw [hb 86 (by omega)]; exact h.k
theorem rU.kept (h : rU I U) (h15 : J 15 = I 15) (h85 : ∀ j, 6 ≤ j → j ≤ 12 → J 85 j = I 85 j) : rU J U :=
  ⟨h.c.kept h15, fun j a b => (h85 j a b).trans (h.m j a b), h.u6, h.u7, h.u8, h.u10, h.u11, h.u12⟩
theorem rP.kept (h : rP I A lk S) (h17 : J 17 = I 17) (h18 : J 18 = I 18) (h16 : J 16 2 = I 16 2) (h87 : J 87 = I 87) (h88 : J 88 = I 88) (h5 : J 85 5 = I 85 5) : rP J A lk S := by
  refine ⟨?_, ?_, ?_, ?_, ?_, ?_, ?_, ?_, h.B⟩
  · rw [h17, h87]; exact h.e
  · rw [h87]; exact h.z
  · rw [h87]; exact h.s
  · rw [h18, h88]; exact h.s0
  · rw [h18, h88]; exact h.s1
  · rw [h16, h5]; exact h.w
  · rw [h5]; exact h.w1
  · rw [h87, h88]; exact h.t
theorem rH.kept (h : rH K F I A C lk U S) (h59 : J 59 0 = I 59 0 ∧ J 59 1 = I 59 1) (h85 : J 85 37 = I 85 37 ∧ J 85 38 = I 85 38 ∧ J 85 5 = I 85 5) (h1 : J (F 59 2) = I (F 59 2)) (h2 : J (F 59 3) = I (F 59 3)) (h104 : J 104 = I 104) (h87 : J 87 = I 87) (h88 : J 88 = I 88) : rH K F J A C lk U S := by
  obtain ⟨x0, x1⟩ := h59
  obtain ⟨y0, y1, y2⟩ := h85
  refine ⟨?_, ?_, ?_, ?_, ?_, h.k1, h.k2, h.l0, h.l1, ?_, ?_, ?_, ?_⟩
  · rw [x0, y0]; exact h.a
  · rw [x1, y0, y1]; exact h.b
  · rw [y0]; exact h.a0
  · rw [y1]; exact h.b0
  · rw [y0, y1]; exact h.b1
  · rw [y0, y1]; exact h.l2
  · rw [y0, y1, h104, h1]; exact h.st
  · rw [y0, y1, h104, h87, h88, y2]; exact h.cu
  · rw [y0, h104, h2]; exact h.bo
theorem rL.kept (h : rL I) (h79 : J 79 = I 79) (h80 : J 80 = I 80) (h105 : J 105 = I 105) (h85 : J 85 39 = I 85 39 ∧ J 85 40 = I 85 40 ∧ J 85 43 = I 85 43) : rL J := by
  obtain ⟨y0, y1, y2⟩ := h85
  refine ⟨?_, ?_, ?_⟩
  · rw [h79, y0]; exact h.a
  · rw [y0]; exact h.a1
  · rw [y0, y1, y2, h79, h80, h105]; exact h.m
theorem rV.kept (h : rV I) (h83 : J 83 = I 83) (h84 : J 84 = I 84) (h107 : J 107 = I 107) (h108 : J 108 = I 108) : rV J := by
  refine ⟨?_, ?_, ?_, ?_⟩
  · rw [h83, h107]; exact h.a
  · rw [h84, h107]; exact h.b
  · rw [h83, h107, h108]; exact h.x
  · rw [h84, h107, h108]; exact h.y
theorem gG.kept {T : Int} (h : gG K F I A C lk U T) (h0 : J (F 63 0) = I (F 63 0)) (h1 : J (F 63 1) = I (F 63 1)) (h2 : J (F 63 2) = I (F 63 2)) : gG K F J A C lk U T := by
  refine ⟨?_, ?_, ?_, ?_⟩
  · rw [h1]; exact h.s0
  · rw [h1]; exact h.s
  · rw [h2]; exact h.e
  · rw [h0]; exact h.d
theorem rQ1.kept (h : rQ1 K F I A C lk U) (h62 : J 62 = I 62) (h85 : J 85 22 = I 85 22 ∧ J 85 23 = I 85 23 ∧ J 85 24 = I 85 24) (h4 : J (F 62 4) = I (F 62 4)) (h5 : J (F 62 5) = I (F 62 5)) (h6 : J (F 62 6) = I (F 62 6)) (h7 : J (F 62 7) = I (F 62 7)) (h93 : J 93 = I 93) (h94 : J 94 = I 94) (h95 : J 95 = I 95) (h96 : J 96 = I 96) : rQ1 K F J A C lk U := by
  obtain ⟨y0, y1, y2⟩ := h85
  refine ⟨?_, ?_, ?_, ?_, ?_, ?_, ?_, ?_, ?_, ?_, ?_, ?_, ?_⟩
  · rw [y0]; exact h.m
  · rw [y0, h62]; exact h.l8
  · rw [y1, h62]; exact h.l9
  · rw [y0, y1]; exact h.y
  · rw [y0, h62]; exact h.p
  · rw [y1, h62]; exact h.s
  · rw [y1, y2]; exact h.s2
  · rw [y0]; exact h.rV
  · rw [y0]; exact h.rE
  · rw [y0]; exact h.ws
  · rw [y1, h4, h5, h93, h94]; exact h.v
  · rw [y1, h93, h94]; exact h.be
  · rw [y0, h6, h7, h95, h96]; exact h.cl
theorem rQ.kept (h : rQ K F I A C lk U) (h62 : J 62 = I 62) (h63 : J 63 3 = I 63 3) (h85 : J 85 21 = I 85 21 ∧ J 85 22 = I 85 22 ∧ J 85 23 = I 85 23 ∧ J 85 24 = I 85 24) (hv : ∀ r, r ∈ vrl F → J r = I r) (h93 : J 93 = I 93) (h94 : J 94 = I 94) (h95 : J 95 = I 95) (h96 : J 96 = I 96) : rQ K F J A C lk U := by
  have m : ∀ i (hi : i < 15), J ((vrl F)[i]'hi) = I ((vrl F)[i]'hi) := fun i hi => hv _ (List.getElem_mem _)
  refine ⟨?_, ?_, ?_, ?_, ?_, ?_, ?_, ?_⟩
  · rw [h62, h85.1]; exact h.b
  · rw [h85.1]; exact h.b1
  · rw [h85.1]; exact fun w => (h.on w).kept h62 h85.2 (m 2 (by decide)) (m 3 (by decide)) (m 4 (by decide)) (m 5 (by decide)) h93 h94 h95 h96
  · rw [h63]; exact h.g0
  · rw [h63]; exact h.g1
  · rw [h63]; exact h.g.kept (m 6 (by decide)) (m 7 (by decide)) (m 8 (by decide))
  · rw [h85.1, h63, h85.2.2.1]; exact h.gs
  · rw [h63]; exact h.ge
theorem rQ.kept' (h : rQ K F I A C lk U) (h62 : J 62 = I 62) (h63 : J 63 3 = I 63 3) (h85 : J 85 21 = I 85 21 ∧ J 85 22 = I 85 22 ∧ J 85 23 = I 85 23 ∧ J 85 24 = I 85 24) (hv : ∀ r, r ∈ [F 62 4, F 62 5, F 62 6, F 62 7, F 63 0, F 63 1, F 63 2] → J r = I r) (h93 : J 93 = I 93) (h94 : J 94 = I 94) (h95 : J 95 = I 95) (h96 : J 96 = I 96) : rQ K F J A C lk U := by
  have m : ∀ i (hi : i < 7), J ([F 62 4, F 62 5, F 62 6, F 62 7, F 63 0, F 63 1, F 63 2][i]'hi) = I ([F 62 4, F 62 5, F 62 6, F 62 7, F 63 0, F 63 1, F 63 2][i]'hi) := fun i hi => hv _ (List.getElem_mem _)
  refine ⟨?_, ?_, ?_, ?_, ?_, ?_, ?_, ?_⟩
  · rw [h62, h85.1]; exact h.b
  · rw [h85.1]; exact h.b1
  · rw [h85.1]; exact fun w => (h.on w).kept h62 h85.2 (m 0 (by decide)) (m 1 (by decide)) (m 2 (by decide)) (m 3 (by decide)) h93 h94 h95 h96
  · rw [h63]; exact h.g0
  · rw [h63]; exact h.g1
  · rw [h63]; exact h.g.kept (m 4 (by decide)) (m 5 (by decide)) (m 6 (by decide))
  · rw [h85.1, h63, h85.2.2.1]; exact h.gs
  · rw [h63]; exact h.ge
theorem rel.sc (h : rel n K F I R C A lk U S) (hs : sc I J) : rel n K F J R C A lk U S := by
  have hv : ∀ r, r ∈ vrl F → J r = I r := fun r hr => (h.a.ok r hr).1.sc hs
  have m : ∀ i (hi : i < 15), J ((vrl F)[i]'hi) = I ((vrl F)[i]'hi) := fun i hi => hv _ (List.getElem_mem _)
  refine ⟨h.a, h.g.kept (fun b hb => hs.row (by omega)) (hs.fld (by omega)) (hs.fld (by omega)), h.u.kept (hs.row (by decide)) (fun j a b => hs.fld (by omega)), h.p.kept (hs.row (by decide)) (hs.row (by decide)) (congrFun (hs.row (by decide)) 2) (hs.row (by decide)) (hs.row (by decide)) (hs.fld (by omega)), ?_, ?_, ?_, ?_⟩
  · exact h.h.kept ⟨congrFun (hs.row (by decide)) 0, congrFun (hs.row (by decide)) 1⟩ ⟨hs.fld (by omega), hs.fld (by omega), hs.fld (by omega)⟩ (m 0 (by decide)) (m 1 (by decide)) (hs.row (by decide)) (hs.row (by decide)) (hs.row (by decide))
  · exact h.l.kept (hs.row (by decide)) (hs.row (by decide)) (hs.row (by decide)) ⟨hs.fld (by omega), hs.fld (by omega), hs.fld (by omega)⟩
  · exact h.v.kept (hs.row (by decide)) (hs.row (by decide)) (hs.row (by decide)) (hs.row (by decide))
  · exact h.q.kept (hs.row (by decide)) (congrFun (hs.row (by decide)) 3) ⟨hs.fld (by omega), hs.fld (by omega), hs.fld (by omega), hs.fld (by omega)⟩ hv (hs.row (by decide)) (hs.row (by decide)) (hs.row (by decide)) (hs.row (by decide))
/-- the same answer, and the relation again -/
def eqv (P : am_I → Prop) (x : Option (Int × am_I)) (y : am_I → Option (Int × am_I)) : Prop := ∃ v J J', x = some (v, J) ∧ y J = some (v, J') ∧ P J' ∧ J' 2 9 = J' 85 15
end KEPT
