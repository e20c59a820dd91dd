-- GOING ON, the class
/-- ranks of the layers up to t -/
def lgr (A C : Int) (lk U : Int → Int) (t : Int) (v0 rk : Int → Int) : Int → Int := fun k => if gp_top A lk (t - 1) ≤ k ∧ k < gp_top A lk t then lgk A C lk U t v0 480001 k else rk k
/-- values and ranks, j layers on -/
def gIv (A C : Int) (lk U : Int → Int) : Nat → Int → (Int → Int) → (Int → Int) → (Int → Int)
  | 0, _, v, _ => v
  | j + 1, t, v, rk => gIv A C lk U j (t + 1) (lgl A C lk U t v) (lgr A C lk U t v rk)
def gIr (A C : Int) (lk U : Int → Int) : Nat → Int → (Int → Int) → (Int → Int) → (Int → Int)
  | 0, _, _, rk => rk
  | j + 1, t, v, rk => gIr A C lk U j (t + 1) (lgl A C lk U t v) (lgr A C lk U t v rk)
/-- what the class holds while it solves: mx the last layer, nx the next -/
def cQ (n : Nat) (K : am_K) (F : am_F) (J : am_I) (R C A : Int) (lk U : Int → Int) (V mx nx : Int) (v rk : Int → Int) : Prop := (rA n K F) ∧ ((K (F 62 4)).2 = V) ∧ (cB K F J R C A lk U V) ∧ (0 ≤ J 63 3 ∧ J 63 3 ≤ 13) ∧ (gp_top A lk (J 63 3 - 1) ≤ V) ∧ (gG K F J A C lk U (gp_top A lk (J 63 3 - 1))) ∧ (gp_cnt A C lk U (gp_top A lk (J 63 3 - 1)).toNat ≤ (K (F 63 2)).2) ∧ (nx ≤ J 63 3) ∧ (0 ≤ mx ∧ mx ≤ 12) ∧ (J 62 8 = mx + 1) ∧ (J 62 9 = nx) ∧ (0 ≤ nx ∧ nx ≤ mx + 1) ∧ (J 62 3 = gp_top A lk (nx - 1)) ∧ (gp_top A lk mx ≤ V) ∧ (∀ x, 0 ≤ x ∧ x ≤ mx → gp_cnt A C lk U (gp_top A lk x).toNat ≤ (K (F 63 2)).2) ∧ (∀ k, 0 ≤ k → k < gp_top A lk (nx - 1) → J (F 62 4) k = v k ∧ J (F 62 5) k = rk k) ∧ (∀ k, 0 ≤ k → k < gp_top A lk (nx - 1) → (-gp_ly A lk k ≤ v k ∧ v k ≤ gp_ly A lk k))
theorem cQ.a {n : Nat} {K : am_K} {F : am_F} {J : am_I} {R C A : Int} {lk U : Int → Int} {V mx nx : Int} {v rk : Int → Int} (h : cQ n K F J R C A lk U V mx nx v rk) : rA n K F := h.1
theorem cQ.V {n : Nat} {K : am_K} {F : am_F} {J : am_I} {R C A : Int} {lk U : Int → Int} {V mx nx : Int} {v rk : Int → Int} (h : cQ n K F J R C A lk U V mx nx v rk) : (K (F 62 4)).2 = V := h.2.1
theorem cQ.B {n : Nat} {K : am_K} {F : am_F} {J : am_I} {R C A : Int} {lk U : Int → Int} {V mx nx : Int} {v rk : Int → Int} (h : cQ n K F J R C A lk U V mx nx v rk) : cB K F J R C A lk U V := h.2.2.1
theorem cQ.g0 {n : Nat} {K : am_K} {F : am_F} {J : am_I} {R C A : Int} {lk U : Int → Int} {V mx nx : Int} {v rk : Int → Int} (h : cQ n K F J R C A lk U V mx nx v rk) : 0 ≤ J 63 3 ∧ J 63 3 ≤ 13 := h.2.2.2.1
theorem cQ.g1 {n : Nat} {K : am_K} {F : am_F} {J : am_I} {R C A : Int} {lk U : Int → Int} {V mx nx : Int} {v rk : Int → Int} (h : cQ n K F J R C A lk U V mx nx v rk) : gp_top A lk (J 63 3 - 1) ≤ V := h.2.2.2.2.1
theorem cQ.g {n : Nat} {K : am_K} {F : am_F} {J : am_I} {R C A : Int} {lk U : Int → Int} {V mx nx : Int} {v rk : Int → Int} (h : cQ n K F J R C A lk U V mx nx v rk) : gG K F J A C lk U (gp_top A lk (J 63 3 - 1)) := h.2.2.2.2.2.1
theorem cQ.ge {n : Nat} {K : am_K} {F : am_F} {J : am_I} {R C A : Int} {lk U : Int → Int} {V mx nx : Int} {v rk : Int → Int} (h : cQ n K F J R C A lk U V mx nx v rk) : gp_cnt A C lk U (gp_top A lk (J 63 3 - 1)).toNat ≤ (K (F 63 2)).2 := h.2.2.2.2.2.2.1
theorem cQ.gs {n : Nat} {K : am_K} {F : am_F} {J : am_I} {R C A : Int} {lk U : Int → Int} {V mx nx : Int} {v rk : Int → Int} (h : cQ n K F J R C A lk U V mx nx v rk) : nx ≤ J 63 3 := h.2.2.2.2.2.2.2.1
theorem cQ.m {n : Nat} {K : am_K} {F : am_F} {J : am_I} {R C A : Int} {lk U : Int → Int} {V mx nx : Int} {v rk : Int → Int} (h : cQ n K F J R C A lk U V mx nx v rk) : 0 ≤ mx ∧ mx ≤ 12 := h.2.2.2.2.2.2.2.2.1
theorem cQ.l8 {n : Nat} {K : am_K} {F : am_F} {J : am_I} {R C A : Int} {lk U : Int → Int} {V mx nx : Int} {v rk : Int → Int} (h : cQ n K F J R C A lk U V mx nx v rk) : J 62 8 = mx + 1 := h.2.2.2.2.2.2.2.2.2.1
theorem cQ.l9 {n : Nat} {K : am_K} {F : am_F} {J : am_I} {R C A : Int} {lk U : Int → Int} {V mx nx : Int} {v rk : Int → Int} (h : cQ n K F J R C A lk U V mx nx v rk) : J 62 9 = nx := h.2.2.2.2.2.2.2.2.2.2.1
theorem cQ.y {n : Nat} {K : am_K} {F : am_F} {J : am_I} {R C A : Int} {lk U : Int → Int} {V mx nx : Int} {v rk : Int → Int} (h : cQ n K F J R C A lk U V mx nx v rk) : 0 ≤ nx ∧ nx ≤ mx + 1 := h.2.2.2.2.2.2.2.2.2.2.2.1
theorem cQ.s {n : Nat} {K : am_K} {F : am_F} {J : am_I} {R C A : Int} {lk U : Int → Int} {V mx nx : Int} {v rk : Int → Int} (h : cQ n K F J R C A lk U V mx nx v rk) : J 62 3 = gp_top A lk (nx - 1) := h.2.2.2.2.2.2.2.2.2.2.2.2.1
theorem cQ.rV {n : Nat} {K : am_K} {F : am_F} {J : am_I} {R C A : Int} {lk U : Int → Int} {V mx nx : Int} {v rk : Int → Int} (h : cQ n K F J R C A lk U V mx nx v rk) : gp_top A lk mx ≤ V := h.2.2.2.2.2.2.2.2.2.2.2.2.2.1
theorem cQ.rE {n : Nat} {K : am_K} {F : am_F} {J : am_I} {R C A : Int} {lk U : Int → Int} {V mx nx : Int} {v rk : Int → Int} (h : cQ n K F J R C A lk U V mx nx v rk) : ∀ x, 0 ≤ x ∧ x ≤ mx → gp_cnt A C lk U (gp_top A lk x).toNat ≤ (K (F 63 2)).2 := h.2.2.2.2.2.2.2.2.2.2.2.2.2.2.1
theorem cQ.v {n : Nat} {K : am_K} {F : am_F} {J : am_I} {R C A : Int} {lk U : Int → Int} {V mx nx : Int} {v rk : Int → Int} (h : cQ n K F J R C A lk U V mx nx v rk) : ∀ k, 0 ≤ k → k < gp_top A lk (nx - 1) → J (F 62 4) k = v k ∧ J (F 62 5) k = rk k := h.2.2.2.2.2.2.2.2.2.2.2.2.2.2.2.1
theorem cQ.vb {n : Nat} {K : am_K} {F : am_F} {J : am_I} {R C A : Int} {lk U : Int → Int} {V mx nx : Int} {v rk : Int → Int} (h : cQ n K F J R C A lk U V mx nx v rk) : ∀ k, 0 ≤ k → k < gp_top A lk (nx - 1) → (-gp_ly A lk k ≤ v k ∧ v k ≤ gp_ly A lk k) := h.2.2.2.2.2.2.2.2.2.2.2.2.2.2.2.2
/-- what it leaves alone -/
def cF (F F' : am_F) (J J' : am_I) : Prop := (sw F F') ∧ (∀ b, bfx b = true → b ≠ 62 → b ≠ 63 → J' b = J b) ∧ (∀ j, j ≠ 9 → j ≠ 3 → J' 62 j = J 62 j) ∧ (∀ i (hi : i < 15), i < 6 → i ≠ 2 → i ≠ 3 → J' ((vrl F)[i]'hi) = J ((vrl F)[i]'hi))
theorem cF.w {F F' : am_F} {J J' : am_I} (h : cF F F' J J') : sw F F' := h.1
theorem cF.x {F F' : am_F} {J J' : am_I} (h : cF F F' J J') : ∀ b, bfx b = true → b ≠ 62 → b ≠ 63 → J' b = J b := h.2.1
theorem cF.y {F F' : am_F} {J J' : am_I} (h : cF F F' J J') : ∀ j, j ≠ 9 → j ≠ 3 → J' 62 j = J 62 j := h.2.2.1
theorem cF.v {F F' : am_F} {J J' : am_I} (h : cF F F' J J') : ∀ i (hi : i < 15), i < 6 → i ≠ 2 → i ≠ 3 → J' ((vrl F)[i]'hi) = J ((vrl F)[i]'hi) := h.2.2.2
section CNEXT
variable {N n n0 : Nat} {K : am_K} {F F' F'' : am_F} {I J J' J'' : am_I} {R C A : Int} {lk U : Int → Int} {S x y z k p V t s i m mx nx x1 x2 : Int} {D r : Nat} {v0 v v' rk rk' : Int → Int}
theorem sw_vrl (h : sw F F') {i : Nat} (hi : i < 15) (w : i < 9) : (vrl F')[i]'hi = (vrl F)[i]'hi := by
  have e : ∀ a j, a ≠ 72 → F' a j = F a j := fun a j q => h a j (Or.inl q)
  rcases i with _ | _ | _ | _ | _ | _ | _ | _ | _ | i
  · exact e 59 2 (by decide)
  · exact e 59 3 (by decide)
  · exact e 62 4 (by decide)
  · exact e 62 5 (by decide)
  · exact e 62 6 (by decide)
  · exact e 62 7 (by decide)
  · exact e 63 0 (by decide)
  · exact e 63 1 (by decide)
  · exact e 63 2 (by decide)
  · omega
theorem cF_refl : cF F F J J := ⟨fun _ _ _ => rfl, fun _ _ _ _ => rfl, fun _ _ _ => rfl, fun _ _ _ _ _ => rfl⟩
theorem cF_tr (h : cF F F' J J') (h' : cF F' F'' J' J'') : cF F F'' J J'' := ⟨sw_tr h.w h'.w, fun b q1 q2 q3 => (h'.x b q1 q2 q3).trans (h.x b q1 q2 q3), fun j q1 q2 => (h'.y j q1 q2).trans (h.y j q1 q2), fun i hi q1 q2 q3 => by
  have := h'.v i hi q1 q2 q3
  rw [sw_vrl h.w hi (by omega)] at this
  exact this.trans (h.v i hi q1 q2 q3)⟩
theorem lgr_of (H : lgH A C lk U t v0) {m : Nat} (h : lgK A C lk U t v0 k m) (h1 : gp_top A lk (t - 1) ≤ k) (h2 : k < gp_top A lk t) : lgr A C lk U t v0 rk k = (m : Int) := by
  obtain ⟨n, e1, e2, e3⟩ := H.kc k 480001 rfl
  have := h.uniq e3
  unfold lgr
  rw [if_pos ⟨h1, h2⟩, this]
  exact e2
theorem cQ.gR (h : cQ n K F J R C A lk U V mx nx v rk) (hG : gG K F J A C lk U (gp_top A lk nx)) (hx : nx ≤ mx) : gR K F J R C A lk U V nx := by
  have B := h.B
  have m := h.m
  have y := h.y
  have hL := B.L
  have := gp_top_mono (A := A) (lk := lk) (by omega) hx
  have rV := h.rV
  exact ⟨B.c, B.g.1, hL, B.u.2.2, hG, by omega, by omega, by omega, B.V1, B.k0, B.k1, B.k2, h.rE nx ⟨y.1, hx⟩, B.E1⟩
theorem c_next (h : cQ n K F J R C A lk U V mx nx v rk) (hN : 2000000 < N) (hx : nx ≤ mx) : ∃ J' F', X9_solveNextLayer N 62 n0 K J F = some (0, n0, K, J', F', 0, 0) ∧ cF F F' J J' ∧ cQ n K F' J' R C A lk U V mx (nx + 1) (lgl A C lk U nx v) (lgr A C lk U nx v rk) := by
  have ha := h.a
  have B := h.B
  have hc := B.c
  have m := h.m
  have y := h.y
  have hL := B.L
  have V1 := B.V1
  have rV := h.rV
  have g0 := h.g0
  have t1 := gp_top_mono (A := A) (lk := lk) (by omega) hx
  have nn := gp_top_nn (A := A) (lk := lk) nx
  have rEn := h.rE nx ⟨y.1, hx⟩
  have u1 := c_boardsUpTo (N := N) hc B.w B.g (k := nx) (by omega)
  have eW : 2 * gW (gm_L A lk + 1) nx = gp_top A lk nx := rfl
  obtain ⟨J1, a1, a2, a3⟩ := c_layers (N := N) (x := nx) (R := R) hN (by omega) (show gp_top A lk nx ≤ V by omega) rEn (nx + 1 - J 63 3).toNat N J rfl (by omega) g0.1 g0.2 B h.g
  generalize hw : (if J 63 3 ≤ nx then nx + 1 else J 63 3) = w at a2 a3
  have w0 : nx + 1 ≤ w ∧ w ≤ 13 ∧ (w = nx + 1 ∨ w = J 63 3) := by
    by_cases q : J 63 3 ≤ nx
    · rw [if_pos q] at hw; omega
    · rw [if_neg q] at hw; omega
  have hB' := B.kept (J := am_u2 J 63 3 w) (fun b q => funext fun j => am_u2_a (by omega))
  have B1 := hB'.bf a2
  have fx : ∀ b, bfx b = true → b ≠ 63 → J1 b = J b := fun b q w' => by rw [a2.row hB' q]; exact funext fun j => am_u2_a w'
  have j63 : J1 63 3 = w := by rw [a2.row hB' rfl, am_u2_s]
  have fv : ∀ i (hi : i < 15), i < 6 → J1 ((vrl F)[i]'hi) = J ((vrl F)[i]'hi) := fun i hi q => by
    have o := (ha.v i hi).1
    funext j
    rw [a2 _ j (o.ne rfl) (o.ne rfl) (by unfold vok at o; omega) (Or.inl (o.ne rfl)) (o.ne rfl) (ha.ne hi (j := 6) (by decide) (by omega)) (ha.ne hi (j := 7) (by decide) (by omega)) (ha.ne hi (j := 8) (by decide) (by omega)), am_u2_a (o.ne rfl)]
  have r62 : J1 62 = J 62 := fx 62 rfl (by decide)
  have f4 : J1 (F 62 4) = J (F 62 4) := fv 2 (by decide) (by decide)
  have f5 : J1 (F 62 5) = J (F 62 5) := fv 3 (by decide) (by decide)
  have wt : gp_top A lk nx ≤ gp_top A lk (w - 1) := gp_top_mono (A := A) (lk := lk) (by omega) (by omega)
  have G1 : gG K F J1 A C lk U (gp_top A lk nx) := a3.mono wt
  have hR : gR K F J1 R C A lk U V nx := ⟨hc, B.g.1, hL, B.u.2.2, G1, by omega, by omega, by omega, V1, B.k0, B.k1, B.k2, rEn, B.E1⟩
  have H : lgH A C lk U nx v := gp_gH (R := R) B.g.1 (by omega) (n := nx) (by omega) (by omega) (fun k a b => h.vb k a b)
  have m12 := gp_top_mono (A := A) (lk := lk) (by omega) (show nx - 1 ≤ 12 by omega)
  obtain ⟨J2, F', b1, b2, b3, b4, b5, b6, b7⟩ := c_solveLayer (N := N) (n0 := n0) (v0 := v) ha hN h.V hR y.1 H (fun k a b => by
    have vb := h.vb k a b
    have ly := gp_ly_b (A := A) (lk := lk) (by omega) a (show k < gp_top A lk 12 by omega)
    exact ⟨by omega, by rw [f4]; exact (h.v k a b).1⟩)
  have e72 : ∀ i (hi : i < 15), 9 ≤ i → vok ((vrl F')[i]'hi) := fun i hi _ => (b2.v i hi).1
  have v1' : vok (F' 72 1) := e72 9 (by decide) (by decide)
  have v3' : vok (F' 72 3) := e72 11 (by decide) (by decide)
  have v2' : vok (F 72 2) := (ha.v 10 (by decide)).1
  have v4' : vok (F 72 4) := (ha.v 12 (by decide)).1
  have v5' : vok (F 72 5) := (ha.v 13 (by decide)).1
  have v6' : vok (F 72 6) := (ha.v 14 (by decide)).1
  have vv' : vok (F 62 4) := (ha.v 2 (by decide)).1
  have vr' : vok (F 62 5) := (ha.v 3 (by decide)).1
  have gx : ∀ b, nvk b = true → J2 b = J1 b := fun b q => b7 b (vv'.ne q).symm (vr'.ne q).symm (v1'.ne q).symm (v2'.ne q).symm (v3'.ne q).symm (v4'.ne q).symm (v5'.ne q).symm (v6'.ne q).symm
  have ee : ∀ i (hi : i < 15), i < 9 → (vrl F')[i]'hi = (vrl F)[i]'hi := fun i hi q => sw_vrl b3 hi q
  have gy : ∀ i (hi : i < 15), i < 9 → i ≠ 2 → i ≠ 3 → J2 ((vrl F)[i]'hi) = J1 ((vrl F)[i]'hi) := fun i hi q q2 q3 => by
    have k1 : (vrl F)[i]'hi ≠ F' 72 1 := by rw [← ee i hi q]; exact b2.ne hi (j := 9) (by decide) (by omega)
    have k3 : (vrl F)[i]'hi ≠ F' 72 3 := by rw [← ee i hi q]; exact b2.ne hi (j := 11) (by decide) (by omega)
    have kv : (vrl F)[i]'hi ≠ F 62 4 := by
      rcases Nat.lt_or_gt_of_ne q2 with u | u
      · exact ha.ne hi (j := 2) (by decide) u
      · exact (ha.ne (i := 2) (by decide) hi u).symm
    have kr : (vrl F)[i]'hi ≠ F 62 5 := by
      rcases Nat.lt_or_gt_of_ne q3 with u | u
      · exact ha.ne hi (j := 3) (by decide) u
      · exact (ha.ne (i := 3) (by decide) hi u).symm
    exact b7 _ kv kr k1 (ha.ne hi (j := 10) (by decide) (by omega)) k3 (ha.ne hi (j := 12) (by decide) (by omega)) (ha.ne hi (j := 13) (by decide) (by omega)) (ha.ne hi (j := 14) (by decide) (by omega))
  have q62 : J2 62 = J 62 := (gx 62 rfl).trans r62
  generalize hJ3 : am_u2 (am_u2 J2 62 9 (nx + 1)) 62 3 (gp_top A lk nx) = J3
  have j3 : ∀ b, b ≠ 62 → J3 b = J2 b := fun b q => by rw [← hJ3, am_u2_row_b q, am_u2_row_b q]
  have k4 : F' 62 4 = F 62 4 := b3 62 4 (by decide)
  have k5 : F' 62 5 = F 62 5 := b3 62 5 (by decide)
  have i0 : F' 63 0 = F 63 0 := b3 63 0 (by decide)
  have i1 : F' 63 1 = F 63 1 := b3 63 1 (by decide)
  have i2 : F' 63 2 = F 63 2 := b3 63 2 (by decide)
  have g0' : J3 (F 63 0) = J1 (F 63 0) := (j3 _ ((ha.v 6 (by decide)).1.ne rfl)).trans (gy 6 (by decide) (by decide) (by decide) (by decide))
  have g1' : J3 (F 63 1) = J1 (F 63 1) := (j3 _ ((ha.v 7 (by decide)).1.ne rfl)).trans (gy 7 (by decide) (by decide) (by decide) (by decide))
  have g2' : J3 (F 63 2) = J1 (F 63 2) := (j3 _ ((ha.v 8 (by decide)).1.ne rfl)).trans (gy 8 (by decide) (by decide) (by decide) (by decide))
  have gG3 : gG K F' J3 A C lk U (gp_top A lk (w - 1)) := by
    have := a3.kept g0' g1' g2'
    exact ⟨by rw [i1]; exact this.s0, by rw [i1]; exact this.s, by rw [i2]; exact this.e, by rw [i0]; exact this.d⟩
  have j633 : J3 63 3 = w := by rw [j3 63 (by decide), gx 63 rfl]; exact j63
  have r4 : J3 (F 62 4) = J2 (F 62 4) := j3 _ (vv'.ne rfl)
  have r5 : J3 (F 62 5) = J2 (F 62 5) := j3 _ (vr'.ne rfl)
  refine ⟨J3, F', ?_, ⟨b3, fun b q1 q2 q3 => ?_, fun j q1 q2 => ?_, fun i hi q1 q2 q3 => ?_⟩, ⟨b2, by rw [k4]; exact h.V, ?_, by rw [j633]; omega, ?_, by rw [j633]; exact gG3, ?_, by rw [j633]; omega, m, ?_, ?_, by omega, ?_, rV, by rw [i2]; exact h.rE, fun k a b => ?_, fun k a b => ?_⟩⟩
  · unfold X9_solveNextLayer am_lt
    dsimp only
    rw [cwF_62_12 hc, cwK_56 hc, if_pos (show ((3, 0) : Nat × Int).1 = 3 from rfl), h.l9, u1, am_cq_s, if_pos (nb_in (by omega)), if_pos (nb_in (by omega)), cwF_62_0 hc, cwK_63 hc, if_pos (show ((0, 0) : Nat × Int).1 = 0 from rfl)]
    rw [show X0_buildLayer N K F 63 J nx = some (0, J1) from a1, am_cl_s, cwF_62_10 hc, cwK_72 hc, if_pos (show ((7, 0) : Nat × Int).1 = 7 from rfl), r62, h.s, eW, b1, am_ca_s, Nat.add_zero, am_mo_0, cwK_62 hc, if_pos (show ((9, 0) : Nat × Int).1 = 9 from rfl), q62, h.l9, if_pos (nb_in (by omega)), hJ3]
  · have qn : nvk b = true := by
      unfold bfx at q1
      simp only [Bool.and_eq_true] at q1
      exact q1.2
    rw [j3 b q2, gx b qn, fx b q1 q3]
  · rw [← hJ3, am_u2_k q2, am_u2_k q1, q62]
  · rw [j3 _ ((ha.v i hi).1.ne rfl), gy i hi (by omega) q2 q3, fv i hi q1]
  · have Bk := B1.kept (J := J3) (fun b q => by rw [j3 b (by omega), gx b (by unfold nvk; simp only [Bool.or_eq_true, decide_eq_true_eq, beq_iff_eq, Bool.and_eq_true]; omega)])
    exact ⟨b2.c, Bk.g, Bk.w, Bk.l, Bk.r, Bk.u, Bk.L, by rw [i0]; exact Bk.k0, by rw [i1]; exact Bk.k1, by rw [i2]; exact Bk.k2, Bk.V1, by rw [i2]; exact Bk.E1, by rw [i0]; exact Bk.v0, by rw [i1]; exact Bk.v1, by rw [i2]; exact Bk.v2, by rw [i0, i1]; exact Bk.n01, by rw [i0, i2]; exact Bk.n02, by rw [i1, i2]; exact Bk.n12⟩
  · rw [j633]
    rcases w0.2.2 with u | u
    · rw [u, show nx + 1 - 1 = nx by omega]; omega
    · rw [u]; exact h.g1
  · rw [j633, i2]
    rcases w0.2.2 with u | u
    · rw [u, show nx + 1 - 1 = nx by omega]; exact rEn
    · rw [u]; exact h.ge
  · rw [← hJ3, am_u2_k (by decide), am_u2_k (by decide), q62]; exact h.l8
  · rw [← hJ3, am_u2_k (by decide), am_u2_s]
  · rw [← hJ3, am_u2_s, show nx + 1 - 1 = nx by omega]
  · rw [show nx + 1 - 1 = nx by omega] at b
    rw [k4, k5, r4, r5]
    refine ⟨b4 k a b, ?_⟩
    by_cases q : gp_top A lk (nx - 1) ≤ k
    · obtain ⟨mm, e1, e2, e3⟩ := b5 k q b
      rw [e1, lgr_of H e3 q b]
    · unfold lgr
      rw [b6 k a (by omega), if_neg (by omega), f5]
      exact (h.v k a (by omega)).2
  · rw [show nx + 1 - 1 = nx by omega] at b
    by_cases q : gp_top A lk (nx - 1) ≤ k
    · have ly := gp_ly_u (A := A) (lk := lk) (by omega) (k := k) (n := nx) a (by have := gp_top_mono (A := A) (lk := lk) (by omega) (show nx ≤ 12 by omega); omega) q b
      rw [ly]
      exact H.lb q b
    · have e : lgl A C lk U nx v k = v k := gl_out (by omega)
      rw [e]; exact h.vb k a (by omega)
end CNEXT
