-- CALLS: goOn, both sides
/-- the same answer, the relation again; the model changes places of rows too -/
def eqB (P : Nat → am_K → am_F → am_I → Nat → Nat → Prop) (x : Option am_A) (y : Nat → am_K → am_F → am_I → Option am_A) : Prop := ∃ v n' K' J F' c z J' F'', x = some (v, n', K', J, F', c, z) ∧ y n' K' F' J = some (v, n', K', J', F'', 0, 0) ∧ P n' K' F'' J' c z ∧ J' 2 9 = J' 85 15
section EGOON
variable {N n n' : Nat} {K K' : am_K} {F F' F1 F2 : am_F} {I J J' J1 J2 : am_I} {R C A : Int} {lk U : Int → Int} {S x y X V mx nx : Int} {c z : Nat} {v rk : Int → Int}
theorem eqB_mk {P : Nat → am_K → am_F → am_I → Nat → Nat → Prop} {x : Option am_A} {y : Nat → am_K → am_F → am_I → Option am_A} {v : Int} {n' : Nat} {K' : am_K} {J : am_I} {F' : am_F} {c z : Nat} {J' : am_I} {F'' : am_F} (h1 : x = some (v, n', K', J, F', c, z)) (h2 : y n' K' F' J = some (v, n', K', J', F'', 0, 0)) (h3 : P n' K' F'' J' c z) (h4 : J' 2 9 = J' 85 15) : eqB P x y := ⟨v, n', K', J, F', c, z, J', F'', h1, h2, h3, h4⟩
theorem rsm_F (h2 : F' 59 2 = F 59 2) (h4 : F' 62 4 = F 62 4) (h6 : F' 63 2 = F 63 2) : rsm K K F F' 0 0 := by
  have p1 : pzP K F' = pzP K F := by unfold pzP; rw [h2]
  have p2 : pzV K F' = pzV K F := by unfold pzV; rw [h4]
  have p3 : pzE K F' = pzE K F := by unfold pzE; rw [h6]
  refine ⟨by rw [h2]; exact Int.le_refl _, by rw [h2]; omega, by rw [p1, p2, p3]; omega⟩
theorem goOn_rel (h : rel n K F I R C A lk U S) (q : rQ1 K F I A C lk U) (w : I 85 21 = 1) {j : Nat} (hj : I 85 23 + j ≤ I 85 22 + 1) (hF : cF F F1 I J1) (hC : cQ n K F1 J1 R C A lk U (K (F 62 4)).2 (I 85 22) (I 85 23 + j) (gIv A C lk U j (I 85 23) (I 93) (I 94)) (gIr A C lk U j (I 85 23) (I 93) (I 94))) (hS : sm F1 F2) (hL : mlf (am_u2 J1 2 9 0) J2) (hM : mQ K F2 J2 R C A lk U (I 85 22) (I 85 23 + j) (gIv A C lk U j (I 85 23) (I 93) (I 94)) (gIr A C lk U j (I 85 23) (I 93) (I 94))) : rel n K F2 (am_u2 J2 85 15 0) R C A lk U S := by
  have hA := h.g.m.A
  have hLL := h.g.n
  have V := h.V q
  have qm := q.m
  have qy := q.y
  have P := pQ_it (U := U) h.g.m.g hLL q.m (show gp_top A lk (I 85 22) ≤ 40000 by omega) j (I 85 23) (I 93) (I 94) q.y.1 hj ⟨fun k a b => (q.v k a b).2.2.1, fun k a b => (q.v k a b).2.2.2, q.be⟩
  generalize hJ3 : am_u2 J2 85 15 0 = J3
  generalize hv : gIv A C lk U j (I 85 23) (I 93) (I 94) = v at *
  generalize hr : gIr A C lk U j (I 85 23) (I 93) (I 94) = rk at *
  have j3 : ∀ b, b ≠ 85 → J3 b = J2 b := fun b q => by rw [← hJ3, am_u2_row_b q]
  have lo : ∀ b, b ≠ 85 → b ≠ 2 → b ≠ 91 → b ≠ 92 → b ≠ 93 → b ≠ 94 → (b < 97 ∨ 103 < b) → J3 b = J1 b := fun b a1 a2 a3 a4 a5 a6 a7 => by
    rw [j3 b a1]
    funext i
    rw [hL b i a3 a4 a5 a6 a7 (Or.inl a1), am_u2_a a2]
  have fx : ∀ b, bfx b = true → b ≠ 62 → b ≠ 63 → b ≠ 85 → b ≠ 2 → b ≠ 91 → b ≠ 92 → b ≠ 93 → b ≠ 94 → (b < 97 ∨ 103 < b) → J3 b = I b := fun b b0 b1 b2 a1 a2 a3 a4 a5 a6 a7 => by rw [lo b a1 a2 a3 a4 a5 a6 a7]; exact hF.x b b0 b1 b2
  have fd : ∀ i, (i < 17 ∨ 19 < i) → i ≠ 23 → i ≠ 24 → i ≠ 15 → J3 85 i = I 85 i := fun i a1 a2 a3 a4 => by
    rw [← hJ3, am_u2_k a4, hL 85 i (by decide) (by decide) (by decide) (by decide) (by decide) (Or.inr ⟨a1, a2, a3⟩), am_u2_a (by decide), hF.x 85 rfl (by decide) (by decide)]
  have vk : ∀ r, vok r → J3 r = J1 r := fun r o => lo r (o.ne rfl) (o.ne rfl) (o.ne rfl) (o.ne rfl) (o.ne rfl) (o.ne rfl) (by unfold vok at o; omega)
  have fv : ∀ i (hi : i < 15), i < 6 → i ≠ 2 → i ≠ 3 → J3 ((vrl F)[i]'hi) = I ((vrl F)[i]'hi) := fun i hi a1 a2 a3 => by rw [vk _ (h.a.v i hi).1]; exact hF.v i hi a1 a2 a3
  have eF : ∀ a i, a ≠ 72 → a ≠ 85 → F2 a i = F a i := fun a i a1 a2 => (hS a i (Or.inl a2)).trans (hF.w a i (Or.inl a1))
  have g1 := fun (b : Nat) (i : Int) => hS b i
  have r62 : J3 62 = J1 62 := lo 62 (by decide) (by decide) (by decide) (by decide) (by decide) (by decide) (by decide)
  have r63 : J3 63 = J1 63 := lo 63 (by decide) (by decide) (by decide) (by decide) (by decide) (by decide) (by decide)
  have n93 : J3 93 = J2 93 := j3 93 (by decide)
  have n94 : J3 94 = J2 94 := j3 94 (by decide)
  have l2 : J3 85 22 = I 85 22 := fd 22 (by decide) (by decide) (by decide) (by decide)
  have l3 : J3 85 23 = I 85 23 + j := by rw [← hJ3, am_u2_k (by decide)]; exact hM.l3
  have l4 : J3 85 24 = gp_top A lk (I 85 23 + j - 1) := by rw [← hJ3, am_u2_k (by decide)]; exact hM.l4
  have l1 : J3 85 21 = I 85 21 := fd 21 (by decide) (by decide) (by decide) (by decide)
  have k4 : F2 62 4 = F 62 4 := eF 62 4 (by decide) (by decide)
  have k5 : F2 62 5 = F 62 5 := eF 62 5 (by decide) (by decide)
  have k6 : F2 62 6 = F 62 6 := eF 62 6 (by decide) (by decide)
  have k7 : F2 62 7 = F 62 7 := eF 62 7 (by decide) (by decide)
  have i0 : F2 63 0 = F1 63 0 := hS 63 0 (Or.inl (by decide))
  have i1 : F2 63 1 = F1 63 1 := hS 63 1 (Or.inl (by decide))
  have i2 : F2 63 2 = F1 63 2 := hS 63 2 (Or.inl (by decide))
  have i2' : F2 63 2 = F 63 2 := eF 63 2 (by decide) (by decide)
  have c4 : F1 62 4 = F 62 4 := hF.w 62 4 (Or.inl (by decide))
  have c5 : F1 62 5 = F 62 5 := hF.w 62 5 (Or.inl (by decide))
  have nv : ∀ b, (3 ≤ b ∧ b ≤ 14) ∨ b = 57 ∨ b = 86 ∨ b = 89 ∨ b = 90 → J3 b = I b := fun b q => fx b (by
    unfold bfx nvk
    simp only [Bool.and_eq_true, Bool.or_eq_true, decide_eq_true_eq, bne_iff_ne, ne_eq, beq_iff_eq]
    omega) (by omega) (by omega) (by omega) (by omega) (by omega) (by omega) (by omega) (by omega) (by omega)
  have sx : ∀ b, bfx b = true → (b = 15 ∨ b = 16 ∨ b = 17 ∨ b = 18 ∨ b = 59 ∨ b = 79 ∨ b = 80 ∨ b = 83 ∨ b = 84 ∨ b = 87 ∨ b = 88 ∨ b = 95 ∨ b = 96 ∨ b = 104 ∨ b = 105 ∨ b = 107 ∨ b = 108) → J3 b = I b := fun b q0 q => fx b q0 (by omega) (by omega) (by omega) (by omega) (by omega) (by omega) (by omega) (by omega) (by omega)
  have vals : ∀ k, 0 ≤ k → k < gp_top A lk (I 85 23 + j - 1) → (J3 (F 62 4) k = v k ∧ J3 (F 62 5) k = rk k) ∧ (J3 93 k = v k ∧ J3 94 k = rk k) := fun k a b => by
    have x1 := hC.v k a b
    have x2 := hM.v k a b
    rw [c4, c5] at x1
    have w4 : J3 (F 62 4) = J1 (F 62 4) := vk _ (h.a.v 2 (by decide)).1
    have w5 : J3 (F 62 5) = J1 (F 62 5) := vk _ (h.a.v 3 (by decide)).1
    rw [w4, w5, n93, n94]
    exact ⟨x1, x2⟩
  refine ⟨rA_sm hC.a hS hM.mm, h.g.kept nv (fd 0 (by decide) (by decide) (by decide) (by decide)) (fd 1 (by decide) (by decide) (by decide) (by decide)), h.u.kept (sx 15 rfl (by decide)) (fun i a b => fd i (by omega) (by omega) (by omega) (by omega)), h.p.kept (sx 17 rfl (by decide)) (sx 18 rfl (by decide)) (congrFun (sx 16 rfl (by decide)) 2) (sx 87 rfl (by decide)) (sx 88 rfl (by decide)) (fd 5 (by decide) (by decide) (by decide) (by decide)), ?_, ?_, ?_, ?_⟩
  · refine rH_kf (h.h.kept (J := J3) ⟨congrFun (sx 59 rfl (by decide)) 0, congrFun (sx 59 rfl (by decide)) 1⟩ ⟨fd 37 (by decide) (by decide) (by decide) (by decide), fd 38 (by decide) (by decide) (by decide) (by decide), fd 5 (by decide) (by decide) (by decide) (by decide)⟩ (fv 0 (by decide) (by decide) (by decide) (by decide)) (fv 1 (by decide) (by decide) (by decide) (by decide)) (sx 104 rfl (by decide)) (sx 87 rfl (by decide)) (sx 88 rfl (by decide))) (funext fun i => eF 59 i (by decide) (by decide)) rfl rfl
  · exact h.l.kept (sx 79 rfl (by decide)) (sx 80 rfl (by decide)) (sx 105 rfl (by decide)) ⟨fd 39 (by decide) (by decide) (by decide) (by decide), fd 40 (by decide) (by decide) (by decide) (by decide), fd 43 (by decide) (by decide) (by decide) (by decide)⟩
  · exact h.v.kept (sx 83 rfl (by decide)) (sx 84 rfl (by decide)) (sx 107 rfl (by decide)) (sx 108 rfl (by decide))
  · have G := hC.g
    have G3 : gG K F2 J3 A C lk U (gp_top A lk (J1 63 3 - 1)) := by
      have := G.kept (J := J3) (vk _ hC.B.v0) (vk _ hC.B.v1) (vk _ hC.B.v2)
      exact ⟨by rw [i1]; exact this.s0, by rw [i1]; exact this.s, by rw [i2]; exact this.e, by rw [i0]; exact this.d⟩
    refine ⟨?_, by rw [l1]; exact h.q.b1, fun _ => ?_, by rw [r63]; exact hC.g0, by rw [r63, k4]; exact hC.g1, by rw [r63]; exact G3, fun _ => by rw [l3, r63]; exact hC.gs, by rw [r63, i2]; exact hC.ge⟩
    · rw [l1, r62, hF.y 1 (by decide) (by decide)]; exact h.q.b
    · refine ⟨by rw [l2]; exact qm, by rw [l2, r62]; exact hC.l8, by rw [l3, r62]; exact hC.l9, by rw [l2, l3]; omega, ?_, by rw [l3, r62]; exact hC.s, by rw [l3]; exact l4, by rw [l2, k4]; exact q.rV, by rw [l2, i2']; exact q.rE, by rw [l2]; exact q.ws, fun k a b => ?_, fun k a b ex => ?_, fun k a b => ?_⟩
      · rw [l2, r62, hF.y 2 (by decide) (by decide)]; exact q.p
      · rw [l3] at b
        obtain ⟨⟨x1, x2⟩, x3, x4⟩ := vals k a b
        rw [k4, k5, x1, x2, x3, x4]
        exact ⟨rfl, rfl, P.vb k a b, P.rb k a b⟩
      · rw [l3] at b
        obtain ⟨p, hp⟩ := P.be k a b ex
        have o := gp_to_lt h.g.m.g (U := U) (t := I 85 23 + j - 1) (by omega) a b (by omega) hp.1 hp.2.1 hp.2.2.1
        have y1 := (vals k a b).2
        have y2 := (vals _ o.1 o.2).2
        exact ⟨p, gp_best_congr hp y1.1.symm y1.2.symm y2.1.symm y2.2.symm⟩
      · rw [l2] at b
        rw [k6, k7]
        have z6 : J3 (F 62 6) = I (F 62 6) := fv 4 (by decide) (by decide) (by decide) (by decide)
        have z7 : J3 (F 62 7) = I (F 62 7) := fv 5 (by decide) (by decide) (by decide) (by decide)
        rw [z6, z7, sx 95 rfl (by decide), sx 96 rfl (by decide)]
        exact q.cl k a b
theorem e_goOn (h : rel n K F I R C A lk U S) (hN : 2000000 < N) : eqB (fun n' K' F' J' c z => rel n' K' F' J' R C A lk U S ∧ rsm K K' F F' c z) (X11_goOn N 2 n K I F x) (fun n' K' F' J => X12_goOn N 85 n' K' J F' x) := by
  have hc := h.a.c
  have hm := h.a.m
  have no : ∀ w, X11_goOn N 2 n K I F x = some (-1, n, K, am_u2 I 2 9 w, F, 0, 0) → X12_goOn N 85 n K (am_u2 I 2 9 w) F x = some (-1, n, K, am_u2 (am_u2 I 2 9 w) 85 15 w, F, 0, 0) → eqB (fun n' K' F' J' c z => rel n' K' F' J' R C A lk U S ∧ rsm K K' F F' c z) (X11_goOn N 2 n K I F x) (fun n' K' F' J => X12_goOn N 85 n' K' J F' x) := fun w h1 h2 =>
    eqB_mk h1 h2 ⟨h.sc ((sc.rfl.st2 w).st85 w), rsm.rfl'⟩ (by rw [am_u2_s, am_u2_a (by decide), am_u2_s])
  have b62 := h.q.b
  by_cases q1 : I 85 21 = 0
  · refine no 9 ?_ ?_
    · unfold X11_goOn
      rw [cwF_2_6 hc, cwK_62 hc, if_pos (show ((9, 0) : Nat × Int).1 = 9 from rfl), if_pos (by rw [b62]; exact q1), c_ref, am_cl_s]
    · unfold X12_goOn
      rw [am_u2_a (show (85 : Nat) ≠ 2 by decide), if_pos q1, m_noo, am_cl_s]
  · have w1 : I 85 21 = 1 := by have := h.q.b1; omega
    have q := h.on q1
    by_cases q2 : 1 ≤ x ∧ x ≤ 13
    · have cx : X11_goOn N 2 n K I F x = X11_goOn_h37 N 2 N n K I F 0 0 x 0 := by
        unfold X11_goOn
        rw [cwF_2_6 hc, cwK_62 hc, if_pos (show ((9, 0) : Nat × Int).1 = 9 from rfl), if_neg (by rw [b62]; exact q1), if_pos q2.1, if_neg (by omega)]
      obtain ⟨J1, F1, j, a1, a2, a3, a4⟩ := c_goOn (N := N) (n0 := n) (x1 := x) hN q2.2 x.toNat N I F 0 (I 85 23) (I 93) (I 94) (by omega) (by omega) (by omega) (h.cQ q w1)
      have V := h.V q
      have qy := q.y
      have f85 : ∀ i, am_u2 J1 2 9 0 85 i = I 85 i := fun i => by rw [am_u2_a (by decide), a2.x 85 rfl (by decide) (by decide)]
      have fr : ∀ b, (b = 86 ∨ b = 89 ∨ b = 90 ∨ b = 93 ∨ b = 94) → am_u2 J1 2 9 0 b = I b := fun b w => by
        rw [am_u2_row_b (by omega)]
        exact a2.x b (by
          unfold bfx nvk
          simp only [Bool.and_eq_true, Bool.or_eq_true, decide_eq_true_eq, bne_iff_ne, ne_eq, beq_iff_eq]
          omega) (by omega) (by omega)
      have hQ : mQ K F1 (am_u2 J1 2 9 0) R C A lk U (I 85 22) (I 85 23) (I 93) (I 94) := ⟨(h.mB.kept (J := am_u2 J1 2 9 0) (fun b w => fr b (by omega)) (fun i _ => f85 i)).kf a3.a.m, a3.a.mm, q.m, q.y, f85 22, f85 23, by rw [f85 24]; exact q.s2, by omega, q.ws, fun k _ _ => ⟨by rw [fr 93 (by decide)], by rw [fr 94 (by decide)]⟩, fun k a b => (q.v k a b).2.2.1⟩
      obtain ⟨J2, F2, j', b1, b2, b3, b4, b5⟩ := m_goOn (N := N) (n0 := n) (x1 := x) hN q2.2 x.toNat N (am_u2 J1 2 9 0) F1 0 (I 85 23) (I 93) (I 94) (by omega) (by omega) (by omega) hQ
      have ej : j' = j := by rw [← a4] at b5; omega
      subst ej
      have mx : X12_goOn N 85 n K (am_u2 J1 2 9 0) F1 x = X12_goOn_h35 N 85 N n K (am_u2 J1 2 9 0) F1 0 0 x 0 := by
        unfold X12_goOn
        rw [f85 21, if_neg q1, m_isIn, am_cq_s, if_pos q2, if_neg (by decide)]
      have le : I 85 23 + j' ≤ I 85 22 + 1 := by
        rw [a4]; split <;> omega
      refine eqB_mk (cx.trans a1) (mx.trans b1) ⟨goOn_rel h q w1 le a2 a3 b2 b3 b4, rsm_F ?_ ?_ ?_⟩ ?_
      · exact (b2 59 2 (Or.inl (by decide))).trans (a2.w 59 2 (Or.inl (by decide)))
      · exact (b2 62 4 (Or.inl (by decide))).trans (a2.w 62 4 (Or.inl (by decide)))
      · exact (b2 63 2 (Or.inl (by decide))).trans (a2.w 63 2 (Or.inl (by decide)))
      · rw [am_u2_s, am_u2_a (by decide), b3 2 9 (by decide) (by decide) (by decide) (by decide) (by decide) (Or.inl (by decide)), am_u2_s]
    · refine no 7 ?_ ?_
      · have b28 : X11_goOn_b28 N 2 n K I F 0 0 = some (-1, n, K, am_u2 I 2 9 7, F, 0, 0) := by
          unfold X11_goOn_b28
          rw [am_mo_0, cwK_2 hc, if_pos (show ((11, 0) : Nat × Int).1 = 11 from rfl), c_ref, am_cl_s]
        unfold X11_goOn
        rw [cwF_2_6 hc, cwK_62 hc, if_pos (show ((9, 0) : Nat × Int).1 = 9 from rfl), if_neg (by rw [b62]; exact q1), b28]
        by_cases u : 1 ≤ x
        · rw [if_pos u, if_pos (by omega)]
        · rw [if_neg u]
      · unfold X12_goOn
        rw [am_u2_a (show (85 : Nat) ≠ 2 by decide), if_neg q1, m_isIn, am_cq_s, if_neg q2, if_pos rfl, m_noo, am_cl_s]
end EGOON
