-- MOVES: redo
section REDO2
variable {N n n' : Nat} {K K' : am_K} {F F' : am_F} {I J J' : am_I} {R C A : Int} {lk U : Int → Int} {S x y z : Int}
theorem mvk_o {b : Nat} (h : mvk b = true) : (b < 16 ∨ 54 < b) ∧ b ≠ 2 ∧ b ≠ 59 ∧ b ≠ 85 ∧ b ≠ 87 ∧ b ≠ 88 ∧ b ≠ 91 ∧ b ≠ 103 ∧ b ≠ 104 := by
  unfold mvk at h
  simp only [Bool.or_eq_true, decide_eq_true_eq, beq_iff_eq, Bool.and_eq_true] at h
  omega
theorem cst.of {I1 : am_I} {B B' : Nat} {md w t : Int} {mv : Int → Int} (h : cst I1 J B B' A md w t mv) (hb : vok B) (h1 : ∀ b, b < 19 ∨ 55 < b → I1 b = I b) : cst I J B B' A md w t mv := by
  have hB : I1 B = I B := h1 B (by unfold vok at hb; omega)
  have e17 := h1 17 (by omega)
  have e18 := h1 18 (by omega)
  refine ⟨h.p, h.z, by rw [← e18]; exact h.s, h.w, h.m, by rw [← e17]; exact h.b, by rw [← e18]; exact h.b2, by rw [← hB]; exact h.b3, fun b q => ?_, fun b q1 q2 => by rw [h.f85 b q1 q2, h1 b (by omega)]⟩
  rw [h.f b q, h1 b ?_]
  unfold mvk at q
  simp only [Bool.or_eq_true, decide_eq_true_eq, beq_iff_eq, Bool.and_eq_true] at q
  omega
theorem c_redo (h : rel n K F I R C A lk U S) (hN : 2000000 < N) (hu : 0 < I 85 38) {q : Int} (hq : I (F 59 2) (I 85 37) = q) : ∃ (J : am_I) (mv : Int → Int), X11_redo N K F 2 I = some (I 85 37 + 1, am_u2 J 2 9 0) ∧ cst I J (F 59 3) (F 59 3) A (I 85 37) (I 85 5) (gm_tot A (I 87) - gm_tot A mv) mv ∧ J 59 1 = I 59 1 ∧ (∀ b, (b < 16 ∨ 55 < b) → b ≠ 59 → b ≠ F 59 3 → J b = I b) ∧ gm_eq A mv (gm_mv A C lk (U 6) (U 7) (U 8) (U 9) (fun p => I 104 (I 85 37 * 35 + p)) (I 104 (I 85 37 * 35 + 34)) q).1 ∧ gm_st A lk mv ∧ gm_tot A mv ≤ gm_tot A (I 87) := by
  have hc := h.a.c
  have hA := h.g.m.A
  have ha := h.h.a
  have hb := h.h.b
  have a0 := h.h.a0
  have b1 := h.h.b1
  have l2 := h.h.l2
  have w1 := h.p.w1
  have w0 := h.p.w
  have hv2 : vok (F 59 3) := (h.a.v 1 (by decide)).1
  have hst := h.h.st (I 85 37) (by omega) (by omega)
  obtain ⟨cu1, cu2, cu3, cu4⟩ := h.h.cu (by omega)
  rw [hq] at hst
  have q0 := hst.q0
  have q1 := hst.q1
  have ql := hst.ql
  have qs := hst.qs
  rw [cu4] at qs
  have heq : gm_eq A (I 17) (fun p => I 104 (I 85 37 * 35 + p)) := fun p a b => by show I 17 p = I 104 (I 85 37 * 35 + p); rw [cu1 p a (by omega), h.p.e p a (by omega)]
  obtain ⟨m1, m2⟩ := heq.mv h.g.m.g (kd := U 6) (mr := U 7) (lo := U 8) (hi := U 9) h.st17 q0 q1 ql qs
  obtain ⟨mst, mle, -⟩ := gm_mv_st h.g.m.g (kd := U 6) (mr := U 7) (lo := U 8) (hi := U 9) h.st17 q0 q1 ql qs
  have nl := hst.nl
  rw [cu4, ← m2] at nl
  obtain ⟨J1, e1, e2, e3, e4⟩ := c_carryOut (N := N) (I := I) hc h.g.c hN h.u.c h.u.gm.1 (Or.inl rfl) q0 q1 ql qs h.st17 h.zb17
  obtain ⟨e4, e5, e6⟩ := e4 nl
  rw [if_pos nl] at e1
  have tot17 := h.eq17.tot
  have hstb := h.store w1
  have mtn := gm_tot_nn mst.1
  rw [cu4]
  generalize gm_mv A C lk (U 6) (U 7) (U 8) (U 9) (I 17) (I 85 5) q = mv at *
  have j1 : ∀ b, b < 21 ∨ 54 < b → J1 b = I b := fun b hb => e2 b (by omega) (by omega)
  obtain ⟨J2, J, g1, g2, g3, g4, g5, g6, g7, -⟩ := c_kf (N := N) (I := J1) (A := A) (md := I 85 37) (w := I 85 5) (t := gm_tot A (I 87) - gm_tot A mv.1) (q := q) (mv := mv.1) hc h.h.k2 hv2 hA (by rw [j1 59 (by omega), ha]) (by omega) h.h.l1 (by rw [j1 16 (by omega), w0]) w1 ⟨q0, q1⟩ e4 e5 (by rw [e6, tot17]) (by rw [j1 18 (by omega), hstb.1]; exact nb_in (by omega))
  refine ⟨J, mv.1, ?_, g3.of hv2 (fun b q => j1 b (by omega)), by rw [g6 1 (by decide), j1 59 (by omega)], fun b q1 q2 q3 => by rw [g7 b (by omega) (by omega) (by omega) q2 q3, j1 b (by omega)], m1, mst, by omega⟩
  have r59 : J 59 0 = I 85 37 + 1 := g3.m
  unfold X11_redo X4_pitToRedo X4_pitToRedo_b24
  rw [cwF_2_5 hc, cwK_59 hc, cwF_2_2 hc, cwK_16 hc, cwF_2_3 hc, cwK_19 hc, cwF_16_0 hc, cwF_19_2 hc, cwK_22 hc, cwF_19_1 hc, cwK_21 hc, if_pos (show ((4, 0) : Nat × Int).1 = 4 from rfl), if_pos (by omega), if_pos h.h.k1, ha, if_pos (by omega), hq, am_cq_s, if_neg (by omega), if_pos (show ((6, 0) : Nat × Int).1 = 6 from rfl), if_pos (show ((10, 0) : Nat × Int).1 = 10 from rfl), w0, e1, am_cl_s, g1, am_cl_s, if_pos (show ((103, 32) : Nat × Int).1 = 103 from rfl), if_pos (show (0 : Int) ≤ q ∧ q < 32 by omega), if_pos (show ((100, 32) : Nat × Int).1 = 100 from rfl), if_pos (show (0 : Int) ≤ q ∧ q < 32 by omega), cw_rowF hc q q0 (by omega), g2, am_cl_s, r59]
  rfl
theorem e_redo (h : rel n K F I R C A lk U S) (hN : 2000000 < N) : eqv (fun J => rel n K F J R C A lk U S) (X11_redo N K F 2 I) (fun J => X12_redo N K F 85 J) := by
  have hc := h.a.c
  have hm := h.a.m
  have ha := h.h.a
  have hb := h.h.b
  have a0 := h.h.a0
  have b0 := h.h.b0
  have b1 := h.h.b1
  by_cases w : I 85 38 = 0
  · refine e_no' h 8 ?_ ?_
    · unfold X11_redo X4_pitToRedo X4_pitToRedo_b24
      rw [cwF_2_5 hc, cwK_59 hc, if_pos (show ((4, 0) : Nat × Int).1 = 4 from rfl), if_neg (by omega), am_cq_s, if_pos (by decide)]; rfl
    · show X12_redo N K F 85 _ = _
      unfold X12_redo
      rw [if_pos (by rw [am_u2_a (by decide)]; exact w)]; rfl
  · have hv1 : vok (F 59 2) := (h.a.v 0 (by decide)).1
    have hv2 : vok (F 59 3) := (h.a.v 1 (by decide)).1
    obtain ⟨nd1, nd2⟩ := rel.nd23 h.a
    have hu : 0 < I 85 38 := by omega
    obtain ⟨J3, mv, e1, e2, e3, e4, e5, e6, e7⟩ := c_redo h hN hu rfl
    have hst := h.h.st (I 85 37) (by omega) (by omega)
    obtain ⟨cu1, cu2, cu3, cu4⟩ := h.h.cu (by omega)
    have hg := h.g.m.g
    have hA := hg.A
    have heq : gm_eq A (I 87) (fun p => I 104 (I 85 37 * 35 + p)) := fun p a b => (cu1 p a (by omega)).symm
    have r85 : J3 85 = I 85 := e2.f85 85 (by decide) (by decide)
    generalize hJ4 : am_u2 (am_u2 (am_u2 J3 2 9 0) 85 37 (I 85 37 + 1)) 85 38 (I 85 38 - 1) = J4
    have j4 : ∀ b, b ≠ 2 → b ≠ 85 → J4 b = J3 b := fun b q1 q2 => by rw [← hJ4]; funext j; rw [am_u2_a q2, am_u2_a q2, am_u2_a q1]
    have j85 : ∀ j, j ≠ 37 → j ≠ 38 → J4 85 j = I 85 j := fun j q1 q2 => by rw [← hJ4, am_u2_k q2, am_u2_k q1, am_u2_a (by decide), r85]
    have j37 : J4 85 37 = I 85 37 + 1 := by rw [← hJ4, am_u2_k (by decide), am_u2_s]
    have j38 : J4 85 38 = I 85 38 - 1 := by rw [← hJ4, am_u2_s]
    obtain ⟨J5, k1, k2, k3, k4, k5, k6, k7⟩ := m_bring (N := N) (I := J4) hm (by omega) (k := I 85 37 + 1) (by omega)
    have r104 : J4 104 = I 104 := by rw [j4 104 (by decide) (by decide), e2.f85 104 (by decide) (by decide)]
    rw [r104] at k4 k5 k6 k7
    have fin : ∀ b, b ≠ 2 → b ≠ 85 → b ≠ 87 → b ≠ 88 → am_u2 J5 85 15 0 b = J3 b := fun b q1 q2 q3 q4 => by funext j; rw [am_u2_a q2, k2 b q3 q4 q2, j4 b q1 q2]
    have z5 : am_u2 J5 85 15 0 85 5 = I 104 ((I 85 37 + 1) * 35 + 34) := by rw [am_u2_k (by decide), k7]
    have z37 : am_u2 J5 85 15 0 85 37 = I 85 37 + 1 := by rw [am_u2_k (by decide), k3 37 (by decide), j37]
    have z38 : am_u2 J5 85 15 0 85 38 = I 85 38 - 1 := by rw [am_u2_k (by decide), k3 38 (by decide), j38]
    have z87 : ∀ p, 0 ≤ p → p < 32 → am_u2 J5 85 15 0 87 p = I 104 ((I 85 37 + 1) * 35 + p) := fun p a b => by rw [am_u2_a (by decide), k4 p a b]
    have z880 : am_u2 J5 85 15 0 88 0 = I 104 ((I 85 37 + 1) * 35 + 32) := by rw [am_u2_a (by decide), k5]
    have z881 : am_u2 J5 85 15 0 88 1 = I 104 ((I 85 37 + 1) * 35 + 33) := by rw [am_u2_a (by decide), k6]
    have rB : am_u2 J5 85 15 0 (F 59 3) = J3 (F 59 3) := fin _ (hv2.ne rfl) (hv2.ne rfl) (hv2.ne rfl) (hv2.ne rfl)
    have rP1 : am_u2 J5 85 15 0 (F 59 2) = I (F 59 2) := by rw [fin _ (hv1.ne rfl) (hv1.ne rfl) (hv1.ne rfl) (hv1.ne rfl), e4 _ (by unfold vok at hv1; omega) (hv1.ne rfl) nd1]
    have r104' : am_u2 J5 85 15 0 104 = I 104 := by rw [fin 104 (by decide) (by decide) (by decide) (by decide), e2.f85 104 (by decide) (by decide)]
    have s0 := hst.es0
    have s1 := hst.es1
    have ew := hst.ew
    rw [cu4] at s0 s1 ew e5
    have mt := e5.tot
    have ht := heq.tot
    refine eqv_mk (v := I 85 37 + 1) (J := am_u2 J3 2 9 0) (J' := am_u2 J5 85 15 0) e1 ?_ (h.mvd h.a (fun _ _ _ _ => rfl) rfl rfl (fun b q => ?_) (fun r hr => ?_) (fun j q1 q2 q3 q4 => ?_) ?_ ?_) ?_
    · show X12_redo N K F 85 _ = _
      have k37 : am_u2 J3 2 9 0 85 37 = I 85 37 := by rw [am_u2_a (by decide), r85]
      have k38 : am_u2 J3 2 9 0 85 38 = I 85 38 := by rw [am_u2_a (by decide), r85]
      unfold X12_redo
      rw [k38, if_neg w, k37, if_pos (nb_in (by omega))]
      unfold am_lt
      dsimp only
      rw [am_u2_k (show (38 : Int) ≠ 37 by decide), k38, if_pos (nb_in (by omega)), hJ4, j37, k1, am_cl_s, k3 37 (by decide), j37]; rfl
    · have := mvk_o q
      rw [fin b this.2.1 this.2.2.2.1 this.2.2.2.2.1 this.2.2.2.2.2.1]; exact e2.f b q
    · have hv := (h.a.mem7 hr).1
      rw [fin r (hv.ne rfl) (hv.ne rfl) (hv.ne rfl) (hv.ne rfl), e4 r (by unfold vok at hv; omega) (hv.ne rfl) (nd2 r hr).2]
    · rw [am_u2_k (by omega), k3 j q1, j85 j q3 q4]
    · refine h.p.step (J := J3) (q := I (F 59 2) (I 85 37)) hg hst.q0 hst.q1 hst.ql (by rw [hst.qs, cu4]) rfl e6 e7 e2 (fin 17 (by decide) (by decide) (by decide) (by decide)) (fin 18 (by decide) (by decide) (by decide) (by decide)) (congrFun (fin 16 (by decide) (by decide) (by decide) (by decide)) 2) (fun p a b => ?_) (fun p a b => ?_) ?_ ?_ (by rw [z5, ew])
      · rw [z87 p a (by omega), hst.e p a b, cu4]; exact (e5 p a b).symm
      · rw [z87 p (by omega) b]; exact hst.ez p a b
      · rw [z880, s0, cu2, ← ht, ← mt]
        rcases h.p.w1 with g | g
        · rw [g, gm_up_s, if_pos rfl]
        · rw [g, gm_up_n (by decide), if_neg (by decide)]; omega
      · rw [z881, s1, cu3, ← ht, ← mt]
        rcases h.p.w1 with g | g
        · rw [g, gm_up_n (by decide), if_neg (by decide)]; omega
        · rw [g, gm_up_s, if_pos rfl]
    · exact h.h.again h.p hu e2 e3 (fin 59 (by decide) (by decide) (by decide) (by decide)) rP1 rB r104' z37 z38 z5 z880 z881 z87
    · rw [am_u2_s, am_u2_a (by decide), k2 2 (by decide) (by decide) (by decide), ← hJ4, am_u2_a (by decide), am_u2_a (by decide), am_u2_s]
end REDO2
