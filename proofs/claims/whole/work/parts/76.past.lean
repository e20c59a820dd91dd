-- MOVES: the class's past
section PAST
variable {N n : Nat} {K : am_K} {F : am_F} {I J : am_I} {R C A : Int} {lk U : Int → Int} {S x y z : Int}
theorem c_keepAgain (hc : cw K F) {L : Int} (hb : K (F 59 3) = (100, 34 * L)) (hv : vok (F 59 3)) (hm1 : 0 ≤ I 59 0 ∧ I 59 0 < L) (hL : L ≤ 1000) : ∃ J, X4_keepAgain N K F 59 I 16 = some (0, J) ∧ (∀ b, b ≠ 59 → b ≠ F 59 3 → J b = I b) ∧ (∀ j, j ≠ 0 → J 59 j = I 59 j) ∧ J 59 0 = I 59 0 + 1 ∧ (∀ p, 0 ≤ p → p < 32 → J (F 59 3) (I 59 0 * 34 + p) = I 17 p) ∧ (∀ p, 0 ≤ p → p < 2 → J (F 59 3) (I 59 0 * 34 + (32 + p)) = I 18 p) ∧ (∀ j, j < I 59 0 * 34 ∨ I 59 0 * 34 + 34 ≤ j → J (F 59 3) j = I (F 59 3) j) := by
  have hn := vok_n hv
  generalize hB : F 59 3 = B at *
  refine ⟨am_u2 (am_cp (am_cp I 17 0 B (I 59 0 * 34) 32) 18 0 B (I 59 0 * 34 + 32) 2) 59 0 (I 59 0 + 1), ?_, fun b q1 q2 => ?_, fun j q => ?_, by rw [am_u2_s], fun p a b => ?_, fun p a b => ?_, fun j q => ?_⟩
  · have e0 : am_cp (am_cp I 17 0 B (I 59 0 * 34) 32) 18 0 B (I 59 0 * 34 + 32) 2 59 0 = I 59 0 := by unfold am_cp; rw [if_neg (by omega), if_neg (by omega)]
    unfold X4_keepAgain
    simp only [cwK_16 hc, cwF_16_0 hc, cwK_17 hc, cwF_16_1 hc, cwK_18 hc, hB, hb, am_lt, e0]
    rw [if_pos (nb_in (by omega)), if_pos trivial, if_pos trivial, if_pos trivial, if_pos (by unfold vok at hv; omega), if_pos (by decide), if_pos (by omega), if_pos (nb_in (by omega)), if_pos trivial, if_pos (by decide), if_pos (by omega), if_pos (nb_in (by omega))]
  · funext j; rw [am_u2_a q1]; unfold am_cp; rw [if_neg (fun w => q2 w.1), if_neg (fun w => q2 w.1)]
  · rw [am_u2_k q]; unfold am_cp; rw [if_neg (by omega), if_neg (by omega)]
  · rw [am_u2_a (by omega)]; unfold am_cp; rw [if_neg (by omega), if_pos (by omega)]; congr 1; omega
  · rw [am_u2_a (by omega)]; unfold am_cp; rw [if_pos (by omega), if_neg (by omega)]; congr 1; omega
  · rw [am_u2_a (by omega)]; unfold am_cp; rw [if_neg (by omega), if_neg (by omega)]
theorem c_takeBack (hc : cw K F) {L : Int} (hb : K (F 59 3) = (100, 34 * L)) (hv : vok (F 59 3)) (hm1 : 1 ≤ I 59 0 ∧ I 59 0 ≤ L) (hL : L ≤ 1000) (hw : I 16 2 = 0 ∨ I 16 2 = 1) : ∃ J, X4_takeBack N K F 59 I 16 = some (0, J) ∧ (∀ b, b ≠ 59 → b ≠ 16 → b ≠ 17 → b ≠ 18 → J b = I b) ∧ (∀ j, j ≠ 0 → J 59 j = I 59 j) ∧ J 59 0 = I 59 0 - 1 ∧ (∀ p, 0 ≤ p → p < 32 → J 17 p = I (F 59 3) ((I 59 0 - 1) * 34 + p)) ∧ (∀ p, 0 ≤ p → p < 2 → J 18 p = I (F 59 3) ((I 59 0 - 1) * 34 + (32 + p))) ∧ J 16 2 = 1 - I 16 2 := by
  have hn := vok_n hv
  generalize hB : F 59 3 = B at *
  refine ⟨am_u2 (am_cp (am_cp (am_u2 I 59 0 (I 59 0 - 1)) B ((I 59 0 - 1) * 34) 17 0 32) B ((I 59 0 - 1) * 34 + 32) 18 0 2) 16 2 (1 - I 16 2), ?_, fun b q1 q2 q3 q4 => ?_, fun j q => ?_, ?_, fun p a b => ?_, fun p a b => ?_, by rw [am_u2_s]⟩
  · have e0 : am_cp (am_cp (am_u2 I 59 0 (I 59 0 - 1)) B ((I 59 0 - 1) * 34) 17 0 32) B ((I 59 0 - 1) * 34 + 32) 18 0 2 16 2 = I 16 2 := by unfold am_cp; rw [if_neg (by omega), if_neg (by omega), am_u2_a (by decide)]
    unfold X4_takeBack
    simp only [cwK_16 hc, cwF_16_0 hc, cwK_17 hc, cwF_16_1 hc, cwK_18 hc, hB, hb, am_lt, am_u2_s, e0]
    rw [if_pos (nb_in (by omega)), if_pos (nb_in (by omega)), if_pos trivial, if_pos trivial, if_pos trivial, if_pos (by decide), if_pos (by unfold vok at hv; omega), if_pos (by omega), if_pos (nb_in (by omega)), if_pos trivial, if_pos (by decide), if_pos (by omega), if_pos (nb_in (by omega))]
  · funext j; rw [am_u2_a q2]; unfold am_cp; rw [if_neg (fun w => q4 w.1), if_neg (fun w => q3 w.1), am_u2_a q1]
  · rw [am_u2_a (by decide)]; unfold am_cp; rw [if_neg (by omega), if_neg (by omega), am_u2_k q]
  · rw [am_u2_a (by decide)]; unfold am_cp; rw [if_neg (by omega), if_neg (by omega), am_u2_s]
  · rw [am_u2_a (by decide)]; unfold am_cp; rw [if_neg (by omega), if_pos (by omega), am_u2_a (by omega)]; congr 1; omega
  · rw [am_u2_a (by decide)]; unfold am_cp; rw [if_pos (by omega), if_neg (by omega), am_u2_a (by omega)]; congr 1; omega
theorem c_follow (hc : cw K F) {r : Nat} (hr : 23 ≤ r ∧ r ≤ 54) {t : Int} (hw : I 16 2 = 0 ∨ I 16 2 = 1) (hin : am_inI (I 18 (I 16 2) + t)) : ∃ J, X6_follow N K F 16 I r t = some (0, J) ∧ (∀ b, b ≠ 16 → b ≠ 17 → b ≠ 18 → J b = I b) ∧ (∀ p, 0 ≤ p → p < 32 → J 17 p = I r p) ∧ J 18 = gm_up (I 18) (I 16 2) (I 18 (I 16 2) + t) ∧ J 16 2 = 1 - I 16 2 := by
  have hk : K r = (100, 32) := cw_rowK hc r hr.1 hr.2
  have e0 : ∀ b j, b ≠ 17 → am_cp I r 0 17 0 32 b j = I b j := fun b j q => by unfold am_cp; rw [if_neg (fun w => q w.1)]
  refine ⟨am_u2 (am_u2 (am_cp I r 0 17 0 32) 18 (I 16 2) (I 18 (I 16 2) + t)) 16 2 (1 - I 16 2), ?_, fun b q1 q2 q3 => ?_, fun p a b => ?_, ?_, by rw [am_u2_s]⟩
  · unfold X6_follow
    simp only [hk, cwF_16_0 hc, cwK_17 hc, cwF_16_1 hc, cwK_18 hc, am_lt, e0 16 2 (by decide), e0 18 _ (by decide), am_u2_a (show (16 : Nat) ≠ 18 by decide)]
    rw [if_pos trivial, if_pos trivial, if_pos (by decide), if_pos (by omega), if_pos (by omega), if_pos trivial, if_pos (by omega), if_pos hin, if_pos (by decide), if_pos (nb_in (by omega))]
  · funext j; rw [am_u2_a q1, am_u2_a q3, e0 b j q2]
  · rw [am_u2_a (by decide), am_u2_a (by decide)]; unfold am_cp; rw [if_pos (by omega)]; congr 1; omega
  · funext j
    rw [am_u2_a (by decide)]
    unfold am_u2 gm_up
    by_cases g : j = I 16 2
    · rw [if_pos ⟨rfl, g⟩, if_pos g]
    · rw [if_neg (fun w => g w.2), if_neg g, e0 18 j (by decide)]
/-- what a step of the history leaves is a board again -/
theorem hst.nx (hg : gm_g R C A) {H : Int → Int} {q j : Int} (h : hst A C lk U S H q j) : gm_st A lk (fun p => H ((j + 1) * 35 + p)) ∧ gm_zb A (fun p => H ((j + 1) * 35 + p)) ∧ (H ((j + 1) * 35 + 34) = 0 ∨ H ((j + 1) * 35 + 34) = 1) ∧ 0 ≤ H ((j + 1) * 35 + 32) ∧ 0 ≤ H ((j + 1) * 35 + 33) ∧ gm_tot A (fun p => H ((j + 1) * 35 + p)) + H ((j + 1) * 35 + 32) + H ((j + 1) * 35 + 33) = S := by
  obtain ⟨m1, m2, -⟩ := gm_mv_st hg (kd := U 6) (mr := U 7) (lo := U 8) (hi := U 9) h.s h.q0 h.q1 h.ql h.qs
  have ee := h.e
  have e0 := h.es0
  have e1 := h.es1
  have ew := h.ew
  have w := h.w
  have t := h.t
  have n0 := h.n0
  have n1 := h.n1
  generalize gm_mv A C lk (U 6) (U 7) (U 8) (U 9) (fun p => H (j * 35 + p)) (H (j * 35 + 34)) q = mv at *
  have eq : gm_eq A mv.1 (fun p => H ((j + 1) * 35 + p)) := fun p a b => (ee p a b).symm
  have tt := eq.tot
  refine ⟨eq.st m1, h.ez, by omega, ?_, ?_, ?_⟩
  · rw [e0]; split <;> omega
  · rw [e1]; split <;> omega
  · rw [e0, e1, ← tt]
    rcases w with w | w
    · rw [w, if_pos rfl, if_neg (by decide)]; omega
    · rw [w, if_neg (by decide), if_pos rfl]; omega
theorem e_undo (h : rel n K F I R C A lk U S) (hN : 100 < N) : eqv (fun J => rel n K F J R C A lk U S) (X11_undo N K F 2 I) (fun J => X12_undo N K F 85 J) := by
  have hc := h.a.c
  have hm := h.a.m
  have hA := h.g.m.A
  have ha := h.h.a
  have a0 := h.h.a0
  have b0 := h.h.b0
  have b1 := h.h.b1
  have l1 := h.h.l1
  have l2 := h.h.l2
  have w1 := h.p.w1
  have w0 := h.p.w
  by_cases w : I 85 37 = 0
  · refine e_no' h 8 ?_ ?_
    · unfold X11_undo
      rw [cwF_2_5 hc, cwK_59 hc, if_pos (show ((4, 0) : Nat × Int).1 = 4 from rfl), if_pos (by omega)]; rfl
    · show X12_undo N K F 85 _ = _
      unfold X12_undo
      rw [if_pos (by rw [am_u2_a (by decide)]; exact w)]; rfl
  · have hv2 : vok (F 59 3) := (h.a.v 1 (by decide)).1
    have hn2 := vok_n hv2
    have hv1 : vok (F 59 2) := (h.a.v 0 (by decide)).1
    have hn1 := vok_n hv1
    obtain ⟨J1, e1, e2, e3, e4, e5, e6, e7⟩ := c_takeBack (N := N) (I := I) hc h.h.k2 hv2 (by omega) l1 (by omega)
    rw [ha] at e4 e5 e6
    have hst := h.h.st (I 85 37 - 1) (by omega) (by omega)
    have cu := h.h.cu (by omega)
    have bo := h.h.bo (I 85 37 - 1) (by omega) (by omega)
    have ew := hst.ew
    rw [show I 85 37 - 1 + 1 = I 85 37 by omega, cu.2.2.2] at ew
    -- the model
    generalize hJ2 : am_u2 (am_u2 (am_u2 J1 2 9 0) 85 37 (I 85 37 - 1)) 85 38 (I 85 38 + 1) = J2
    have j2 : ∀ b, b ≠ 2 → b ≠ 85 → J2 b = J1 b := fun b q1 q2 => by rw [← hJ2]; funext j; rw [am_u2_a q2, am_u2_a q2, am_u2_a q1]
    have j85 : ∀ j, j ≠ 37 → j ≠ 38 → J2 85 j = I 85 j := fun j q1 q2 => by rw [← hJ2, am_u2_k q2, am_u2_k q1, am_u2_a (by decide), e2 85 (by decide) (by decide) (by decide) (by decide)]
    have j37 : J2 85 37 = I 85 37 - 1 := by rw [← hJ2, am_u2_k (by decide), am_u2_s]
    have j38 : J2 85 38 = I 85 38 + 1 := by rw [← hJ2, am_u2_s]
    obtain ⟨J3, f1, f2, f3, f4, f5, f6, f7⟩ := m_bring (N := N) (I := J2) hm hN (k := I 85 37 - 1) (by omega)
    have r104 : J2 104 = I 104 := by rw [j2 104 (by decide) (by decide), e2 104 (by decide) (by decide) (by decide) (by decide)]
    rw [r104] at f4 f5 f6 f7
    have fin : ∀ b, b ≠ 2 ∧ b ≠ 85 ∧ b ≠ 87 ∧ b ≠ 88 → am_u2 J3 85 15 0 b = J1 b := fun b q => by funext j; rw [am_u2_a q.2.1, f2 b q.2.2.1 q.2.2.2 q.2.1, j2 b q.1 q.2.1]
    have fi : ∀ b, b ≠ 2 ∧ b ≠ 85 ∧ b ≠ 87 ∧ b ≠ 88 ∧ b ≠ 59 ∧ b ≠ 16 ∧ b ≠ 17 ∧ b ≠ 18 → am_u2 J3 85 15 0 b = I b := fun b q => by rw [fin b (by omega), e2 b (by omega) (by omega) (by omega) (by omega)]
    have f85 : ∀ j, j ≠ 5 ∧ j ≠ 15 ∧ j ≠ 37 ∧ j ≠ 38 → am_u2 J3 85 15 0 85 j = I 85 j := fun j q => by rw [am_u2_k q.2.1, f3 j q.1, j85 j q.2.2.1 q.2.2.2]
    have g5 : am_u2 J3 85 15 0 85 5 = I 104 ((I 85 37 - 1) * 35 + 34) := by rw [am_u2_k (by decide), f7]
    have g37 : am_u2 J3 85 15 0 85 37 = I 85 37 - 1 := by rw [am_u2_k (by decide), f3 37 (by decide), j37]
    have g38 : am_u2 J3 85 15 0 85 38 = I 85 38 + 1 := by rw [am_u2_k (by decide), f3 38 (by decide), j38]
    have g87 : ∀ p, 0 ≤ p → p < 32 → am_u2 J3 85 15 0 87 p = I 104 ((I 85 37 - 1) * 35 + p) := fun p a b => by rw [am_u2_a (by decide), f4 p a b]
    have g880 : am_u2 J3 85 15 0 88 0 = I 104 ((I 85 37 - 1) * 35 + 32) := by rw [am_u2_a (by decide), f5]
    have g881 : am_u2 J3 85 15 0 88 1 = I 104 ((I 85 37 - 1) * 35 + 33) := by rw [am_u2_a (by decide), f6]
    have q17 : ∀ p, 0 ≤ p → p < 32 → am_u2 J3 85 15 0 17 p = I 104 ((I 85 37 - 1) * 35 + p) := fun p a b => by rw [fin 17 (by decide), e5 p a b, bo p a (by omega)]
    have q18 : ∀ p, 0 ≤ p → p < 2 → am_u2 J3 85 15 0 18 p = I 104 ((I 85 37 - 1) * 35 + (32 + p)) := fun p a b => by rw [fin 18 (by decide), e6 p a b, bo (32 + p) (by omega) (by omega)]
    have heq : gm_eq A (fun p => I 104 ((I 85 37 - 1) * 35 + p)) (am_u2 J3 85 15 0 87) := fun p a b => (g87 p a (by omega)).symm
    refine eqv_mk (v := I 85 37 - 1) (J := am_u2 J1 2 9 0) (J' := am_u2 J3 85 15 0) ?_ ?_ ⟨h.a, h.g.kept (fun b q => fi b (by omega)) (f85 0 (by omega)) (f85 1 (by omega)), h.u.kept (fi 15 (by decide)) (fun j a b => f85 j (by omega)), ⟨?_, ?_, heq.st hst.s, ?_, ?_, ?_, ?_, ?_, h.p.B⟩, ⟨?_, ?_, by rw [g37]; omega, by rw [g38]; omega, by rw [g37, g38]; omega, h.h.k1, h.h.k2, h.h.l0, h.h.l1, by rw [g37, g38]; omega, ?_, ?_, ?_⟩, ?_, ?_, ?_⟩ ?_
    · unfold X11_undo
      rw [cwF_2_5 hc, cwK_59 hc, cwF_2_2 hc, if_pos (show ((4, 0) : Nat × Int).1 = 4 from rfl), if_neg (by omega), e1, am_cl_s, e4]; rfl
    · show X12_undo N K F 85 _ = _
      have k37 : am_u2 J1 2 9 0 85 37 = I 85 37 := by rw [am_u2_a (by decide), e2 85 (by decide) (by decide) (by decide) (by decide)]
      have k38 : am_u2 J1 2 9 0 85 38 = I 85 38 := by rw [am_u2_a (by decide), e2 85 (by decide) (by decide) (by decide) (by decide)]
      unfold X12_undo
      rw [k37, if_neg w, if_pos (nb_in (by omega))]
      unfold am_lt
      dsimp only
      rw [am_u2_k (show (38 : Int) ≠ 37 by decide), k38, if_pos (nb_in (by omega)), hJ2, j37, f1, am_cl_s, f3 37 (by decide), j37]; rfl
    · intro p a b; rw [q17 p a b, g87 p a b]
    · intro p a b; rw [g87 p (by omega) b]; exact hst.z p a b
    · rw [q18 0 (by omega) (by omega), g880]; exact ⟨rfl, hst.n0⟩
    · rw [q18 1 (by omega) (by omega), g881]; exact ⟨rfl, hst.n1⟩
    · rw [fin 16 (by decide), e7, g5]; omega
    · rw [g5]; exact hst.w
    · rw [← heq.tot, g880, g881]; exact hst.t
    · rw [fin 59 (by decide), e4, g37]
    · rw [fin 59 (by decide), e3 1 (by decide), h.h.b, g37, g38]; omega
    · rw [g37, g38, fi 104 (by decide), fi _ (by omega)]
      intro j a b
      exact h.h.st j a (by omega)
    · intro _
      rw [g37, fi 104 (by decide), g880, g881, g5]
      exact ⟨fun p a b => (g87 p a b).symm, rfl, rfl, rfl⟩
    · rw [g37, fi 104 (by decide), fi _ (by omega)]
      intro j a b
      exact h.h.bo j a (by omega)
    · exact h.l.kept (fi 79 (by decide)) (fi 80 (by decide)) (fi 105 (by decide)) ⟨f85 39 (by omega), f85 40 (by omega), f85 43 (by omega)⟩
    · exact h.v.kept (fi 83 (by decide)) (fi 84 (by decide)) (fi 107 (by decide)) (fi 108 (by decide))
    · refine h.q.kept (fi 62 (by decide)) (congrFun (fi 63 (by decide)) 3) ⟨f85 21 (by omega), f85 22 (by omega), f85 23 (by omega), f85 24 (by omega)⟩ (fun r hr => fi r ?_) (fi 93 (by decide)) (fi 94 (by decide)) (fi 95 (by decide)) (fi 96 (by decide))
      have := vok_n (h.a.ok r hr).1
      omega
    · rw [am_u2_s, am_u2_a (by decide), f2 2 (by decide) (by decide) (by decide), ← hJ2, am_u2_a (by decide), am_u2_a (by decide), am_u2_s]
end PAST
