-- CALLS: board
section BOARD
variable {N n : Nat} {K : am_K} {F : am_F} {I J : am_I} {R C A : Int} {lk U : Int → Int} {S x y z : Int}
/-- what the class's new board leaves -/
def lb (I J : am_I) (R C A : Int) : Prop :=
  (∀ lk : Int → Int, (∀ p, 0 ≤ p → p < A → lk p = 0) → cg J R C A lk ∧ gm_isL A lk (J 5)) ∧ (J 15 0 = 0 ∧ J 15 1 = 10 ∧ J 15 2 = 2 ∧ J 15 3 = 3 ∧ J 15 4 = 1 ∧ J 15 5 = 0 ∧ J 15 6 = 0) ∧ (∀ p, 0 ≤ p → p < 32 → J 17 p = 0) ∧ (J 18 0 = 0 ∧ J 18 1 = 0) ∧ J 16 2 = 0 ∧ (J 83 0 = 0 ∧ J 84 0 = 0) ∧ J 79 0 = 0 ∧ (J 59 0 = 0 ∧ J 59 1 = 0) ∧ J 62 1 = 0 ∧ J 63 3 = 0 ∧ J 2 9 = 0 ∧ (∀ b, (b < 2 ∨ 18 < b) ∧ b ≠ 59 ∧ b ≠ 62 ∧ b ≠ 63 ∧ b ≠ 79 ∧ b ≠ 83 ∧ b ≠ 84 → J b = I b)
theorem c_layBoard (hc : cw K F) (hgg : gm_g R C A) (h7 : I 7 0 = 0) (hN : 100 < N) : ∃ J, X11_layBoard N K F 2 I R C = some (0, J) ∧ lb I (am_u2 J 2 9 0) R C A ∧ J 2 9 = I 2 9 := by
  obtain ⟨J1, e1, e2, e3⟩ := c_lay' (N := N) (I := I) hc hgg h7 hN
  generalize hJ2 : am_u2 (am_u2 (am_u2 (am_u2 (am_u2 (am_u2 (am_u2 J1 15 0 0) 15 1 10) 15 2 2) 15 3 3) 15 4 1) 15 5 0) 15 6 0 = J2
  have f2 : ∀ b, b ≠ 15 → J2 b = J1 b := fun b q => by rw [← hJ2]; funext j; rw [am_u2_a q, am_u2_a q, am_u2_a q, am_u2_a q, am_u2_a q, am_u2_a q, am_u2_a q]
  have v2 : J2 15 0 = 0 ∧ J2 15 1 = 10 ∧ J2 15 2 = 2 ∧ J2 15 3 = 3 ∧ J2 15 4 = 1 ∧ J2 15 5 = 0 ∧ J2 15 6 = 0 := by rw [← hJ2]; simp [am_u2]
  generalize hJ3 : am_u2 (am_row (am_row J2 17 (gm_ld 32 (fun _ => 0) (J2 17))) 18 (gm_ld 2 (fun _ => 0) (am_row J2 17 (gm_ld 32 (fun _ => 0) (J2 17)) 18))) 16 2 0 = J3
  have f3 : ∀ b, b ≠ 16 → b ≠ 17 → b ≠ 18 → J3 b = J2 b := fun b q1 q2 q3 => by rw [← hJ3]; funext j; rw [am_u2_a q1, am_row_n q3, am_row_n q2]
  have v17 : ∀ p, 0 ≤ p → p < 32 → J3 17 p = 0 := fun p a b => by rw [← hJ3, am_u2_a (by decide), am_row_n (by decide), am_row_s]; unfold gm_ld; rw [if_pos ⟨a, b⟩]
  have v18 : ∀ p, 0 ≤ p → p < 2 → J3 18 p = 0 := fun p a b => by rw [← hJ3, am_u2_a (by decide), am_row_s]; unfold gm_ld; rw [if_pos ⟨a, b⟩]
  have v16 : J3 16 2 = 0 := by rw [← hJ3, am_u2_s]
  generalize hJ4 : am_u2 (am_u2 (am_u2 (am_u2 (am_u2 (am_u2 (am_u2 J3 83 0 0) 83 1 1) 84 0 0) 84 1 1) 79 0 0) 79 1 0) 79 2 (-1) = J4
  have f4 : ∀ b, b ≠ 79 → b ≠ 83 → b ≠ 84 → J4 b = J3 b := fun b q1 q2 q3 => by rw [← hJ4]; funext j; rw [am_u2_a q1, am_u2_a q1, am_u2_a q1, am_u2_a q3, am_u2_a q3, am_u2_a q2, am_u2_a q2]
  have v4 : J4 83 0 = 0 ∧ J4 84 0 = 0 ∧ J4 79 0 = 0 := by rw [← hJ4]; simp [am_u2]
  have f5 : ∀ b, b ≠ 59 → b ≠ 62 → b ≠ 63 → b ≠ 2 → rw1 J4 b = J4 b := fun b q1 q2 q3 q4 => by funext j; unfold rw1; rw [am_u2_a q4, am_u2_a q3, am_u2_a q2, am_u2_a q1, am_u2_a q1]
  have hlb : lb I (rw1 J4) R C A := by
    refine ⟨fun lk hlk => ?_, ?_, fun p a b => ?_, ?_, ?_, ?_, ?_, ?_, ?_, ?_, ?_, fun b q => ?_⟩
    · have k : ∀ b, 3 ≤ b → b ≤ 14 → rw1 J4 b = J1 b := fun b q1 q2 => by rw [f5 b (by omega) (by omega) (by omega) (by omega), f4 b (by omega) (by omega) (by omega), f3 b (by omega) (by omega) (by omega), f2 b (by omega)]
      obtain ⟨g1, g2⟩ := e3 lk hlk
      exact ⟨g1.kept k, by rw [k 5 (by decide) (by decide)]; exact g2⟩
    · rw [f5 15 (by decide) (by decide) (by decide) (by decide), f4 15 (by decide) (by decide) (by decide), f3 15 (by decide) (by decide) (by decide)]; exact v2
    · rw [f5 17 (by decide) (by decide) (by decide) (by decide), f4 17 (by decide) (by decide) (by decide)]; exact v17 p a b
    · rw [f5 18 (by decide) (by decide) (by decide) (by decide), f4 18 (by decide) (by decide) (by decide)]; exact ⟨v18 0 (by decide) (by decide), v18 1 (by decide) (by decide)⟩
    · rw [f5 16 (by decide) (by decide) (by decide) (by decide), f4 16 (by decide) (by decide) (by decide)]; exact v16
    · rw [f5 83 (by decide) (by decide) (by decide) (by decide), f5 84 (by decide) (by decide) (by decide) (by decide)]; exact ⟨v4.1, v4.2.1⟩
    · rw [f5 79 (by decide) (by decide) (by decide) (by decide)]; exact v4.2.2
    · simp [rw1, am_u2]
    · simp [rw1, am_u2]
    · simp [rw1, am_u2]
    · simp [rw1, am_u2]
    · rw [f5 b (by omega) (by omega) (by omega) (by omega), f4 b (by omega) (by omega) (by omega), f3 b (by omega) (by omega) (by omega), f2 b (by omega), e2 b (by omega)]
  refine ⟨am_u2 (am_u2 (am_u2 (am_u2 J4 59 0 0) 59 1 0) 62 1 0) 63 3 0, ?_, hlb, ?_⟩
  · unfold X11_layBoard
    rw [cwF_2_0 hc, cwK_3 hc, cwF_2_1 hc, cwK_15 hc, cwF_2_2 hc, cwK_16 hc, cwF_2_8 hc, cwK_82 hc, cwF_82_0 hc, cwK_83 hc, cwF_82_1 hc, cwK_84 hc, cwF_2_7 hc, cwK_79 hc, e1, am_cl_s]
    rw [if_pos (show ((1, 0) : Nat × Int).1 = 1 from rfl), if_pos (show ((8, 0) : Nat × Int).1 = 8 from rfl)]
    have t2 : X8_becomeFirst N K F 15 J1 = some (0, J2) := by rw [← hJ2]; rfl
    have t3 : X6_clear N K F 16 J2 = some (0, J3) := by
      unfold X6_clear
      rw [cwF_16_0 hc, cwF_16_1 hc, c_fillA hN (cwK_17 hc) (by omega) (by decide), am_cl_s, c_fillA hN (cwK_18 hc) (by omega) (by decide), am_cl_s, ← hJ3]; rfl
    have t4 : ∀ (J : am_I) (a : Nat), K a = (5, 0) → X5_become N K F a J 0 0 = some (0, am_u2 (am_u2 J a 0 0) a 1 1) := fun J a hk => by
      unfold X5_become X5_become_b17
      simp only [hk, am_lt]
      rw [if_pos (by decide), if_pos trivial]
    rw [t2, am_cl_s, if_pos (show ((6, 0) : Nat × Int).1 = 6 from rfl), t3, am_cl_s, if_pos (show ((104, 2) : Nat × Int).1 = 104 from rfl), if_pos (by decide), if_pos (show ((5, 0) : Nat × Int).1 = 5 from rfl), t4 _ 83 (cwK_83 hc), am_cl_s, if_pos (by decide), if_pos (show ((5, 0) : Nat × Int).1 = 5 from rfl), t4 _ 84 (cwK_84 hc), am_cl_s, if_pos (show ((2, 0) : Nat × Int).1 = 2 from rfl)]
    have t5 : X2_clear N K F 79 (am_u2 (am_u2 (am_u2 (am_u2 J3 83 0 0) 83 1 1) 84 0 0) 84 1 1) = some (0, J4) := by rw [← hJ4]; rfl
    rw [t5, am_cl_s, c_forgetR hc]
    rfl
  · show am_u2 (am_u2 (am_u2 (am_u2 J4 59 0 0) 59 1 0) 62 1 0) 63 3 0 2 9 = I 2 9
    rw [am_u2_a (by decide), am_u2_a (by decide), am_u2_a (by decide), am_u2_a (by decide), f4 2 (by decide) (by decide) (by decide), f3 2 (by decide) (by decide) (by decide), f2 2 (by decide), e2 2 (by decide)]
/-- a new board on both sides -/
theorem rel.board (h : rel n K F I R C A lk U S) (hgg : gm_g x y z) {J1 J2 : am_I} (h1 : lb I J1 x y z) (h2 : mf J1 J2 x y z) {J : am_I} (hb : ∀ b, b ≠ 2 ∧ b ≠ 85 → J b = J2 b) (h85 : ∀ j, j ≠ 15 → J 85 j = J2 85 j) : ∃ lk', rel n K F J x y z lk' (J 85) 0 := by
  have hA := hgg.A
  obtain ⟨a1, a2, a3, a4, a5, a6, a7, a8, a9, a10, a11, a12⟩ := h1
  obtain ⟨b1, b2, b3, b4, b5, b6, b7, b8⟩ := h2
  obtain ⟨c5, c6, c7, c8, c9, c10, c11, c12, c37, c38, c21, c39⟩ := b5
  have f : ∀ b, b < 85 ∧ b ≠ 2 → J b = J1 b := fun b q => by rw [hb b (by omega), b7 b (by omega)]
  have e86 : J 86 = J2 86 := hb 86 (by decide)
  have e87 : J 87 = J2 87 := hb 87 (by decide)
  have e88 : J 88 = J2 88 := hb 88 (by decide)
  have e107 : J 107 = J2 107 := hb 107 (by decide)
  have hz : ∀ p, 0 ≤ p → p < z → J 86 p = 0 := fun p u v => by rw [e86]; exact (b3 p u (by omega)).1
  obtain ⟨g1, g2⟩ := a1 (J 86) hz
  have hL : gm_L z (J 86) = z := by
    unfold gm_L
    have e : gm_sm (gm_lv (J 86)) z.toNat = gm_sm (fun _ => 1) z.toNat := gm_sm_congr (fun i u v => by unfold gm_lv; rw [if_pos (hz i u (by omega))])
    have e2 : ∀ d : Nat, gm_sm (fun _ => 1) d = (d : Int) := by
      intro d
      induction d with
      | zero => rfl
      | succ d ih => rw [gm_sm_s, ih]; omega
    rw [e, e2]; omega
  have ht : gm_tot z (J 87) = 0 := gm_sm_z (fun i u v => by rw [e87]; exact (b3 i u (by omega)).2)
  refine ⟨J 86, h.anew (J := J) ⟨b1.kept (h85 0 (by decide)) (h85 1 (by decide)), ?_, g1.kept (fun b u v => f b (by omega)), by rw [f 5 (by decide)]; exact g2, ?_, rfl, fun p u v => Or.inl (hz p u v), by rw [hL]; omega⟩ (rU.of ?_ ?_) ⟨?_, ?_, ⟨?_, ?_, ?_⟩, ?_, ?_, ?_, ?_, ?_, by omega⟩ ?_ ?_ ?_ ?_ ⟨?_, ?_, ?_⟩ ⟨?_, ?_, ?_, ?_⟩ ?_⟩
  · intro k u v; rw [hb 89 (by decide), hb 90 (by decide)]; exact b2 k u v
  · intro m k u1 u2 u3 u4; rw [f 57 (by decide), a12 57 (by decide)]; exact h.g.t m k u1 u2 u3 u4
  · unfold cr
    rw [f 15 (by decide), h85 6 (by decide), h85 7 (by decide), h85 8 (by decide), h85 9 (by decide), h85 10 (by decide), h85 11 (by decide), h85 12 (by decide)]
    omega
  · rw [h85 6 (by decide), h85 7 (by decide), h85 8 (by decide), h85 9 (by decide), h85 10 (by decide), h85 11 (by decide), h85 12 (by decide)]
    omega
  · intro p u v; rw [f 17 (by decide), e87, (b3 p u v).2]; exact a3 p u v
  · intro j u v; rw [e87]; exact (b3 j (by omega) v).2
  · intro j u v; rw [e87, (b3 j u (by omega)).2]; omega
  · intro j u v w; exact absurd (hz j u v) w
  · omega
  · rw [f 18 (by decide), e88]; omega
  · rw [f 18 (by decide), e88]; omega
  · rw [f 16 (by decide), h85 5 (by decide)]; omega
  · rw [h85 5 (by decide)]; omega
  · rw [ht, e88]; omega
  · rw [f 59 (by decide)]; exact a8
  · rw [f 62 (by decide)]; exact a9
  · rw [f 63 (by decide)]; exact a10
  · rw [h85 37 (by decide), h85 38 (by decide), h85 21 (by decide)]; omega
  · rw [f 79 (by decide), h85 39 (by decide)]; omega
  · rw [h85 39 (by decide)]; omega
  · rw [h85 39 (by decide)]; omega
  · rw [f 83 (by decide), e107]; omega
  · rw [f 84 (by decide), e107]; omega
  · rw [e107]; omega
  · rw [e107]; omega
  · have hv : vok (F 63 1) := (h.a.v 7 (by decide)).1
    have hv2 := vok_n hv
    by_cases g : F 63 1 < 85
    · rw [f _ (by omega), a12 _ (by omega)]
    · rw [hb _ (by omega), b7 _ (by omega), a12 _ (by omega)]
theorem e_board (h : rel n K F I R C A lk U S) (hN : 100 < N) : eqv (fun J => ∃ R' C' A' lk' U' S', S' ≤ 600000 ∧ (S' = S ∨ S' = 0) ∧ rel n K F J R' C' A' lk' U' S') (X11_board N K F 2 I x y) (fun J => X12_board N K F 85 J x y) := by
  have hc := h.a.c
  have hm := h.a.m
  by_cases w : (x = 2 ∨ x = 4) ∧ 1 ≤ y ∧ y ≤ 8
  · have hgg : gm_g x y (x * y) := by
      refine ⟨?_, w.2⟩
      rcases w.1 with rfl | rfl
      · exact Or.inl ⟨rfl, rfl⟩
      · exact Or.inr ⟨rfl, rfl⟩
    have hA := hgg.A
    obtain ⟨J1, e1, hJ1, -⟩ := c_layBoard (N := N) (I := I) hc hgg h.g.c.2.2.2.2.1.1 hN
    obtain ⟨J2, f1, f2⟩ := m_fresh (N := N) (I := am_u2 J1 2 9 0) hm hgg hN
    obtain ⟨lk', hr⟩ := h.board hgg hJ1 f2 (J := am_u2 J2 85 15 0) (fun b q => by funext j; rw [am_u2_a q.2]) (fun j q => by rw [am_u2_k q])
    refine eqv_mk (v := x * y) (J := am_u2 J1 2 9 0) (J' := am_u2 J2 85 15 0) ?_ ?_ ⟨x, y, x * y, lk', _, 0, by omega, Or.inr rfl, hr⟩ ?_
    · have e3 : J1 3 2 = x * y := by
        have e4 : am_u2 J1 2 9 0 3 2 = x * y := (hJ1.1 (fun _ => 0) (fun _ _ _ => rfl)).1.2.1.2.2.1
        rw [am_u2_a (by decide)] at e4; exact e4
      have hb10 : X11_board_b10 N K F 2 I x y = some (x * y, am_u2 J1 2 9 0) := by
        unfold X11_board_b10
        rw [if_pos w.2.1, if_neg (by omega), e1, am_cl_s, cwF_2_0 hc, cwK_3 hc, if_pos (show ((1, 0) : Nat × Int).1 = 1 from rfl), e3]; rfl
      unfold X11_board
      rcases w.1 with g | g
      · rw [if_pos g, hb10]
      · rw [if_neg (by omega), if_pos g, hb10]
    · show X12_board N K F 85 _ x y = _
      have hb10 : X12_board_b10 N K F 85 (am_u2 J1 2 9 0) x y = some (x * y, am_u2 J2 85 15 0) := by
        unfold X12_board_b10
        rw [m_isIn, am_cq_s, if_pos w.2, if_neg (by decide), f1, am_cl_s, m_all f2.1, am_cq_s]; rfl
      unfold X12_board
      rcases w.1 with g | g
      · rw [if_pos g, hb10]
      · rw [if_neg (by omega), if_pos g, hb10]
    · rw [am_u2_s, am_u2_a (by decide), f2.2.2.2.2.2.2.1 2 (by omega), am_u2_s]
  · refine eqv_mk (v := -1) (J := am_u2 I 2 9 7) (J' := am_u2 (am_u2 I 2 9 7) 85 15 7) ?_ ?_ ⟨R, C, A, lk, U, S, h.p.B, Or.inl rfl, (h.sc (sc.rfl.st2 7)).sc (sc.rfl.st85 7)⟩ (u29 7 0)
    · have hb10 : ¬ (1 ≤ y ∧ y ≤ 8) → X11_board_b10 N K F 2 I x y = some (-1, am_u2 I 2 9 7) := fun g => by
        unfold X11_board_b10 X11_board_b21
        by_cases g1 : 1 ≤ y
        · rw [if_pos g1, if_pos (by omega)]; rfl
        · rw [if_neg g1]; rfl
      unfold X11_board
      by_cases g1 : x = 2
      · rw [if_pos g1, hb10 (by omega)]
      · by_cases g2 : x = 4
        · rw [if_neg g1, if_pos g2, hb10 (by omega)]
        · rw [if_neg g1, if_neg g2]; rfl
    · show X12_board N K F 85 _ x y = _
      have hb10 : ¬ (1 ≤ y ∧ y ≤ 8) → X12_board_b10 N K F 85 (am_u2 I 2 9 7) x y = some (-1, am_u2 (am_u2 I 2 9 7) 85 15 7) := fun g => by
        unfold X12_board_b10 X12_board_b22
        rw [m_isIn, am_cq_s, if_neg g, if_pos rfl]; rfl
      unfold X12_board
      by_cases g1 : x = 2
      · rw [if_pos g1, hb10 (by omega)]
      · by_cases g2 : x = 4
        · rw [if_neg g1, if_pos g2, hb10 (by omega)]
        · rw [if_neg g1, if_neg g2]; rfl
end BOARD
