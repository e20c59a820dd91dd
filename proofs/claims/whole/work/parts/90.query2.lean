-- CALLS: count, find, claim, copy, player
section QUERY2
variable {N n : Nat} {K : am_K} {F : am_F} {I J J' : am_I} {R C A : Int} {lk U : Int → Int} {S x y z k p : Int}
theorem rA.ne (h : rA n K F) {i j : Nat} (hi : i < 15) (hj : j < 15) (hij : i < j) : (vrl F)[i]'hi ≠ (vrl F)[j]'hj := List.pairwise_iff_getElem.mp h.nd i j hi hj hij
theorem rel.off (h : rel n K F I R C A lk U S) (w : I 85 21 = 0) : I 62 1 = 0 := by have := h.q.b; omega
theorem rel.on1 (h : rel n K F I R C A lk U S) (w : I 85 21 ≠ 0) : I 62 1 ≠ 0 := by have := h.q.b; omega
/-- other claims -/
theorem rel.claims (h : rel n K F I R C A lk U S) (hfr : ∀ b, b ≠ 2 → b ≠ 85 → b ≠ F 62 6 → b ≠ F 62 7 → b ≠ 95 → b ≠ 96 → J b = I b) (h85 : ∀ j, j ≠ 15 → J 85 j = I 85 j)
    (hcl : I 85 21 = 1 → ∀ k, 0 ≤ k → k < gp_top A lk (I 85 22) → J (F 62 6) k = J 95 k ∧ J (F 62 7) k = J 96 k ∧ (-60 ≤ J 95 k ∧ J 95 k ≤ 60) ∧ (0 ≤ J 96 k ∧ J 96 k ≤ 1000000)) : rel n K F J R C A lk U S := by
  have v6 : vok (F 62 6) := (h.a.v 4 (by decide)).1
  have v7 : vok (F 62 7) := (h.a.v 5 (by decide)).1
  have fx : ∀ b, nvk b = true → b ≠ 2 → b ≠ 85 → b ≠ 95 → b ≠ 96 → J b = I b := fun b q a1 a2 a3 a4 => hfr b a1 a2 (v6.ne q).symm (v7.ne q).symm a3 a4
  have fv : ∀ i (hi : i < 15), i ≠ 4 → i ≠ 5 → J ((vrl F)[i]'hi) = I ((vrl F)[i]'hi) := fun i hi q1 q2 => by
    have o := (h.a.v i hi).1
    refine hfr _ (o.ne rfl) (o.ne rfl) ?_ ?_ (o.ne rfl) (o.ne rfl)
    · rcases Nat.lt_or_gt_of_ne q1 with w | w
      · exact h.a.ne hi (by decide) w
      · exact (h.a.ne (by decide) hi w).symm
    · rcases Nat.lt_or_gt_of_ne q2 with w | w
      · exact h.a.ne hi (by decide) w
      · exact (h.a.ne (by decide) hi w).symm
  have r62 := fx 62 rfl (by decide) (by decide) (by decide) (by decide)
  have r63 := fx 63 rfl (by decide) (by decide) (by decide) (by decide)
  refine ⟨h.a, h.g.kept (fun b q => fx b ?_ (by omega) (by omega) (by omega) (by omega)) (h85 0 (by decide)) (h85 1 (by decide)), h.u.kept (fx 15 rfl (by decide) (by decide) (by decide) (by decide)) (fun j a b => h85 j (by omega)), h.p.kept (fx 17 rfl (by decide) (by decide) (by decide) (by decide)) (fx 18 rfl (by decide) (by decide) (by decide) (by decide)) (congrFun (fx 16 rfl (by decide) (by decide) (by decide) (by decide)) 2) (fx 87 rfl (by decide) (by decide) (by decide) (by decide)) (fx 88 rfl (by decide) (by decide) (by decide) (by decide)) (h85 5 (by decide)), ?_, ?_, ?_, ?_⟩
  · unfold nvk; simp only [Bool.or_eq_true, decide_eq_true_eq, beq_iff_eq, Bool.and_eq_true]; omega
  · exact h.h.kept ⟨congrFun (fx 59 rfl (by decide) (by decide) (by decide) (by decide)) 0, congrFun (fx 59 rfl (by decide) (by decide) (by decide) (by decide)) 1⟩ ⟨h85 37 (by decide), h85 38 (by decide), h85 5 (by decide)⟩ (fv 0 (by decide) (by decide) (by decide)) (fv 1 (by decide) (by decide) (by decide)) (fx 104 rfl (by decide) (by decide) (by decide) (by decide)) (fx 87 rfl (by decide) (by decide) (by decide) (by decide)) (fx 88 rfl (by decide) (by decide) (by decide) (by decide))
  · exact h.l.kept (fx 79 rfl (by decide) (by decide) (by decide) (by decide)) (fx 80 rfl (by decide) (by decide) (by decide) (by decide)) (fx 105 rfl (by decide) (by decide) (by decide) (by decide)) ⟨h85 39 (by decide), h85 40 (by decide), h85 43 (by decide)⟩
  · exact h.v.kept (fx 83 rfl (by decide) (by decide) (by decide) (by decide)) (fx 84 rfl (by decide) (by decide) (by decide) (by decide)) (fx 107 rfl (by decide) (by decide) (by decide) (by decide)) (fx 108 rfl (by decide) (by decide) (by decide) (by decide))
  · have y1 := h85 21 (by decide)
    have y2 := h85 22 (by decide)
    have y3 := h85 23 (by decide)
    have y4 := h85 24 (by decide)
    have e4 : J (F 62 4) = I (F 62 4) := fv 2 (by decide) (by decide) (by decide)
    have e5 : J (F 62 5) = I (F 62 5) := fv 3 (by decide) (by decide) (by decide)
    have e93 := fx 93 rfl (by decide) (by decide) (by decide) (by decide)
    have e94 := fx 94 rfl (by decide) (by decide) (by decide) (by decide)
    refine ⟨by rw [r62, y1]; exact h.q.b, by rw [y1]; exact h.q.b1, fun w => ?_, by rw [r63]; exact h.q.g0, by rw [r63]; exact h.q.g1, by rw [r63]; exact h.q.g.kept (fv 6 (by decide) (by decide) (by decide)) (fv 7 (by decide) (by decide) (by decide)) (fv 8 (by decide) (by decide) (by decide)), by rw [y1, y3, r63]; exact h.q.gs, by rw [r63]; exact h.q.ge⟩
    rw [y1] at w
    have q := h.q.on w
    exact ⟨by rw [y2]; exact q.m, by rw [r62, y2]; exact q.l8, by rw [r62, y3]; exact q.l9, by rw [y2, y3]; exact q.y, by rw [r62, y2]; exact q.p, by rw [r62, y3]; exact q.s, by rw [y3, y4]; exact q.s2, by rw [y2]; exact q.rV, by rw [y2]; exact q.rE, by rw [y2]; exact q.ws, by rw [y3, e4, e5, e93, e94]; exact q.v, by rw [y3, e93, e94]; exact q.be, by rw [y2]; exact hcl w⟩
theorem e_count (h : rel n K F I R C A lk U S) (hN : 2000000 < N) : eqv (fun J => rel n K F J R C A lk U S) (X11_count N K F 2 I x) (fun J => X12_count N K F 85 J x) := by
  have hc := h.a.c
  have hm := h.a.m
  by_cases w : I 85 21 = 0
  · refine e_no' h 9 ?_ ?_
    · unfold X11_count
      rw [cwF_2_6 hc, cwK_62 hc, if_pos (show ((9, 0) : Nat × Int).1 = 9 from rfl), if_pos (h.off w), c_ref, am_cl_s]
    · show X12_count N K F 85 _ x = _
      unfold X12_count
      rw [am_u2_a (by decide), if_pos w, m_noo, am_cl_s]
  · have q := h.on w
    have v := h.V q
    have nn := gp_top_nn (A := A) (lk := lk) (I 85 23 - 1)
    have cc : X9_countOf N K F I 62 x = some (gm_sm (fun j => if I 93 j = x then 1 else 0) (gp_top A lk (I 85 23 - 1)).toNat) := by
      unfold X9_countOf
      refine am_acc (fun f s j => X9_countOf_h4 N K F I 62 f x s j) (gp_top A lk (I 85 23 - 1)) (fun j => if I 93 j = x then 1 else 0) 1 some nn (fun j a b => by split <;> omega) ?_ ?_ N (by omega)
      · intro f s j j0 j1 s0 s1
        show X9_countOf_s4 N K F I 62 (X9_countOf_h4 N K F I 62 f) x s j = X9_countOf_h4 N K F I 62 f _ _ _
        generalize X9_countOf_h4 N K F I 62 f = kk
        unfold X9_countOf_s4 X9_countOf_b25 am_lt
        dsimp only
        rw [q.s, if_pos j1, if_pos h.a.v1, if_pos (by omega), (q.v j j0 j1).1]
        by_cases e : I 93 j = x
        · rw [if_pos e, if_pos e, if_pos (nb_in (by omega)), if_pos (nb_in (by omega))]
        · rw [if_neg e, if_neg e, if_pos (nb_in (by omega)), Int.add_zero]
      · intro f s s0 s1
        show X9_countOf_s4 N K F I 62 _ x s _ = _
        unfold X9_countOf_s4
        rw [q.s, if_neg (by omega)]
    have mm : X12_count_h18 N K F 85 N (am_u2 I 2 9 0) x 0 0 = some (gm_sm (fun j => if I 93 j = x then 1 else 0) (gp_top A lk (I 85 23 - 1)).toNat, am_u2 (am_u2 I 2 9 0) 85 15 0) := by
      refine am_acc (fun f s j => X12_count_h18 N K F 85 f (am_u2 I 2 9 0) x s j) (gp_top A lk (I 85 23 - 1)) (fun j => if I 93 j = x then 1 else 0) 1 (fun s => some (s, am_u2 (am_u2 I 2 9 0) 85 15 0)) nn (fun j a b => by split <;> omega) ?_ ?_ N (by omega)
      · intro f s j j0 j1 s0 s1
        show X12_count_s18 N K F 85 (X12_count_h18 N K F 85 f) (am_u2 I 2 9 0) x s j = X12_count_h18 N K F 85 f _ _ _ _
        generalize X12_count_h18 N K F 85 f = kk
        unfold X12_count_s18 X12_count_b42 am_lt
        dsimp only
        rw [am_u2_a (show (85 : Nat) ≠ 2 by decide), q.s2, if_pos j1, mwF_85_25 hm, mwK_93 hm, if_pos (show ((100, 40000) : Nat × Int).1 = 100 from rfl), if_pos (show 0 ≤ j ∧ j < 40000 by omega), am_u2_a (show (93 : Nat) ≠ 2 by decide)]
        by_cases e : I 93 j = x
        · rw [if_pos e, if_pos e, if_pos (nb_in (by omega)), if_pos (nb_in (by omega))]
        · rw [if_neg e, if_neg e, if_pos (nb_in (by omega)), if_pos (nb_in (by omega))]
      · intro f s s0 s1
        show X12_count_s18 N K F 85 _ (am_u2 I 2 9 0) x s _ = _
        unfold X12_count_s18
        rw [am_u2_a (show (85 : Nat) ≠ 2 by decide), q.s2, if_neg (by omega), m_okk, am_cl_s]
    refine e_ok h (gm_sm (fun j => if I 93 j = x then 1 else 0) (gp_top A lk (I 85 23 - 1)).toNat) sc.rfl (am_u2_s _ _ _ _) ?_ ?_
    · unfold X11_count
      rw [cwF_2_6 hc, cwK_62 hc, if_pos (show ((9, 0) : Nat × Int).1 = 9 from rfl), if_neg (h.on1 w), cc, am_cq_s, c_acc, am_cl_s]
    · show X12_count N K F 85 _ x = _
      unfold X12_count
      rw [am_u2_a (by decide), if_neg w, mm]
theorem e_find (h : rel n K F I R C A lk U S) (hN : 2000000 < N) (hx : x ≤ 2147483647) : eqv (fun J => rel n K F J R C A lk U S) (X11_find N K F 2 I x y) (fun J => X12_find N K F 85 J x y) := by
  have hc := h.a.c
  have hm := h.a.m
  by_cases w : I 85 21 = 0
  · refine e_no' h 9 ?_ ?_
    · unfold X11_find
      rw [cwF_2_6 hc, cwK_62 hc, if_pos (show ((9, 0) : Nat × Int).1 = 9 from rfl), if_pos (h.off w), c_ref, am_cl_s]
    · show X12_find N K F 85 _ x y = _
      unfold X12_find
      rw [am_u2_a (by decide), if_pos w, m_noo, am_cl_s]
  · have q := h.on w
    have v := h.V q
    by_cases x0 : x < 0
    · refine e_no' h 3 ?_ ?_
      · unfold X11_find X11_find_b34
        rw [cwF_2_6 hc, cwK_62 hc, if_pos (show ((9, 0) : Nat × Int).1 = 9 from rfl), if_neg (h.on1 w), if_pos x0, if_pos (by decide), c_ref, am_cl_s]
      · show X12_find N K F 85 _ x y = _
        unfold X12_find
        rw [am_u2_a (by decide), if_neg w, if_pos x0, m_noo, am_cl_s]
    · have cc : ∀ (d f : Nat) (j : Int), (gp_top A lk (I 85 23 - 1) - j).toNat = d → d < f → 0 ≤ j → X9_firstFrom_h2 N K F I 62 f y j = some (gs_f (fun j => decide (I 93 j = y)) d j) := by
        intro d
        induction d with
        | zero =>
          intro f j hd hf j0
          obtain ⟨f, rfl⟩ : ∃ g, f = g + 1 := ⟨f - 1, by omega⟩
          show X9_firstFrom_s2 N K F I 62 (X9_firstFrom_h2 N K F I 62 f) y j = _
          unfold X9_firstFrom_s2
          rw [q.s, if_neg (by omega)]; rfl
        | succ d ih =>
          intro f j hd hf j0
          obtain ⟨f, rfl⟩ : ∃ g, f = g + 1 := ⟨f - 1, by omega⟩
          show X9_firstFrom_s2 N K F I 62 (X9_firstFrom_h2 N K F I 62 f) y j = _
          unfold X9_firstFrom_s2
          rw [q.s, if_pos (by omega), if_pos h.a.v1, if_pos (by omega), (q.v j j0 (by omega)).1]
          by_cases e : I 93 j = y
          · rw [if_pos e]; unfold gs_f; rw [decide_eq_true e, if_pos rfl]
          · rw [if_neg e, if_pos (nb_in (by omega))]
            unfold gs_f
            rw [decide_eq_false e, if_neg (by decide)]
            exact ih f (j + 1) (by omega) (by omega) (by omega)
      have mm : ∀ (u : Int) (d f : Nat) (j : Int), (gp_top A lk (I 85 23 - 1) - j).toNat = d → d < f → 0 ≤ j → X12_find_h26 N K F 85 f (am_u2 I 2 9 u) y j = if gs_f (fun j => decide (I 93 j = y)) d j < 0 then some (-1, am_u2 (am_u2 I 2 9 u) 85 15 3) else some (gs_f (fun j => decide (I 93 j = y)) d j, am_u2 (am_u2 I 2 9 u) 85 15 0) := by
        intro u d
        induction d with
        | zero =>
          intro f j hd hf j0
          obtain ⟨f, rfl⟩ : ∃ g, f = g + 1 := ⟨f - 1, by omega⟩
          show X12_find_s26 N K F 85 (X12_find_h26 N K F 85 f) (am_u2 I 2 9 u) y j = _
          unfold X12_find_s26 gs_f
          rw [am_u2_a (show (85 : Nat) ≠ 2 by decide), q.s2, if_neg (by omega), if_pos (by decide), m_noo, am_cl_s]
        | succ d ih =>
          intro f j hd hf j0
          obtain ⟨f, rfl⟩ : ∃ g, f = g + 1 := ⟨f - 1, by omega⟩
          show X12_find_s26 N K F 85 (X12_find_h26 N K F 85 f) (am_u2 I 2 9 u) y j = _
          unfold X12_find_s26
          rw [am_u2_a (show (85 : Nat) ≠ 2 by decide), q.s2, if_pos (by omega), mwF_85_25 hm, mwK_93 hm, if_pos (show ((100, 40000) : Nat × Int).1 = 100 from rfl), if_pos (show 0 ≤ j ∧ j < 40000 by omega), am_u2_a (show (93 : Nat) ≠ 2 by decide)]
          by_cases e : I 93 j = y
          · rw [if_pos e]
            unfold gs_f
            rw [decide_eq_true e, if_pos rfl, if_neg (by omega), m_okk, am_cl_s]
          · rw [if_neg e, if_pos (nb_in (by omega))]
            unfold gs_f
            rw [decide_eq_false e, if_neg (show ¬ (false = true) by decide)]
            exact ih f (j + 1) (by omega) (by omega) (by omega)
      have cx := cc _ N x rfl (by omega) (by omega)
      have e0 : X11_find N K F 2 I x y = X11_find_b34 N K F 2 I (gs_f (fun j => decide (I 93 j = y)) (gp_top A lk (I 85 23 - 1) - x).toNat x) := by
        unfold X11_find X9_firstFrom
        rw [cwF_2_6 hc, cwK_62 hc, if_pos (show ((9, 0) : Nat × Int).1 = 9 from rfl), if_neg (h.on1 w), if_neg x0, cx, am_cq_s]
      have m0 : ∀ u, X12_find N K F 85 (am_u2 I 2 9 u) x y = if gs_f (fun j => decide (I 93 j = y)) (gp_top A lk (I 85 23 - 1) - x).toNat x < 0 then some (-1, am_u2 (am_u2 I 2 9 u) 85 15 3) else some (gs_f (fun j => decide (I 93 j = y)) (gp_top A lk (I 85 23 - 1) - x).toNat x, am_u2 (am_u2 I 2 9 u) 85 15 0) := by
        intro u
        unfold X12_find
        rw [am_u2_a (by decide), if_neg w, if_neg x0]
        exact mm u _ N x rfl (by omega) (by omega)
      generalize gs_f (fun j => decide (I 93 j = y)) (gp_top A lk (I 85 23 - 1) - x).toNat x = m at *
      unfold X11_find_b34 at e0
      by_cases g : m < 0
      · rw [if_pos g, c_ref, am_cl_s] at e0
        refine e_no' h 3 e0 ?_
        show X12_find N K F 85 _ x y = _
        rw [m0, if_pos g]
      · rw [if_neg g, c_acc, am_cl_s] at e0
        refine e_ok h _ sc.rfl (am_u2_s _ _ _ _) e0 ?_
        show X12_find N K F 85 _ x y = _
        rw [m0, if_neg g]
theorem m_isPl (h : rel n K F I R C A lk U S) (hN : 100 < N) (q : rQ1 K F I A C lk U) : am_cq (X12_placesTo N K F I 85 (I 85 22)) (fun v_1 => X12_isIn N K F I x 0 (am_wL (v_1 - 1))) = some (if 0 ≤ x ∧ x < gp_top A lk (I 85 22) then 1 else 0) := by
  have v := h.V q
  have m := q.m
  have ew : am_wL (2 * gW (gm_L A lk + 1) (I 85 22) - 1) = gp_top A lk (I 85 22) - 1 := by
    rw [nb_wL (by unfold gp_top at v; omega)]; rfl
  rw [h.pos hN (by omega), am_cq_s, ew, m_isIn]
  by_cases q2 : 0 ≤ x ∧ x < gp_top A lk (I 85 22)
  · rw [if_pos q2, if_pos (by omega)]
  · rw [if_neg q2, if_neg (by omega)]
theorem e_claim (h : rel n K F I R C A lk U S) (hN : 100 < N) : eqv (fun J => rel n K F J R C A lk U S) (X11_claim N K F 2 I x y z) (fun J => X12_claim N K F 85 J x y z) := by
  have hc := h.a.c
  have hm := h.a.m
  by_cases w : I 85 21 = 0
  · refine e_no' h 9 ?_ ?_
    · unfold X11_claim
      rw [cwF_2_6 hc, cwK_62 hc, if_pos (show ((9, 0) : Nat × Int).1 = 9 from rfl), if_pos (h.off w), c_ref, am_cl_s]
    · show X12_claim N K F 85 _ x y z = _
      unfold X12_claim
      rw [am_u2_a (by decide), if_pos w, m_noo, am_cl_s]
  · have q := h.on w
    have v := h.V q
    have hm0 := q.m
    have chas : X9_has N K F I 62 x = some (if 0 ≤ x ∧ x < gp_top A lk (I 85 22) then 1 else 0) := by
      unfold X9_has X9_has_b16 X9_has_b17
      rw [q.p]
      by_cases q2 : 0 ≤ x
      · by_cases q3 : x < gp_top A lk (I 85 22)
        · rw [if_pos q2, if_pos q3, if_pos (Or.inr rfl), if_pos (show 0 ≤ x ∧ x < gp_top A lk (I 85 22) from ⟨q2, q3⟩)]
        · rw [if_pos q2, if_neg q3, if_pos (Or.inl rfl), if_neg (show ¬ (0 ≤ x ∧ x < gp_top A lk (I 85 22)) from fun w => q3 w.2)]
      · rw [if_neg q2, if_pos (Or.inl rfl), if_neg (show ¬ (0 ≤ x ∧ x < gp_top A lk (I 85 22)) from fun w => q2 w.1)]
    have mpl : ∀ u, X12_placesTo N K F (am_u2 I 2 9 u) 85 (am_u2 I 2 9 u 85 22) = some (gp_top A lk (I 85 22)) := fun u => by
      have h1 : rel n K F (am_u2 I 2 9 u) R C A lk U S := h.sc (sc.rfl.st2 u)
      rw [am_u2_a (by decide), h1.pos hN (by omega)]; rfl
    have ew : am_wL (gp_top A lk (I 85 22) - 1) = gp_top A lk (I 85 22) - 1 := nb_wL (by omega)
    by_cases hx : 0 ≤ x ∧ x < gp_top A lk (I 85 22)
    · by_cases hv : (-60 ≤ y ∧ y ≤ 60) ∧ (0 ≤ z ∧ z ≤ 100000)
      · have v6 : vok (F 62 6) := (h.a.v 4 (by decide)).1
        have v7 : vok (F 62 7) := (h.a.v 5 (by decide)).1
        have ne : F 62 6 ≠ F 62 7 := h.a.ne (i := 4) (j := 5) (by decide) (by decide) (by decide)
        generalize hJ1 : am_u2 (am_u2 I (F 62 6) x y) (F 62 7) x z = J1
        have hx1 : X11_claim N K F 2 I x y z = some (x, am_u2 J1 2 9 0) := by
          unfold X11_claim
          rw [cwF_2_6 hc, cwK_62 hc, if_pos (show ((9, 0) : Nat × Int).1 = 9 from rfl), if_neg (h.on1 w), chas, if_pos hx, am_cq_s, if_neg (by decide), if_pos hv.1.1, if_pos hv.1.2, if_pos hv.2.1, if_neg (by omega), h.a.v3, h.a.v4, if_pos (show ((100, (K (F 62 4)).2) : Nat × Int).1 = 100 from rfl), if_pos (v6.ne rfl), if_pos (show 0 ≤ x ∧ x < (K (F 62 4)).2 by omega)]
          unfold am_lt
          dsimp only
          rw [if_pos (show ((100, (K (F 62 4)).2) : Nat × Int).1 = 100 from rfl), if_pos (v7.ne rfl), if_pos (show 0 ≤ x ∧ x < (K (F 62 4)).2 by omega), hJ1, c_acc, am_cl_s]
        generalize hJ2 : am_u2 (am_u2 (am_u2 J1 2 9 0) 95 x y) 96 x z = J2
        have j1 : ∀ b, b ≠ F 62 6 → b ≠ F 62 7 → J1 b = I b := fun b a1 a2 => by rw [← hJ1]; funext j; rw [am_u2_a a2, am_u2_a a1]
        have j2 : ∀ b, b ≠ 2 → b ≠ 95 → b ≠ 96 → J2 b = J1 b := fun b a1 a2 a3 => by rw [← hJ2]; funext j; rw [am_u2_a a3, am_u2_a a2, am_u2_a a1]
        have j85 : am_u2 J1 2 9 0 85 = I 85 := by funext j; rw [am_u2_a (by decide), j1 85 (v6.ne rfl).symm (v7.ne rfl).symm]
        have hG : mg (am_u2 J1 2 9 0) R C A := h.g.m.kept (congrFun j85 0) (congrFun j85 1)
        have j86 : am_u2 J1 2 9 0 86 = lk := by
          have : am_u2 J1 2 9 0 86 = J1 86 := funext fun j => am_u2_a (by decide)
          rw [this, j1 86 (v6.ne rfl).symm (v7.ne rfl).symm, h.g.k]
        have hp : X12_placesTo N K F (am_u2 J1 2 9 0) 85 (I 85 22) = some (gp_top A lk (I 85 22)) := by
          rw [m_placesTo hm hG hN (by omega), j86]; rfl
        have hx2 : X12_claim N K F 85 (am_u2 J1 2 9 0) x y z = some (x, am_u2 J2 85 15 0) := by
          unfold X12_claim
          rw [j85, if_neg w, hp, am_cq_s, ew, m_isIn, am_cq_s, if_pos (show 0 ≤ x ∧ x ≤ gp_top A lk (I 85 22) - 1 by omega), if_neg (by decide), m_isIn, am_cq_s, if_pos hv.1, if_neg (by decide), m_isIn, am_cq_s, if_pos hv.2, if_neg (by decide), mwF_85_27 hm, mwK_95 hm, mwF_85_28 hm, mwK_96 hm, if_pos (show ((100, 40000) : Nat × Int).1 = 100 from rfl), if_pos (by decide), if_pos (show 0 ≤ x ∧ x < 40000 by omega)]
          unfold am_lt
          dsimp only
          rw [if_pos (show ((100, 40000) : Nat × Int).1 = 100 from rfl), if_pos (by decide), if_pos (show 0 ≤ x ∧ x < 40000 by omega), hJ2, m_okk, am_cl_s]
        refine eqv_mk hx1 hx2 (h.claims (fun b b1 b2 b3 b4 b5 b6 => ?_) (fun j qj => ?_) (fun _ k k0 k1 => ?_)) ?_
        · have : am_u2 J2 85 15 0 b = J2 b := funext fun j => am_u2_a b2
          rw [this, j2 b b1 b5 b6, j1 b b3 b4]
        · rw [am_u2_k qj, j2 85 (by decide) (by decide) (by decide), j1 85 (v6.ne rfl).symm (v7.ne rfl).symm]
        · have c := q.cl k k0 k1
          have a6 : am_u2 J2 85 15 0 (F 62 6) k = if k = x then y else I (F 62 6) k := by
            rw [am_u2_a (v6.ne rfl), j2 _ (v6.ne rfl) (v6.ne rfl) (v6.ne rfl), ← hJ1, am_u2_a ne]
            unfold am_u2
            by_cases e : k = x
            · rw [if_pos ⟨rfl, e⟩, if_pos e]
            · rw [if_neg (fun g => e g.2), if_neg e]
          have a7 : am_u2 J2 85 15 0 (F 62 7) k = if k = x then z else I (F 62 7) k := by
            rw [am_u2_a (v7.ne rfl), j2 _ (v7.ne rfl) (v7.ne rfl) (v7.ne rfl), ← hJ1]
            unfold am_u2
            by_cases e : k = x
            · rw [if_pos ⟨rfl, e⟩, if_pos e]
            · rw [if_neg (fun g => e g.2), if_neg e, if_neg (fun g => e g.2)]
          have b5 : am_u2 J2 85 15 0 95 k = if k = x then y else I 95 k := by
            rw [am_u2_a (by decide), ← hJ2, am_u2_a (by decide)]
            unfold am_u2
            by_cases e : k = x
            · rw [if_pos ⟨rfl, e⟩, if_pos e]
            · rw [if_neg (fun g => e g.2), if_neg e, if_neg (by omega), j1 95 (v6.ne rfl).symm (v7.ne rfl).symm]
          have b6 : am_u2 J2 85 15 0 96 k = if k = x then z else I 96 k := by
            rw [am_u2_a (by decide), ← hJ2]
            unfold am_u2
            by_cases e : k = x
            · rw [if_pos ⟨rfl, e⟩, if_pos e]
            · rw [if_neg (fun g => e g.2), if_neg e, if_neg (by omega), if_neg (by omega), j1 96 (v6.ne rfl).symm (v7.ne rfl).symm]
          rw [a6, a7, b5, b6]
          by_cases e : k = x
          · rw [if_pos e, if_pos e, if_pos e, if_pos e]; exact ⟨rfl, rfl, hv.1, by omega⟩
          · rw [if_neg e, if_neg e, if_neg e, if_neg e]; exact c
        · rw [am_u2_s, am_u2_a (by decide), ← hJ2, am_u2_a (by decide), am_u2_a (by decide), am_u2_s]
      · refine e_no' h 7 ?_ ?_
        · unfold X11_claim X11_claim_b57
          rw [cwF_2_6 hc, cwK_62 hc, if_pos (show ((9, 0) : Nat × Int).1 = 9 from rfl), if_neg (h.on1 w), chas, if_pos hx, am_cq_s, if_neg (by decide)]
          by_cases g1 : -60 ≤ y
          · rw [if_pos g1]
            by_cases g2 : y ≤ 60
            · rw [if_pos g2]
              by_cases g3 : 0 ≤ z
              · rw [if_pos g3, if_pos (by omega), c_ref, am_cl_s]
              · rw [if_neg g3, c_ref, am_cl_s]
            · rw [if_neg g2, c_ref, am_cl_s]
          · rw [if_neg g1, c_ref, am_cl_s]
        · show X12_claim N K F 85 _ x y z = _
          unfold X12_claim X12_claim_b65
          rw [mpl, am_u2_a (show (85 : Nat) ≠ 2 by decide), if_neg w, am_cq_s, ew, m_isIn, am_cq_s, if_pos (show 0 ≤ x ∧ x ≤ gp_top A lk (I 85 22) - 1 by omega), if_neg (by decide), m_isIn, am_cq_s]
          by_cases g1 : -60 ≤ y ∧ y ≤ 60
          · rw [if_pos g1, if_neg (by decide), m_isIn, am_cq_s, if_neg (show ¬ (0 ≤ z ∧ z ≤ 100000) from fun g => hv ⟨g1, g⟩), if_pos rfl, m_noo, am_cl_s]
          · rw [if_neg g1, if_pos rfl, m_noo, am_cl_s]
    · refine e_no' h 3 ?_ ?_
      · unfold X11_claim
        rw [cwF_2_6 hc, cwK_62 hc, if_pos (show ((9, 0) : Nat × Int).1 = 9 from rfl), if_neg (h.on1 w), chas, if_neg hx, am_cq_s, if_pos rfl, c_ref, am_cl_s]
      · show X12_claim N K F 85 _ x y z = _
        unfold X12_claim
        rw [mpl, am_u2_a (show (85 : Nat) ≠ 2 by decide), if_neg w, am_cq_s, ew, m_isIn, am_cq_s, if_neg (show ¬ (0 ≤ x ∧ x ≤ gp_top A lk (I 85 22) - 1) by omega), if_pos rfl, m_noo, am_cl_s]
end QUERY2
