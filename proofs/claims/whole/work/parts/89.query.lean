-- CALLS: value, rank, best, reaches, lineAt, ring, player
def gm_pw (I : am_I) (A : Int) (lk : Int → Int) (x : Int) : Int := if I 85 21 = 0 then 9 else if 0 ≤ x ∧ x < gp_top A lk (I 85 22) then (if x < gp_top A lk (I 85 23 - 1) then 0 else 9) else 3
section QUERY
variable {N n : Nat} {K : am_K} {F : am_F} {I J J' : am_I} {R C A : Int} {lk U : Int → Int} {S x y z k p : Int}
theorem gm_pw_v : gm_pw I A lk x = 0 ∨ gm_pw I A lk x = 9 ∨ gm_pw I A lk x = 3 := by
  unfold gm_pw; split
  · simp
  · split
    · split <;> simp
    · simp
/-- while solving is on -/
theorem rel.on (h : rel n K F I R C A lk U S) (w : I 85 21 ≠ 0) : rQ1 K F I A C lk U := h.q.on (by have := h.q.b1; omega)
theorem rQ1.tops (h : rQ1 K F I A C lk U) (hL : 0 ≤ gm_L A lk) : gp_top A lk (I 85 23 - 1) ≤ gp_top A lk (I 85 22) := gp_top_mono hL (by have := h.y; omega)
theorem gm_pw_0 (h : gm_pw I A lk x = 0) : I 85 21 ≠ 0 ∧ 0 ≤ x ∧ x < gp_top A lk (I 85 22) ∧ x < gp_top A lk (I 85 23 - 1) := by
  unfold gm_pw at h
  by_cases q1 : I 85 21 = 0
  · rw [if_pos q1] at h; omega
  · rw [if_neg q1] at h
    by_cases q2 : 0 ≤ x ∧ x < gp_top A lk (I 85 22)
    · rw [if_pos q2] at h
      by_cases q3 : x < gp_top A lk (I 85 23 - 1)
      · exact ⟨q1, q2.1, q2.2, q3⟩
      · rw [if_neg q3] at h; omega
    · rw [if_neg q2] at h; omega
theorem c_pw (h : rel n K F I R C A lk U S) : X9_whyNotSolved N K F I 62 x = some (gm_pw I A lk x) := by
  have b := h.q.b
  unfold X9_whyNotSolved X9_whyNotSolved_b34 X9_has X9_has_b16 X9_has_b17 gm_pw
  by_cases q1 : I 85 21 = 0
  · rw [if_pos (by omega), if_pos q1]
  · have q := h.on q1
    rw [if_neg (by omega), if_neg q1, q.p, q.s]
    by_cases q2 : 0 ≤ x
    · by_cases q3 : x < gp_top A lk (I 85 22)
      · rw [if_pos q2, if_pos q3, if_pos (Or.inr rfl), am_cq_s, if_neg (by decide), if_pos (show 0 ≤ x ∧ x < gp_top A lk (I 85 22) from ⟨q2, q3⟩)]
        by_cases q4 : x < gp_top A lk (I 85 23 - 1)
        · rw [if_pos q4, if_pos q4]
        · rw [if_neg q4, if_neg q4]
      · rw [if_pos q2, if_neg q3, if_pos (Or.inl rfl), am_cq_s, if_pos rfl, if_neg (fun w => q3 w.2)]
    · rw [if_neg q2, if_pos (Or.inl rfl), am_cq_s, if_pos rfl, if_neg (fun w => q2 w.1)]
theorem rel.V (h : rel n K F I R C A lk U S) (q : rQ1 K F I A C lk U) : gp_top A lk (I 85 23 - 1) ≤ gp_top A lk (I 85 22) ∧ gp_top A lk (I 85 22) ≤ (K (F 62 4)).2 ∧ (K (F 62 4)).2 ≤ 40000 ∧ 2 ≤ gp_top A lk (I 85 22) := by
  have hL := h.g.n
  have y := q.m
  exact ⟨q.tops (by omega), q.rV, h.a.V1, gp_top_pos (by omega) y.1⟩
theorem m_pw (h : rel n K F I R C A lk U S) (hN : 100 < N) : X12_placeWhy N K F I 85 x = some (gm_pw I A lk x) := by
  unfold X12_placeWhy X12_placeWhy_b49 gm_pw
  by_cases q1 : I 85 21 = 0
  · rw [if_pos q1, if_pos q1]
  · have q := h.on q1
    have v := h.V q
    have m := q.m
    rw [if_neg q1, if_neg q1, h.pos hN (by omega), am_cq_s, q.s2]
    have ew : am_wL (2 * gW (gm_L A lk + 1) (I 85 22) - 1) = gp_top A lk (I 85 22) - 1 := by
      rw [nb_wL (by unfold gp_top at v; omega)]; rfl
    rw [ew, m_isIn, am_cq_s]
    by_cases q2 : 0 ≤ x ∧ x < gp_top A lk (I 85 22)
    · rw [if_pos (show 0 ≤ x ∧ x ≤ gp_top A lk (I 85 22) - 1 by omega), if_neg (by decide), if_pos q2]
      by_cases q3 : x < gp_top A lk (I 85 23 - 1)
      · rw [if_neg (by omega), if_pos q3]
      · rw [if_pos (by omega), if_neg q3]
    · rw [if_neg (show ¬ (0 ≤ x ∧ x ≤ gp_top A lk (I 85 22) - 1) by omega), if_pos rfl, if_neg q2]
theorem gm_pw_u (w : Int) : gm_pw (am_u2 I 2 9 w) A lk x = gm_pw I A lk x := by
  unfold gm_pw; rw [am_u2_a (by decide), am_u2_a (by decide), am_u2_a (by decide)]
/-- answered by both -/
theorem e_ok (h : rel n K F I R C A lk U S) (v : Int) {J3 : am_I} (h3 : sc (am_u2 I 2 9 0) J3) (h29 : J3 2 9 = 0) {X : Option (Int × am_I)} {Y : am_I → Option (Int × am_I)} (hx : X = some (v, am_u2 I 2 9 0)) (hy : Y (am_u2 I 2 9 0) = some (v, am_u2 J3 85 15 0)) : eqv (fun J => rel n K F J R C A lk U S) X Y :=
  eqv_mk hx hy (h.sc (((sc.rfl.st2 0).trans h3).st85 0)) (by rw [am_u2_s, am_u2_a (by decide), h29])
theorem e_no3 (h : rel n K F I R C A lk U S) (v : Int) {J3 : am_I} (h3 : sc (am_u2 I 2 9 v) J3) (h29 : J3 2 9 = v) {X : Option (Int × am_I)} {Y : am_I → Option (Int × am_I)} (hx : X = some (-1, am_u2 I 2 9 v)) (hy : Y (am_u2 I 2 9 v) = some (-1, am_u2 J3 85 15 v)) : eqv (fun J => rel n K F J R C A lk U S) X Y :=
  eqv_mk hx hy (h.sc (((sc.rfl.st2 v).trans h3).st85 v)) (by rw [am_u2_s, am_u2_a (by decide), h29])
theorem e_value (h : rel n K F I R C A lk U S) (hN : 100 < N) : eqv (fun J => rel n K F J R C A lk U S) (X11_value N K F 2 I x) (fun J => X12_value N K F 85 J x) := by
  have hc := h.a.c
  have hm := h.a.m
  have wv := gm_pw_v (I := I) (A := A) (lk := lk) (x := x)
  by_cases w : gm_pw I A lk x = 0
  · obtain ⟨o1, o2, o3, o4⟩ := gm_pw_0 w
    have q := h.on o1
    have v := h.V q
    have e := q.v x o2 o4
    have h1 : rel n K F (am_u2 I 2 9 0) R C A lk U S := h.sc (sc.rfl.st2 0)
    refine e_ok h (I 93 x) sc.rfl (am_u2_s _ _ _ _) ?_ ?_
    · unfold X11_value
      rw [cwF_2_6 hc, cwK_62 hc, if_pos (show ((9, 0) : Nat × Int).1 = 9 from rfl), c_pw h, w, am_cq_s, if_pos rfl, if_pos h.a.v1, if_pos (by omega), e.1, c_acc, am_cl_s]
    · show X12_value N K F 85 _ x = _
      unfold X12_value X12_value_b28
      rw [m_pw h1 hN, gm_pw_u, w, am_cq_s, if_neg (by decide), mwF_85_25 hm, mwK_93 hm, if_pos (show ((100, 40000) : Nat × Int).1 = 100 from rfl), if_pos (show 0 ≤ x ∧ x < 40000 by omega), am_u2_a (by decide), m_okk, am_cl_s]
  · have h1 : rel n K F (am_u2 I 2 9 (gm_pw I A lk x)) R C A lk U S := h.sc (sc.rfl.st2 _)
    refine e_no' h (gm_pw I A lk x) ?_ ?_
    · unfold X11_value
      rw [cwF_2_6 hc, cwK_62 hc, if_pos (show ((9, 0) : Nat × Int).1 = 9 from rfl), c_pw h, am_cq_s, if_neg w, c_ref, am_cl_s]
    · show X12_value N K F 85 _ x = _
      unfold X12_value X12_value_b28
      rw [m_pw h1 hN, gm_pw_u, am_cq_s, if_pos (by omega), m_noo, am_cl_s]
theorem e_rank (h : rel n K F I R C A lk U S) (hN : 100 < N) : eqv (fun J => rel n K F J R C A lk U S) (X11_rank N K F 2 I x) (fun J => X12_rank N K F 85 J x) := by
  have hc := h.a.c
  have hm := h.a.m
  have wv := gm_pw_v (I := I) (A := A) (lk := lk) (x := x)
  by_cases w : gm_pw I A lk x = 0
  · obtain ⟨o1, o2, o3, o4⟩ := gm_pw_0 w
    have q := h.on o1
    have v := h.V q
    have e := q.v x o2 o4
    have h1 : rel n K F (am_u2 I 2 9 0) R C A lk U S := h.sc (sc.rfl.st2 0)
    refine e_ok h (I 94 x) sc.rfl (am_u2_s _ _ _ _) ?_ ?_
    · unfold X11_rank
      rw [cwF_2_6 hc, cwK_62 hc, if_pos (show ((9, 0) : Nat × Int).1 = 9 from rfl), c_pw h, w, am_cq_s, if_pos rfl, h.a.v2, if_pos (show ((100, (K (F 62 4)).2) : Nat × Int).1 = 100 from rfl), if_pos (show 0 ≤ x ∧ x < (K (F 62 4)).2 by omega), e.2.1, c_acc, am_cl_s]
    · show X12_rank N K F 85 _ x = _
      unfold X12_rank X12_rank_b28
      rw [m_pw h1 hN, gm_pw_u, w, am_cq_s, if_neg (by decide), mwF_85_26 hm, mwK_94 hm, if_pos (show ((100, 40000) : Nat × Int).1 = 100 from rfl), if_pos (show 0 ≤ x ∧ x < 40000 by omega), am_u2_a (by decide), m_okk, am_cl_s]
  · have h1 : rel n K F (am_u2 I 2 9 (gm_pw I A lk x)) R C A lk U S := h.sc (sc.rfl.st2 _)
    refine e_no' h (gm_pw I A lk x) ?_ ?_
    · unfold X11_rank
      rw [cwF_2_6 hc, cwK_62 hc, if_pos (show ((9, 0) : Nat × Int).1 = 9 from rfl), c_pw h, am_cq_s, if_neg w, c_ref, am_cl_s]
    · show X12_rank N K F 85 _ x = _
      unfold X12_rank X12_rank_b28
      rw [m_pw h1 hN, gm_pw_u, am_cq_s, if_pos (by omega), m_noo, am_cl_s]
theorem gp_bst_congr {v r v' r' : Int → Int} {t : Int} (hg : gm_g R C A) (hL : 0 ≤ gm_L A lk) (k0 : 0 ≤ k) (k1 : k < gp_top A lk t) (ht : t ≤ 12) (hv : ∀ j, 0 ≤ j → j < gp_top A lk t → v j = v' j ∧ r j = r' j) : gp_bst A C lk U v r k = gp_bst A C lk U v' r' k := by
  have hA := hg.A
  refine gs_f_congr _ _ (fun p p0 p1 => ?_)
  unfold gp_qb
  by_cases al : gp_al A C lk U k p = 1
  · have o := gp_to_lt hg (U := U) hL k0 k1 ht p0 (by omega) al
    have a := hv k k0 k1
    have b := hv _ o.1 o.2
    rw [gp_isb_congr a.1 a.2 b.1 b.2]
  · rw [decide_eq_false al, Bool.false_and, Bool.false_and]
/-- the best move of a solved place, by the class -/
theorem rel.cbest (h : rel n K F I R C A lk U S) (hN : 100 < N) (w : I 85 21 ≠ 0) (k0 : 0 ≤ k) (k1 : k < gp_top A lk (I 85 23 - 1)) : X9_bestEdge N K F I 62 k = some (if gp_bst A C lk U (I 93) (I 94) k < 0 then -1 else gp_cd A C lk U k (gp_bst A C lk U (I 93) (I 94) k)) := by
  have q := h.on w
  have hL := h.g.n
  have gs := h.q.gs (by have := h.q.b1; omega)
  have g0 := h.q.g0
  have gr := h.gR
  have y := q.y
  have m := q.m
  have mt := gp_top_mono (A := A) (lk := lk) (by omega) (show I 85 23 - 1 ≤ I 63 3 - 1 by omega)
  have k12 := gr.lt (k := k) (by omega)
  have le := gp_ly_le (A := A) (lk := lk) (by omega) k0 k12 k1
  have ml := gp_top_mono (A := A) (lk := lk) (by omega) le
  have hv : ∀ j, 0 ≤ j → j < gp_top A lk (I 85 23 - 1) → I (F 62 4) j = I 93 j ∧ I (F 62 5) j = I 94 j := fun j a b => ⟨(q.v j a b).1, (q.v j a b).2.1⟩
  have := c_bestEdge (N := N) gr hN (by rw [← h.a.v1]) h.a.v2 k0 (by omega) (fun j a b => by
    have e := q.v j a (by omega)
    have l := gp_ly_b (A := A) (lk := lk) (by omega) a (gr.lt (k := j) (by omega))
    unfold gp_ly at l
    omega)
  rw [gp_bst_congr (v' := I 93) (r' := I 94) h.g.m.g (by omega) k0 k1 (by omega) hv] at this
  exact this
theorem gp_bst_v {v r : Int → Int} (hA : 0 ≤ A) : (gp_bst A C lk U v r k = -1 ∧ ∀ p, 0 ≤ p → p < A → gp_qb A C lk U v r k p = false) ∨ (0 ≤ gp_bst A C lk U v r k ∧ gp_bst A C lk U v r k < A ∧ gp_al A C lk U k (gp_bst A C lk U v r k) = 1) := by
  unfold gp_bst
  rcases gs_f_v (gp_qb A C lk U v r k) A.toNat 0 (by omega) with ⟨a, b⟩ | ⟨a, b, c, -⟩
  · exact Or.inl ⟨a, fun p p0 p1 => b p p0 (by omega)⟩
  · refine Or.inr ⟨a, by omega, ?_⟩
    unfold gp_qb at c
    rw [Bool.and_eq_true, decide_eq_true_eq] at c
    exact c.1
/-- the model's best move of a solved place -/
theorem rel.mbest (h : rel n K F I R C A lk U S) (hN : 2000000 < N) (w : I 85 21 ≠ 0) (k0 : 0 ≤ k) (k1 : k < gp_top A lk (I 85 23 - 1)) : ∃ J, X12_bestOf N K F 85 I k = some (gp_bst A C lk U (I 93) (I 94) k, J) ∧ (∀ b, b ≠ 92 → b ≠ 91 → b ≠ 103 → b ≠ 85 → J b = I b) ∧ (∀ j, j < 17 ∨ 19 < j → J 85 j = I 85 j) := by
  have q := h.on w
  have v := h.V q
  have hL := h.g.n
  have y := q.y
  have m := q.m
  refine m_bestOf h.mB hN (t := I 85 23 - 1) k0 k1 (by omega) (by omega) (fun j a b => ?_)
  have e := q.v j a b
  have m12 := gp_top_mono (A := A) (lk := lk) (by omega) (show I 85 23 - 1 ≤ 12 by omega)
  have l := gp_ly_b (A := A) (lk := lk) (by omega) a (by omega)
  unfold gp_ly at l
  omega
theorem sc_of (h1 : ∀ b, b ≠ 92 → b ≠ 91 → b ≠ 103 → b ≠ 85 → J b = I b) (h2 : ∀ j, j < 17 ∨ 19 < j → J 85 j = I 85 j) : sc I J := fun b j a1 a2 a3 a4 a5 a6 a7 a8 a9 a10 a11 => by
  by_cases q : b = 85
  · subst q; exact h2 j (by omega)
  · rw [h1 b a8 a7 (by omega) q]
theorem e_best (h : rel n K F I R C A lk U S) (hN : 2000000 < N) : eqv (fun J => rel n K F J R C A lk U S) (X11_best N K F 2 I x) (fun J => X12_best N K F 85 J x) := by
  have hc := h.a.c
  have hm := h.a.m
  have hA := h.g.m.A
  have wv := gm_pw_v (I := I) (A := A) (lk := lk) (x := x)
  by_cases w : gm_pw I A lk x = 0
  · obtain ⟨o1, o2, o3, o4⟩ := gm_pw_0 w
    have q := h.on o1
    have v := h.V q
    have g0 := h.q.g0
    have gs := h.q.gs (by have := h.q.b1; omega)
    have e0 : X11_best N K F 2 I x = am_cq (X9_bestEdge N K F I 62 x) (fun v_3 => if v_3 < 0 then (am_cl (X11_refuse N K F 2 I 5) (fun v_7 I_8 => some (v_7, I_8))) else (am_cq (X0_pitOf N K F I v_3) (fun v_4 => am_cl (X11_accept N K F 2 I v_4) (fun v_5 I_6 => some (v_5, I_6))))) := by
      unfold X11_best
      rw [cwF_2_6 hc, cwK_62 hc, if_pos (show ((9, 0) : Nat × Int).1 = 9 from rfl), c_pw h, w, am_cq_s, if_pos rfl]
    rw [h.cbest (by omega) o1 o2 o4, am_cq_s] at e0
    rcases gp_bst_v (A := A) (C := C) (lk := lk) (U := U) (v := I 93) (r := I 94) (k := x) (by omega) with ⟨b1, -⟩ | ⟨b1, b2, b3⟩
    · rw [b1, if_pos (show (-1 : Int) < 0 by decide), if_pos (show (-1 : Int) < 0 by decide), c_ref, am_cl_s] at e0
      have h1 : rel n K F (am_u2 I 2 9 5) R C A lk U S := h.sc (sc.rfl.st2 5)
      obtain ⟨J3, f1, f2, f3⟩ := h1.mbest (k := x) hN (by rw [am_u2_a (by decide)]; exact o1) o2 (by rw [am_u2_a (by decide)]; exact o4)
      have f4 : X12_bestOf N K F 85 (am_u2 I 2 9 5) x = some (-1, J3) := by rw [f1, ← b1]; rfl
      refine e_no3 h 5 (sc_of f2 f3) (by rw [f2 2 (by decide) (by decide) (by decide) (by decide), am_u2_s]) e0 ?_
      show X12_best N K F 85 _ x = _
      unfold X12_best X12_best_b19 X12_best_b50
      rw [m_pw h1 (by omega), gm_pw_u, w, am_cq_s, if_neg (by decide), f4, am_cl_s, if_neg (by decide), if_pos rfl, m_noo, am_cl_s]
    · have hL := h.g.n
      have mt := gp_top_mono (A := A) (lk := lk) (by omega) (show I 85 23 - 1 ≤ I 63 3 - 1 by omega)
      have cd := h.gR.cd (N := N) (k := x) o2 (by omega) b1 b2 b3
      have c0 := cd.c0
      rw [if_neg (show ¬ gp_bst A C lk U (I 93) (I 94) x < 0 by omega), if_neg (show ¬ gp_cd A C lk U x (gp_bst A C lk U (I 93) (I 94) x) < 0 by omega), cd.p, am_cq_s, c_acc, am_cl_s] at e0
      have h1 : rel n K F (am_u2 I 2 9 0) R C A lk U S := h.sc (sc.rfl.st2 0)
      obtain ⟨J3, f1, f2, f3⟩ := h1.mbest (k := x) hN (by rw [am_u2_a (by decide)]; exact o1) o2 (by rw [am_u2_a (by decide)]; exact o4)
      have f4 : X12_bestOf N K F 85 (am_u2 I 2 9 0) x = some (gp_bst A C lk U (I 93) (I 94) x, J3) := by rw [f1]; rfl
      refine e_ok h _ (sc_of f2 f3) (by rw [f2 2 (by decide) (by decide) (by decide) (by decide), am_u2_s]) e0 ?_
      show X12_best N K F 85 _ x = _
      unfold X12_best X12_best_b19 X12_best_b50
      rw [m_pw h1 (by omega), gm_pw_u, w, am_cq_s, if_neg (by decide), f4, am_cl_s, if_neg (by decide), if_neg (by omega), m_okk, am_cl_s]
  · have h1 : rel n K F (am_u2 I 2 9 (gm_pw I A lk x)) R C A lk U S := h.sc (sc.rfl.st2 _)
    refine e_no' h (gm_pw I A lk x) ?_ ?_
    · unfold X11_best
      rw [cwF_2_6 hc, cwK_62 hc, if_pos (show ((9, 0) : Nat × Int).1 = 9 from rfl), c_pw h, am_cq_s, if_neg w, c_ref, am_cl_s]
    · show X12_best N K F 85 _ x = _
      unfold X12_best X12_best_b19 X12_best_b50
      rw [m_pw h1 (by omega), gm_pw_u, am_cq_s, if_pos (by omega), if_pos (by omega), m_noo, am_cl_s]
theorem e_reaches (h : rel n K F I R C A lk U S) (hN : 2000000 < N) : eqv (fun J => rel n K F J R C A lk U S) (X11_reaches N K F 2 I x y) (fun J => X12_reaches N K F 85 J x y) := by
  have hc := h.a.c
  have hm := h.a.m
  have hA := h.g.m.A
  have hL := h.g.n
  have wv := gm_pw_v (I := I) (A := A) (lk := lk) (x := x)
  by_cases w : gm_pw I A lk x = 0
  · obtain ⟨o1, o2, o3, o4⟩ := gm_pw_0 w
    have q := h.on o1
    have v := h.V q
    have g0 := h.q.g0
    have qy := q.y
    have qm := q.m
    have gs := h.q.gs (by have := h.q.b1; omega)
    have mt := gp_top_mono (A := A) (lk := lk) (by omega) (show I 85 23 - 1 ≤ I 63 3 - 1 by omega)
    have m12 := gp_top_mono (A := A) (lk := lk) (by omega) (show I 85 23 - 1 ≤ 12 by omega)
    by_cases hy : 0 ≤ y ∧ y < A
    · have e0 : X11_reaches N K F 2 I x y = am_cq (X0_edgeFrom N K F I 63 x y) (fun v_5 => if v_5 < 0 then (am_cl (X11_refuse N K F 2 I 5) (fun v_9 I_10 => some (v_9, I_10))) else (am_cq (X9_reachOf N K F I 62 v_5) (fun v_6 => am_cl (X11_accept N K F 2 I v_6) (fun v_7 I_8 => some (v_7, I_8))))) := by
        unfold X11_reaches
        rw [cwF_2_6 hc, cwK_62 hc, if_pos (show ((9, 0) : Nat × Int).1 = 9 from rfl), c_pw h, w, am_cq_s, if_pos rfl, if_pos hy.1, cwF_2_0 hc, cwK_3 hc, if_pos (show ((1, 0) : Nat × Int).1 = 1 from rfl), h.g.c.2.1.2.2.1, if_neg (by omega), cwF_62_0 hc, cwK_63 hc, if_pos (show ((0, 0) : Nat × Int).1 = 0 from rfl)]
      rw [c_edgeFrom h.gR (by omega) o2 (by omega) hy.1 hy.2, am_cq_s] at e0
      have hmod : ∀ u : Int, ∃ J1 J2, X12_layOut N K F 85 (am_u2 I 2 9 u) x = some (x % 2, J1) ∧ mP K F J1 R C A lk U x ∧ (∀ b, b ≠ 92 → J1 b = am_u2 I 2 9 u b) ∧ X12_mayMove N K F 85 J1 92 (x % 2) 103 = some (gp_N A C lk U x, J2) ∧ ms J1 J2 ∧ (∀ p, 0 ≤ p → p < A → J2 103 p = gp_al A C lk U x p) ∧ X12_reaches N K F 85 (am_u2 I 2 9 u) x y = if (J2 103 y) = 0 then (am_cl (X12_no N K F 85 J2 5) (fun v_11 I_12 => some (v_11, I_12))) else (am_cl (X12_make N K F 85 J2 92 (x % 2) y) (fun _ I_7 => am_cq (X12_reached N K F I_7 85 (x % 2) 93) (fun v_8 => am_cl (X12_ok N K F 85 I_7 v_8) (fun v_9 I_10 => some (v_9, I_10))))) := by
        intro u
        have h1 : rel n K F (am_u2 I 2 9 u) R C A lk U S := h.sc (sc.rfl.st2 u)
        obtain ⟨J1, e1, e2, e3⟩ := m_lay (N := N) h1.mB (by omega) o2 (show x < gp_top A lk 12 by omega)
        obtain ⟨J2, f1, f2, f3⟩ := e2.may hN
        refine ⟨J1, J2, e1, e2, e3, f1, f2, f3, ?_⟩
        unfold X12_reaches X12_reaches_b28
        rw [m_pw h1 (by omega), gm_pw_u, w, am_cq_s, if_pos rfl, m_all h1.g.m, am_cq_s, if_pos (nb_in (by omega)), m_isIn, am_cq_s, if_pos (show 0 ≤ y ∧ y ≤ A - 1 by omega), if_neg (by decide), if_neg (by decide), e1, am_cl_s, mwF_85_20 hm, mwF_85_35 hm, f1, am_cl_s, mwK_103 hm, if_pos (show ((101, 32) : Nat × Int).1 = 101 from rfl), if_pos (show (0 : Int) ≤ y ∧ y < 32 by omega), mwF_85_25 hm]
      by_cases al : gp_al A C lk U x y = 1
      · have cd := h.gR.cd (N := N) (k := x) o2 (by omega) hy.1 hy.2 al
        have c0 := cd.c0
        have o := gp_to_lt h.g.m.g (U := U) (by omega) o2 o4 (by omega) hy.1 hy.2 al
        have e := q.v _ o.1 o.2
        have l := gp_ly_b (A := A) (lk := lk) (by omega) o.1 (by omega)
        unfold gp_ly at l
        rw [if_pos al, if_neg (show ¬ gp_cd A C lk U x y < 0 by omega), c_reachOf h.gR (by rw [← h.a.v1]) cd (by omega), am_cq_s, e.1, c_acc, am_cl_s] at e0
        obtain ⟨J1, J2, k1, k2, k3, k4, k5, k6, k7⟩ := hmod 0
        obtain ⟨J3, g1, g2, g3, g4, g5⟩ := k2.make hN k5 hy.1 hy.2 al
        have r93 : J3 93 = I 93 := by rw [g2.row (by decide) (by decide) (by decide), k3 93 (by decide)]; funext j; exact am_u2_a (by decide)
        have gr := k2.reached (N := N) (by omega) g2 hy.1 hy.2 al g4 g5 (by omega) (mwK_93 hm) (by rw [r93]; omega)
        rw [k6 y hy.1 hy.2, if_neg (by omega), g1, am_cl_s, gr, am_cq_s, m_okk, am_cl_s, r93] at k7
        refine e_ok h _ (sc_of (fun b b1 b2 b3 b4 => by rw [g2.row b2 b3 b4, k3 b b1]) (fun j qj => by rw [g2.fld qj, k3 85 (by decide)])) ?_ e0 k7
        rw [g2 2 9 (by decide) (by decide) (Or.inl (by decide)), k3 2 (by decide), am_u2_s]
      · have al0 : gp_al A C lk U x y = 0 := (gp_al_01 A C lk U x y).resolve_right al
        rw [if_neg al, if_pos (show (-1 : Int) < 0 by decide), c_ref, am_cl_s] at e0
        obtain ⟨J1, J2, k1, k2, k3, k4, k5, k6, k7⟩ := hmod 5
        rw [k6 y hy.1 hy.2, if_pos al0, m_noo, am_cl_s] at k7
        refine e_no3 h 5 (sc_of (fun b b1 b2 b3 b4 => by rw [k5.row b2 b3 b4, k3 b b1]) (fun j qj => by rw [k5.fld qj, k3 85 (by decide)])) ?_ e0 k7
        rw [k5 2 9 (by decide) (by decide) (Or.inl (by decide)), k3 2 (by decide), am_u2_s]
    · have h1 : rel n K F (am_u2 I 2 9 3) R C A lk U S := h.sc (sc.rfl.st2 3)
      refine e_no' h 3 ?_ ?_
      · unfold X11_reaches X11_reaches_b34
        rw [cwF_2_6 hc, cwK_62 hc, if_pos (show ((9, 0) : Nat × Int).1 = 9 from rfl), c_pw h, w, am_cq_s, if_pos rfl]
        by_cases y0 : 0 ≤ y
        · rw [if_pos y0, cwF_2_0 hc, cwK_3 hc, if_pos (show ((1, 0) : Nat × Int).1 = 1 from rfl), h.g.c.2.1.2.2.1, if_pos (by omega), c_ref, am_cl_s]
        · rw [if_neg y0, c_ref, am_cl_s]
      · show X12_reaches N K F 85 _ x y = _
        unfold X12_reaches X12_reaches_b28
        rw [m_pw h1 (by omega), gm_pw_u, w, am_cq_s, if_pos rfl, m_all h1.g.m, am_cq_s, if_pos (nb_in (by omega)), m_isIn, am_cq_s, if_neg (show ¬ (0 ≤ y ∧ y ≤ A - 1) by omega), if_pos rfl, if_pos (by decide), m_noo, am_cl_s]
  · have h1 : rel n K F (am_u2 I 2 9 (gm_pw I A lk x)) R C A lk U S := h.sc (sc.rfl.st2 _)
    refine e_no' h (gm_pw I A lk x) ?_ ?_
    · unfold X11_reaches
      rw [cwF_2_6 hc, cwK_62 hc, if_pos (show ((9, 0) : Nat × Int).1 = 9 from rfl), c_pw h, am_cq_s, if_neg w, c_ref, am_cl_s]
    · show X12_reaches N K F 85 _ x y = _
      unfold X12_reaches X12_reaches_b28
      rw [m_pw h1 (by omega), gm_pw_u, am_cq_s, if_neg w, if_pos (by omega), m_noo, am_cl_s]
theorem e_lineAt (h : rel n K F I R C A lk U S) : eqv (fun J => rel n K F J R C A lk U S) (X11_lineAt N K F 2 I x) (fun J => X12_lineAt N K F 85 J x) := by
  have hc := h.a.c
  have hm := h.a.m
  have a := h.l.a
  have a1 := h.l.a1
  by_cases w : I 85 39 = 0
  · refine e_no' h 9 ?_ ?_
    · unfold X11_lineAt
      rw [cwF_2_7 hc, cwK_79 hc, if_pos (show ((2, 0) : Nat × Int).1 = 2 from rfl), if_pos (by omega), c_ref, am_cl_s]
    · show X12_lineAt N K F 85 _ x = _
      unfold X12_lineAt X12_lineAt_b50
      rw [am_u2_a (by decide), if_pos w, m_noo, am_cl_s]
  · obtain ⟨l1, l2, l3, l4, l5⟩ := h.l.m (by omega)
    by_cases hx : 0 ≤ x ∧ x < I 85 40
    · refine e_ok h (I 105 x) sc.rfl (am_u2_s _ _ _ _) ?_ ?_
      · unfold X11_lineAt
        rw [cwF_2_7 hc, cwK_79 hc, if_pos (show ((2, 0) : Nat × Int).1 = 2 from rfl), if_neg (by omega), if_pos hx.1, if_neg (by omega), cwF_79_3 hc, cwK_80 hc, if_pos (show ((100, 400) : Nat × Int).1 = 100 from rfl), if_pos (show 0 ≤ x ∧ x < 400 by omega), l5 x hx.1 hx.2, c_acc, am_cl_s]
      · show X12_lineAt N K F 85 _ x = _
        unfold X12_lineAt X12_lineAt_b50
        rw [am_u2_a (by decide), if_neg w, am_u2_a (by decide), if_pos (nb_in (by omega)), m_isIn, am_cq_s, if_pos (show 0 ≤ x ∧ x ≤ I 85 40 - 1 by omega), if_neg (by decide), mwF_85_41 hm, mwK_105 hm, if_pos (show ((100, 400) : Nat × Int).1 = 100 from rfl), if_pos (show 0 ≤ x ∧ x < 400 by omega), am_u2_a (by decide), m_okk, am_cl_s]
    · refine e_no' h 3 ?_ ?_
      · unfold X11_lineAt X11_lineAt_b32
        rw [cwF_2_7 hc, cwK_79 hc, if_pos (show ((2, 0) : Nat × Int).1 = 2 from rfl), if_neg (by omega)]
        by_cases x0 : 0 ≤ x
        · rw [if_pos x0, if_pos (by omega), c_ref, am_cl_s]
        · rw [if_neg x0, c_ref, am_cl_s]
      · show X12_lineAt N K F 85 _ x = _
        unfold X12_lineAt X12_lineAt_b50
        rw [am_u2_a (by decide), if_neg w, am_u2_a (by decide), if_pos (nb_in (by omega)), m_isIn, am_cq_s, if_neg (show ¬ (0 ≤ x ∧ x ≤ I 85 40 - 1) by omega), if_pos rfl, m_noo, am_cl_s]
theorem e_ring (h : rel n K F I R C A lk U S) : eqv (fun J => rel n K F J R C A lk U S) (X11_ring N K F 2 I) (fun J => X12_ring N K F 85 J) := by
  have hc := h.a.c
  have hm := h.a.m
  have a := h.l.a
  have a1 := h.l.a1
  by_cases w : I 85 39 = 0
  · refine e_no' h 9 ?_ ?_
    · unfold X11_ring
      rw [cwF_2_7 hc, cwK_79 hc, if_pos (show ((2, 0) : Nat × Int).1 = 2 from rfl), if_pos (by omega), c_ref, am_cl_s]
    · show X12_ring N K F 85 _ = _
      unfold X12_ring X12_ring_b24
      rw [am_u2_a (by decide), if_pos w, m_noo, am_cl_s]
  · obtain ⟨l1, l2, l3, l4, l5⟩ := h.l.m (by omega)
    refine e_ok h (I 85 43) sc.rfl (am_u2_s _ _ _ _) ?_ ?_
    · unfold X11_ring
      rw [cwF_2_7 hc, cwK_79 hc, if_pos (show ((2, 0) : Nat × Int).1 = 2 from rfl), if_neg (by omega), l2, c_acc, am_cl_s]
    · show X12_ring N K F 85 _ = _
      unfold X12_ring X12_ring_b24
      rw [am_u2_a (by decide), if_neg w, am_u2_a (by decide), m_okk, am_cl_s]
end QUERY
