-- CALLS: store, side, seeds, and the rules
section OPS2
variable {N n : Nat} {K : am_K} {F : am_F} {I J : am_I} {R C A : Int} {lk U : Int → Int} {S x y z : Int}
theorem rH.clear (h : rH K F I A C lk U S) (h0 : J 59 0 = 0) (h1 : J 59 1 = 0) (h2 : J 85 37 = 0) (h3 : J 85 38 = 0) {A' C' S' : Int} {lk' U' : Int → Int} : rH K F J A' C' lk' U' S' := by
  have l0 := h.l0
  refine ⟨by rw [h0, h2], by rw [h1, h2, h3]; rfl, by rw [h2]; omega, by rw [h3]; omega, by rw [h2, h3]; omega, h.k1, h.k2, h.l0, h.l1, by rw [h2, h3]; omega, ?_, ?_, ?_⟩
  · intro j a b; rw [h2, h3] at b; omega
  · intro a; rw [h2, h3] at a; omega
  · intro j a b; rw [h2] at b; omega
theorem gp_top_neg (A : Int) (lk : Int → Int) {k : Int} (h : k < 0) : gp_top A lk k = 0 := by unfold gp_top; rw [gW_neg h]; rfl
theorem rQ.clear (h : rQ K F I A C lk U) (hV : 0 ≤ (K (F 62 4)).2) (hE : 0 ≤ (K (F 63 2)).2) (h0 : J 62 1 = 0) (h1 : J 85 21 = 0) (h2 : J 63 3 = 0) (h3 : J (F 63 1) 0 = I (F 63 1) 0) {A' C' : Int} {lk' U' : Int → Int} : rQ K F J A' C' lk' U' := by
  have e : gp_top A' lk' (J 63 3 - 1) = 0 := gp_top_neg _ _ (by omega)
  have e0 : J (F 63 1) 0 = 0 := h3.trans h.g.s0
  refine ⟨by rw [h0, h1], by rw [h1]; exact Or.inl rfl, fun w => by omega, by omega, by rw [e]; exact hV, ?_, fun w => by omega, by rw [e]; exact hE⟩
  rw [e]
  refine ⟨e0, fun k hk => ?_, fun k hk => by omega, fun k a b => by omega⟩
  have : k = 0 := by omega
  subst this
  exact e0
theorem vok_n {r : Nat} (h : vok r) : r ≠ 2 ∧ r ≠ 15 ∧ r ≠ 16 ∧ r ≠ 17 ∧ r ≠ 18 ∧ r ≠ 19 ∧ r ≠ 59 ∧ r ≠ 62 ∧ r ≠ 63 ∧ r ≠ 79 ∧ r ≠ 83 ∧ r ≠ 84 ∧ ¬ (85 ≤ r ∧ r ≤ 108) ∧ ¬ (3 ≤ r ∧ r ≤ 14) := by unfold vok at h; omega
theorem rA.v (h : rA n K F) (i : Nat) (hi : i < 15) : vok ((vrl F)[i]'hi) ∧ (vrl F)[i]'hi < n := h.ok _ (List.getElem_mem _)
/-- other rules, or other ground: moves and solving are gone -/
theorem rel.ruled (h : rel n K F I R C A lk U S) {U' : Int → Int} (hfr : ∀ b, b ≠ 2 → b ≠ 15 → b ≠ 59 → b ≠ 62 → b ≠ 63 → b ≠ 85 → J b = I b)
    (h59 : J 59 0 = 0 ∧ J 59 1 = 0) (h62 : J 62 1 = 0) (h63 : J 63 3 = 0) (h85 : J 85 37 = 0 ∧ J 85 38 = 0 ∧ J 85 21 = 0)
    (hk : ∀ j, j < 6 ∨ (j = 39 ∨ j = 40 ∨ j = 43) → J 85 j = I 85 j) (hu : rU J U') : rel n K F J R C A lk U' S := by
  have f : ∀ b, b ≠ 2 ∧ b ≠ 15 ∧ b ≠ 59 ∧ b ≠ 62 ∧ b ≠ 63 ∧ b ≠ 85 → J b = I b := fun b q => hfr b q.1 q.2.1 q.2.2.1 q.2.2.2.1 q.2.2.2.2.1 q.2.2.2.2.2
  refine ⟨h.a, h.g.kept (fun b hb => f b (by omega)) (hk 0 (by omega)) (hk 1 (by omega)), hu, h.p.kept (f 17 (by decide)) (f 18 (by decide)) (congrFun (f 16 (by decide)) 2) (f 87 (by decide)) (f 88 (by decide)) (hk 5 (by omega)), h.h.clear h59.1 h59.2 h85.1 h85.2.1, ?_, ?_, ?_⟩
  · exact h.l.kept (f 79 (by decide)) (f 80 (by decide)) (f 105 (by decide)) ⟨hk 39 (by omega), hk 40 (by omega), hk 43 (by omega)⟩
  · exact h.v.kept (f 83 (by decide)) (f 84 (by decide)) (f 107 (by decide)) (f 108 (by decide))
  · refine h.q.clear h.a.V0 h.a.E0 h62 h85.2.2 h63 (congrFun (f _ ?_) 0)
    have hv : vok (F 63 1) := (h.a.v 7 (by decide)).1
    have := vok_n hv
    omega
theorem rU.of (hc : cr J (J 85)) (h : (0 ≤ J 85 6 ∧ J 85 6 ≤ 3) ∧ (1 ≤ J 85 7 ∧ J 85 7 ≤ 50) ∧ (1 ≤ J 85 8 ∧ J 85 8 ≤ J 85 9 ∧ J 85 9 ≤ 20) ∧ (1 ≤ J 85 10 ∧ J 85 10 ≤ 4) ∧ (J 85 11 = 0 ∨ J 85 11 = 1) ∧ (0 ≤ J 85 12 ∧ J 85 12 ≤ 2)) : rU J (J 85) :=
  ⟨hc, fun _ _ _ => rfl, h.1, h.2.1, h.2.2.1, h.2.2.2.1, h.2.2.2.2.1, h.2.2.2.2.2⟩
theorem c_forgetR (hc : cw K F) : X11_forgetRuling N K F 2 I = some (0, am_u2 (am_u2 (am_u2 (am_u2 I 59 0 0) 59 1 0) 62 1 0) 63 3 0) := by
  unfold X11_forgetRuling X4_clear X9_forget X0_clear
  simp only [cwF_2_5 hc, cwK_59 hc, cwF_2_6 hc, cwK_62 hc, cwF_62_0 hc, cwK_63 hc, am_cl_s, am_lt]
  rw [if_pos trivial, if_pos trivial, if_pos trivial]; rfl
theorem m_otherG : X12_otherGame N K F 85 I = some (0, am_u2 (am_u2 (am_u2 I 85 37 0) 85 38 0) 85 21 0) := rfl
theorem c_past (hc : cw K F) : X4_clear N K F 59 I = some (0, am_u2 (am_u2 I 59 0 0) 59 1 0) := rfl
theorem m_forg : X12_forget N K F 85 I = some (0, am_u2 (am_u2 I 85 37 0) 85 38 0) := rfl
/-- class's and model's memory behind a change of rules -/
def rw1 (I : am_I) : am_I := am_u2 (am_u2 (am_u2 (am_u2 (am_u2 I 59 0 0) 59 1 0) 62 1 0) 63 3 0) 2 9 0
def rw2 (I : am_I) : am_I := am_u2 (am_u2 (am_u2 (am_u2 I 85 37 0) 85 38 0) 85 21 0) 85 15 0
theorem rel.rules (h : rel n K F I R C A lk U S) {I1 : am_I} (h1 : ∀ b, b ≠ 15 → I1 b = I b) {I2 : am_I} (h2 : ∀ b, b ≠ 85 → I2 b = rw1 I1 b) (h3 : ∀ j, j < 6 ∨ 12 < j → I2 85 j = I 85 j) (hu : rU (rw2 I2) ((rw2 I2) 85)) :
    ∃ U', rel n K F (rw2 I2) R C A lk U' S := by
  have e2 : ∀ b, b ≠ 85 → rw2 I2 b = I2 b := fun b q => by funext j; unfold rw2; rw [am_u2_a q, am_u2_a q, am_u2_a q, am_u2_a q]
  have e1 : ∀ b, b ≠ 59 → b ≠ 62 → b ≠ 63 → b ≠ 2 → rw1 I1 b = I1 b := fun b q1 q2 q3 q4 => by funext j; unfold rw1; rw [am_u2_a q4, am_u2_a q3, am_u2_a q2, am_u2_a q1, am_u2_a q1]
  refine ⟨_, h.ruled (fun b q1 q2 q3 q4 q5 q6 => ?_) ?_ ?_ ?_ ?_ (fun j hj => ?_) hu⟩
  · rw [e2 b q6, h2 b q6, e1 b q3 q4 q5 q1, h1 b q2]
  · rw [e2 59 (by decide), h2 59 (by decide)]; unfold rw1; simp [am_u2]
  · rw [e2 62 (by decide), h2 62 (by decide)]; unfold rw1; simp [am_u2]
  · rw [e2 63 (by decide), h2 63 (by decide)]; unfold rw1; simp [am_u2]
  · unfold rw2; simp [am_u2]
  · unfold rw2
    rw [am_u2_k (by omega), am_u2_k (by omega), am_u2_k (by omega), am_u2_k (by omega), h3 j (by omega)]
/-- refused: by both, with the same reason -/
theorem e_no (h : rel n K F I R C A lk U S) (w : Int) {X : Option (Int × am_I)} {Y : am_I → Option (Int × am_I)} (hx : X = some (-1, am_u2 I 2 9 w)) (hy : Y (am_u2 I 2 9 w) = some (-1, am_u2 (am_u2 I 2 9 w) 85 15 w)) : eqv (fun J => ∃ U', rel n K F J R C A lk U' S) X Y :=
  eqv_mk hx hy ⟨U, (h.sc (sc.rfl.st2 w)).sc (sc.rfl.st85 w)⟩ (u29 w 0)
theorem rU.i85 (hu : rU I U) : I 85 6 = U 6 ∧ I 85 7 = U 7 ∧ I 85 8 = U 8 ∧ I 85 9 = U 9 ∧ I 85 10 = U 10 ∧ I 85 11 = U 11 ∧ I 85 12 = U 12 := ⟨hu.m 6 (by omega) (by omega), hu.m 7 (by omega) (by omega), hu.m 8 (by omega) (by omega), hu.m 9 (by omega) (by omega), hu.m 10 (by omega) (by omega), hu.m 11 (by omega) (by omega), hu.m 12 (by omega) (by omega)⟩
theorem e_rule (h : rel n K F I R C A lk U S) : eqv (fun J => ∃ U', rel n K F J R C A lk U' S) (X11_rule N K F 2 I x) (fun J => X12_rule N K F 85 J x) := by
  have hc := h.a.c
  have hm := h.a.m
  obtain ⟨m6, m7, m8, m9, m10, m11, m12⟩ := h.u.i85
  obtain ⟨k0, k1, k2, k3, k4, k5, k6⟩ := h.u.c
  have u10 := h.u.u10
  have u11 := h.u.u11
  have u12 := h.u.u12
  by_cases w : 0 ≤ x ∧ x ≤ 3
  · refine eqv_mk (v := x) (J := rw1 (am_u2 (am_u2 (am_u2 (am_u2 I 15 0 x) 15 1 10) 15 2 2) 15 3 3)) (J' := rw2 (am_u2 (am_u2 (am_u2 (am_u2 (rw1 (am_u2 (am_u2 (am_u2 (am_u2 I 15 0 x) 15 1 10) 15 2 2) 15 3 3)) 85 6 x) 85 7 10) 85 8 2) 85 9 3)) ?_ ?_ ?_ ?_
    · unfold X11_rule X8_become
      simp only [cwF_2_1 hc, cwK_15 hc, c_forgetR hc, am_cl_s, am_lt, c_acc]
      rw [if_pos w.1, if_neg (by omega), if_pos trivial]; rfl
    · show X12_rule N K F 85 _ x = _
      unfold X12_rule
      simp only [m_isIn, am_cq_s, am_cl_s, am_lt, m_otherG, m_okk]
      rw [if_pos w, if_neg (by decide)]
      simp only [rw2, rw1]
      try congr 2
    · refine h.rules (I1 := am_u2 (am_u2 (am_u2 (am_u2 I 15 0 x) 15 1 10) 15 2 2) 15 3 3) (fun b q => ?_) (fun b q => ?_) (fun j hj => ?_) (rU.of ?_ ?_)
      · funext j; rw [am_u2_a q, am_u2_a q, am_u2_a q, am_u2_a q]
      · funext j; rw [am_u2_a q, am_u2_a q, am_u2_a q, am_u2_a q]
      · rw [am_u2_k (by omega), am_u2_k (by omega), am_u2_k (by omega), am_u2_k (by omega)]; unfold rw1; simp only [am_u2_a (show (85 : Nat) ≠ 2 by decide), am_u2_a (show (85 : Nat) ≠ 63 by decide), am_u2_a (show (85 : Nat) ≠ 62 by decide), am_u2_a (show (85 : Nat) ≠ 59 by decide), am_u2_a (show (85 : Nat) ≠ 15 by decide)]
      · unfold cr; simp [rw2, rw1, am_u2]; omega
      · simp [rw2, rw1, am_u2]; omega
    · simp [rw2, rw1, am_u2]
  · refine e_no h 7 ?_ ?_
    · unfold X11_rule X11_rule_b9
      by_cases g : 0 ≤ x
      · rw [if_pos g, if_pos (by omega)]; rfl
      · rw [if_neg g]; rfl
    · show X12_rule N K F 85 _ x = _
      unfold X12_rule
      rw [m_isIn, am_cq_s, if_neg w, if_pos rfl]; rfl
theorem e_rounds (h : rel n K F I R C A lk U S) : eqv (fun J => ∃ U', rel n K F J R C A lk U' S) (X11_rounds N K F 2 I x) (fun J => X12_rounds N K F 85 J x) := by
  have hc := h.a.c
  have hm := h.a.m
  obtain ⟨m6, m7, m8, m9, m10, m11, m12⟩ := h.u.i85
  obtain ⟨k0, k1, k2, k3, k4, k5, k6⟩ := h.u.c
  have u6 := h.u.u6
  have u7 := h.u.u7
  have u8 := h.u.u8
  have u10 := h.u.u10
  have u11 := h.u.u11
  have u12 := h.u.u12
  by_cases w : 1 ≤ x ∧ x ≤ 50
  · by_cases g : U 6 = 1
    · refine eqv_mk (v := x) (J := rw1 (am_u2 I 15 1 x)) (J' := rw2 (am_u2 (rw1 (am_u2 I 15 1 x)) 85 7 x)) ?_ ?_ ?_ ?_
      · unfold X11_rounds
        simp only [cwF_2_1 hc, cwK_15 hc, c_forgetR hc, am_cl_s, am_lt, c_acc, k0]
        rw [if_pos w.1, if_neg (show ¬ 50 < x by omega), if_pos trivial, if_pos (show U 6 = 1 from g)]; rfl
      · show X12_rounds N K F 85 _ x = _
        unfold X12_rounds
        simp only [m_isIn, am_cq_s, am_cl_s, am_lt, m_otherG, m_okk]
        rw [if_pos w, if_neg (by decide)]
        rw [if_pos (show rw1 (am_u2 I 15 1 x) 85 6 = 1 by simp [rw1, am_u2]; omega)]
        simp only [rw2, rw1]
        try congr 2
      · refine h.rules (I1 := (am_u2 I 15 1 x)) (fun b q => ?_) (fun b q => ?_) (fun j hj => ?_) (rU.of ?_ ?_)
        · funext j; rw [am_u2_a q]
        · funext j; rw [am_u2_a q]
        · rw [am_u2_k (by omega)]; unfold rw1; simp only [am_u2_a (show (85 : Nat) ≠ 2 by decide), am_u2_a (show (85 : Nat) ≠ 63 by decide), am_u2_a (show (85 : Nat) ≠ 62 by decide), am_u2_a (show (85 : Nat) ≠ 59 by decide), am_u2_a (show (85 : Nat) ≠ 15 by decide)]
        · unfold cr; simp [rw2, rw1, am_u2]; omega
        · simp [rw2, rw1, am_u2]; omega
      · simp [rw2, rw1, am_u2]
    · refine e_no h 4 ?_ ?_
      · unfold X11_rounds
        simp only [cwF_2_1 hc, cwK_15 hc, k0]
        rw [if_pos w.1, if_neg (show ¬ 50 < x by omega), if_pos trivial, if_neg g]; rfl
      · show X12_rounds N K F 85 _ x = _
        unfold X12_rounds
        simp only [m_isIn, am_cq_s]
        rw [if_pos w, if_neg (by decide), if_neg (by rw [am_u2_a (by decide), m6]; exact g)]; rfl
  · refine e_no h 7 ?_ ?_
    · unfold X11_rounds X11_rounds_b11
      by_cases g : 1 ≤ x
      · rw [if_pos g, if_pos (by omega)]; rfl
      · rw [if_neg g]; rfl
    · show X12_rounds N K F 85 _ x = _
      unfold X12_rounds
      rw [m_isIn, am_cq_s, if_neg w, if_pos rfl]; rfl
theorem e_takes (h : rel n K F I R C A lk U S) : eqv (fun J => ∃ U', rel n K F J R C A lk U' S) (X11_takes N K F 2 I x y) (fun J => X12_takes N K F 85 J x y) := by
  have hc := h.a.c
  have hm := h.a.m
  obtain ⟨m6, m7, m8, m9, m10, m11, m12⟩ := h.u.i85
  obtain ⟨k0, k1, k2, k3, k4, k5, k6⟩ := h.u.c
  have u6 := h.u.u6
  have u7 := h.u.u7
  have u8 := h.u.u8
  have u10 := h.u.u10
  have u11 := h.u.u11
  have u12 := h.u.u12
  by_cases w : 1 ≤ x ∧ x ≤ y ∧ y ≤ 20
  · by_cases g : U 6 = 2
    · refine eqv_mk (v := y) (J := rw1 (am_u2 (am_u2 I 15 2 x) 15 3 y)) (J' := rw2 (am_u2 (am_u2 (rw1 (am_u2 (am_u2 I 15 2 x) 15 3 y)) 85 8 x) 85 9 y)) ?_ ?_ ?_ ?_
      · unfold X11_takes
        simp only [cwF_2_1 hc, cwK_15 hc, c_forgetR hc, am_cl_s, am_lt, c_acc, k0]
        rw [if_pos w.1, if_pos w.2.1, if_neg (show ¬ 20 < y by omega), if_pos trivial, if_pos (show U 6 = 2 from g)]; rfl
      · show X12_takes N K F 85 _ x y = _
        unfold X12_takes
        simp only [m_isIn, am_cq_s, am_cl_s, am_lt, m_otherG, m_okk]
        rw [if_pos (show 1 ≤ y ∧ y ≤ 20 by omega), if_neg (by decide), if_pos (show 1 ≤ x ∧ x ≤ y by omega), if_neg (by decide)]
        rw [if_pos (show rw1 (am_u2 (am_u2 I 15 2 x) 15 3 y) 85 6 = 2 by simp [rw1, am_u2]; omega)]
        simp only [rw2, rw1]
        try congr 2
      · refine h.rules (I1 := (am_u2 (am_u2 I 15 2 x) 15 3 y)) (fun b q => ?_) (fun b q => ?_) (fun j hj => ?_) (rU.of ?_ ?_)
        · funext j; rw [am_u2_a q, am_u2_a q]
        · funext j; rw [am_u2_a q, am_u2_a q]
        · rw [am_u2_k (by omega), am_u2_k (by omega)]; unfold rw1; simp only [am_u2_a (show (85 : Nat) ≠ 2 by decide), am_u2_a (show (85 : Nat) ≠ 63 by decide), am_u2_a (show (85 : Nat) ≠ 62 by decide), am_u2_a (show (85 : Nat) ≠ 59 by decide), am_u2_a (show (85 : Nat) ≠ 15 by decide)]
        · unfold cr; simp [rw2, rw1, am_u2]; omega
        · simp [rw2, rw1, am_u2]; omega
      · simp [rw2, rw1, am_u2]
    · refine e_no h 4 ?_ ?_
      · unfold X11_takes
        simp only [cwF_2_1 hc, cwK_15 hc, k0]
        rw [if_pos w.1, if_pos w.2.1, if_neg (show ¬ 20 < y by omega), if_pos trivial, if_neg g]; rfl
      · show X12_takes N K F 85 _ x y = _
        unfold X12_takes
        simp only [m_isIn, am_cq_s]
        rw [if_pos (show 1 ≤ y ∧ y ≤ 20 by omega), if_neg (by decide), if_pos (show 1 ≤ x ∧ x ≤ y by omega), if_neg (by decide), if_neg (by rw [am_u2_a (by decide), m6]; exact g)]; rfl
  · refine e_no h 7 ?_ ?_
    · unfold X11_takes X11_takes_b16
      by_cases g : 1 ≤ x
      · by_cases g2 : x ≤ y
        · rw [if_pos g, if_pos g2, if_pos (by omega)]; rfl
        · rw [if_pos g, if_neg g2]; rfl
      · rw [if_neg g]; rfl
    · show X12_takes N K F 85 _ x y = _
      unfold X12_takes X12_takes_b23
      rw [m_isIn, am_cq_s]
      by_cases g1 : 1 ≤ y ∧ y ≤ 20
      · rw [if_pos g1, if_neg (by decide), m_isIn, am_cq_s, if_neg (show ¬ (1 ≤ x ∧ x ≤ y) by omega), if_pos rfl]; rfl
      · rw [if_neg g1, if_pos rfl]; rfl
theorem e_least (h : rel n K F I R C A lk U S) : eqv (fun J => ∃ U', rel n K F J R C A lk U' S) (X11_least N K F 2 I x) (fun J => X12_least N K F 85 J x) := by
  have hc := h.a.c
  have hm := h.a.m
  obtain ⟨m6, m7, m8, m9, m10, m11, m12⟩ := h.u.i85
  obtain ⟨k0, k1, k2, k3, k4, k5, k6⟩ := h.u.c
  have u6 := h.u.u6
  have u7 := h.u.u7
  have u8 := h.u.u8
  have u10 := h.u.u10
  have u11 := h.u.u11
  have u12 := h.u.u12
  by_cases w : 1 ≤ x ∧ x ≤ 4
  · refine eqv_mk (v := x) (J := rw1 (am_u2 I 15 4 x)) (J' := rw2 (am_u2 (rw1 (am_u2 I 15 4 x)) 85 10 x)) ?_ ?_ ?_ ?_
    · unfold X11_least
      simp only [cwF_2_1 hc, cwK_15 hc, c_forgetR hc, am_cl_s, am_lt, c_acc]
      rw [if_pos w.1, if_neg (by omega), if_pos trivial]; rfl
    · show X12_least N K F 85 _ x = _
      unfold X12_least
      simp only [m_isIn, am_cq_s, am_cl_s, am_lt, m_otherG, m_okk]
      rw [if_pos w, if_neg (by decide)]
      simp only [rw2, rw1]
      try congr 2
    · refine h.rules (I1 := (am_u2 I 15 4 x)) (fun b q => ?_) (fun b q => ?_) (fun j hj => ?_) (rU.of ?_ ?_)
      · funext j; rw [am_u2_a q]
      · funext j; rw [am_u2_a q]
      · rw [am_u2_k (by omega)]; unfold rw1; simp only [am_u2_a (show (85 : Nat) ≠ 2 by decide), am_u2_a (show (85 : Nat) ≠ 63 by decide), am_u2_a (show (85 : Nat) ≠ 62 by decide), am_u2_a (show (85 : Nat) ≠ 59 by decide), am_u2_a (show (85 : Nat) ≠ 15 by decide)]
      · unfold cr; simp [rw2, rw1, am_u2]; omega
      · simp [rw2, rw1, am_u2]; omega
    · simp [rw2, rw1, am_u2]
  · refine e_no h 7 ?_ ?_
    · unfold X11_least X11_least_b10
      by_cases g : 1 ≤ x
      · rw [if_pos g, if_pos (by omega)]; rfl
      · rw [if_neg g]; rfl
    · show X12_least N K F 85 _ x = _
      unfold X12_least
      rw [m_isIn, am_cq_s, if_neg w, if_pos rfl]; rfl
theorem e_feeding (h : rel n K F I R C A lk U S) : eqv (fun J => ∃ U', rel n K F J R C A lk U' S) (X11_feeding N K F 2 I x) (fun J => X12_feeding N K F 85 J x) := by
  have hc := h.a.c
  have hm := h.a.m
  obtain ⟨m6, m7, m8, m9, m10, m11, m12⟩ := h.u.i85
  obtain ⟨k0, k1, k2, k3, k4, k5, k6⟩ := h.u.c
  have u6 := h.u.u6
  have u7 := h.u.u7
  have u8 := h.u.u8
  have u10 := h.u.u10
  have u11 := h.u.u11
  have u12 := h.u.u12
  by_cases w : 0 ≤ x ∧ x ≤ 1
  · refine eqv_mk (v := x) (J := rw1 (am_u2 I 15 5 x)) (J' := rw2 (am_u2 (rw1 (am_u2 I 15 5 x)) 85 11 x)) ?_ ?_ ?_ ?_
    · unfold X11_feeding X11_feeding_b30
      simp only [cwF_2_1 hc, cwK_15 hc, c_forgetR hc, am_cl_s, am_lt, c_acc]
      rw [if_pos (show 0 ≤ x by omega), if_neg (by omega)]
      by_cases g : x = 1
      · subst g; rw [if_pos rfl, if_pos trivial, if_pos (by decide)]; rfl
      · have g2 : x = 0 := by omega
        subst g2; rw [if_neg (by decide), if_pos trivial, if_pos (by decide)]; rfl
    · show X12_feeding N K F 85 _ x = _
      unfold X12_feeding X12_feeding_b28
      simp only [m_isIn, am_cq_s, am_cl_s, am_lt, m_otherG, m_okk, mwK_85 hm]
      rw [if_pos w, if_neg (by decide)]
      by_cases g : x = 1
      · subst g; rw [if_pos rfl, if_pos trivial, if_pos (by decide)]; rfl
      · have g2 : x = 0 := by omega
        subst g2; rw [if_neg (by decide), if_pos trivial, if_pos (by decide)]; rfl
    · refine h.rules (I1 := (am_u2 I 15 5 x)) (fun b q => ?_) (fun b q => ?_) (fun j hj => ?_) (rU.of ?_ ?_)
      · funext j; rw [am_u2_a q]
      · funext j; rw [am_u2_a q]
      · rw [am_u2_k (by omega)]; unfold rw1; simp only [am_u2_a (show (85 : Nat) ≠ 2 by decide), am_u2_a (show (85 : Nat) ≠ 63 by decide), am_u2_a (show (85 : Nat) ≠ 62 by decide), am_u2_a (show (85 : Nat) ≠ 59 by decide), am_u2_a (show (85 : Nat) ≠ 15 by decide)]
      · unfold cr; simp [rw2, rw1, am_u2]; omega
      · simp [rw2, rw1, am_u2]; omega
    · simp [rw2, rw1, am_u2]
  · refine e_no h 7 ?_ ?_
    · unfold X11_feeding X11_feeding_b9
      by_cases g : 0 ≤ x
      · rw [if_pos g, if_pos (by omega)]; rfl
      · rw [if_neg g]; rfl
    · show X12_feeding N K F 85 _ x = _
      unfold X12_feeding
      rw [m_isIn, am_cq_s, if_neg w, if_pos rfl]; rfl
theorem e_ends (h : rel n K F I R C A lk U S) : eqv (fun J => ∃ U', rel n K F J R C A lk U' S) (X11_ends N K F 2 I x) (fun J => X12_ends N K F 85 J x) := by
  have hc := h.a.c
  have hm := h.a.m
  obtain ⟨m6, m7, m8, m9, m10, m11, m12⟩ := h.u.i85
  obtain ⟨k0, k1, k2, k3, k4, k5, k6⟩ := h.u.c
  have u6 := h.u.u6
  have u7 := h.u.u7
  have u8 := h.u.u8
  have u10 := h.u.u10
  have u11 := h.u.u11
  have u12 := h.u.u12
  by_cases w : 0 ≤ x ∧ x ≤ 2
  · refine eqv_mk (v := x) (J := rw1 (am_u2 I 15 6 x)) (J' := rw2 (am_u2 (rw1 (am_u2 I 15 6 x)) 85 12 x)) ?_ ?_ ?_ ?_
    · unfold X11_ends
      simp only [cwF_2_1 hc, cwK_15 hc, c_forgetR hc, am_cl_s, am_lt, c_acc]
      rw [if_pos w.1, if_neg (by omega), if_pos trivial]; rfl
    · show X12_ends N K F 85 _ x = _
      unfold X12_ends
      simp only [m_isIn, am_cq_s, am_cl_s, am_lt, m_otherG, m_okk]
      rw [if_pos w, if_neg (by decide)]
      simp only [rw2, rw1]
      try congr 2
    · refine h.rules (I1 := (am_u2 I 15 6 x)) (fun b q => ?_) (fun b q => ?_) (fun j hj => ?_) (rU.of ?_ ?_)
      · funext j; rw [am_u2_a q]
      · funext j; rw [am_u2_a q]
      · rw [am_u2_k (by omega)]; unfold rw1; simp only [am_u2_a (show (85 : Nat) ≠ 2 by decide), am_u2_a (show (85 : Nat) ≠ 63 by decide), am_u2_a (show (85 : Nat) ≠ 62 by decide), am_u2_a (show (85 : Nat) ≠ 59 by decide), am_u2_a (show (85 : Nat) ≠ 15 by decide)]
      · unfold cr; simp [rw2, rw1, am_u2]; omega
      · simp [rw2, rw1, am_u2]; omega
    · simp [rw2, rw1, am_u2]
  · refine e_no h 7 ?_ ?_
    · unfold X11_ends X11_ends_b9
      by_cases g : 0 ≤ x
      · rw [if_pos g, if_pos (by omega)]; rfl
      · rw [if_neg g]; rfl
    · show X12_ends N K F 85 _ x = _
      unfold X12_ends
      rw [m_isIn, am_cq_s, if_neg w, if_pos rfl]; rfl
end OPS2
