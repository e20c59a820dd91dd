-- CALLS: store, side, seeds, lack, board
section OPS5
variable {N n : Nat} {K : am_K} {F : am_F} {I J : am_I} {R C A : Int} {lk U : Int → Int} {S x y z : Int}
/-- another position: moves are gone -/
theorem rel.posn (h : rel n K F I R C A lk U S) {S' : Int} (hfr : ∀ b, b ≠ 2 → b ≠ 16 → b ≠ 17 → b ≠ 18 → b ≠ 59 → b ≠ 85 → b ≠ 87 → b ≠ 88 → J b = I b)
    (h59 : J 59 0 = 0 ∧ J 59 1 = 0) (h85 : J 85 37 = 0 ∧ J 85 38 = 0) (hk : ∀ j, j ≠ 5 → j ≠ 15 → j ≠ 37 → j ≠ 38 → J 85 j = I 85 j) (hp : rP J A lk S') : rel n K F J R C A lk U S' := by
  have f : ∀ b, b ≠ 2 ∧ b ≠ 16 ∧ b ≠ 17 ∧ b ≠ 18 ∧ b ≠ 59 ∧ b ≠ 85 ∧ b ≠ 87 ∧ b ≠ 88 → J b = I b := fun b q => hfr b q.1 q.2.1 q.2.2.1 q.2.2.2.1 q.2.2.2.2.1 q.2.2.2.2.2.1 q.2.2.2.2.2.2.1 q.2.2.2.2.2.2.2
  have k : ∀ j, j ≠ 5 ∧ j ≠ 15 ∧ j ≠ 37 ∧ j ≠ 38 → J 85 j = I 85 j := fun j q => hk j q.1 q.2.1 q.2.2.1 q.2.2.2
  refine ⟨h.a, h.g.kept (fun b hb => f b (by omega)) (k 0 (by omega)) (k 1 (by omega)), h.u.kept (f 15 (by decide)) (fun j a b => k j (by omega)), hp, h.h.clear h59.1 h59.2 h85.1 h85.2, ?_, ?_, ?_⟩
  · exact h.l.kept (f 79 (by decide)) (f 80 (by decide)) (f 105 (by decide)) ⟨k 39 (by omega), k 40 (by omega), k 43 (by omega)⟩
  · exact h.v.kept (f 83 (by decide)) (f 84 (by decide)) (f 107 (by decide)) (f 108 (by decide))
  · refine h.q.kept (f 62 (by decide)) (congrFun (f 63 (by decide)) 3) ⟨k 21 (by omega), k 22 (by omega), k 23 (by omega), k 24 (by omega)⟩ (fun r hr => f r ?_) (f 93 (by decide)) (f 94 (by decide)) (f 95 (by decide)) (f 96 (by decide))
    have := vok_n (h.a.ok r hr).1
    omega
theorem e_noS (h : rel n K F I R C A lk U S) (w : Int) {X : Option (Int × am_I)} {Y : am_I → Option (Int × am_I)} (hx : X = some (-1, am_u2 I 2 9 w)) (hy : Y (am_u2 I 2 9 w) = some (-1, am_u2 (am_u2 I 2 9 w) 85 15 w)) {B : Int} (hB : 0 ≤ B) : eqv (fun J => ∃ S', S' ≤ S + B ∧ rel n K F J R C A lk U S') X Y :=
  eqv_mk hx hy ⟨S, by omega, (h.sc (sc.rfl.st2 w)).sc (sc.rfl.st85 w)⟩ (u29 w 0)
def pw1 (I : am_I) : am_I := am_u2 (am_u2 (am_u2 I 59 0 0) 59 1 0) 2 9 0
def pw2 (I : am_I) : am_I := am_u2 (am_u2 (am_u2 I 85 37 0) 85 38 0) 85 15 0
theorem e_store (h : rel n K F I R C A lk U S) (hS : S ≤ 598000) : eqv (fun J => ∃ S', S' ≤ S + 1000 ∧ rel n K F J R C A lk U S') (X11_store N K F 2 I x y) (fun J => X12_store N K F 85 J x y) := by
  have hc := h.a.c
  have hm := h.a.m
  by_cases w : x = 0 ∨ x = 1
  · by_cases w2 : 0 ≤ y ∧ y ≤ 1000
    · refine eqv_mk (v := y) (J := pw1 (am_u2 I 18 x y)) (J' := pw2 (am_u2 (pw1 (am_u2 I 18 x y)) 88 x y)) ?_ ?_ ⟨S - I 88 x + y, by have := h.store w; omega, h.posn ?_ ?_ ?_ ?_ ?_⟩ (by simp [pw1, pw2, am_u2])
      · unfold X11_store
        simp only [c_isSide, am_cq_s, cwF_2_2 hc, cwK_16 hc, cwF_16_1 hc, cwK_18 hc, cwF_2_5 hc, cwK_59 hc, c_past hc, am_lt, am_cl_s, c_acc]
        rw [if_pos w, if_neg (by decide), if_pos w2.1, if_neg (by omega), if_pos trivial, if_pos trivial, if_pos (by decide), if_pos (by omega), if_pos trivial]
        rfl
      · show X12_store N K F 85 _ x y = _
        unfold X12_store
        simp only [m_isIn, am_cq_s, mwF_85_4 hm, mwK_88 hm, am_lt, m_forg, am_cl_s, m_okk]
        rw [if_pos (show 0 ≤ x ∧ x ≤ 1 by omega), if_neg (by decide), if_pos w2, if_neg (by decide), if_pos trivial, if_pos (by decide), if_pos (by omega)]
        rfl
      · intro b q1 q2 q3 q4 q5 q6 q7 q8
        funext j
        unfold pw2 pw1
        simp only [am_u2_a q1, am_u2_a q4, am_u2_a q5, am_u2_a q6, am_u2_a q8]
      · simp [pw1, pw2, am_u2]
      · simp [pw1, pw2, am_u2]
      · intro j q1 q2 q3 q4
        unfold pw2 pw1
        rw [am_u2_k q2, am_u2_k q4, am_u2_k q3, am_u2_a (by decide), am_u2_a (by decide), am_u2_a (by decide), am_u2_a (by decide), am_u2_a (by decide)]
      · have e87 : pw2 (am_u2 (pw1 (am_u2 I 18 x y)) 88 x y) 87 = I 87 := by funext j; simp [pw1, pw2, am_u2]
        have e17 : pw2 (am_u2 (pw1 (am_u2 I 18 x y)) 88 x y) 17 = I 17 := by funext j; simp [pw1, pw2, am_u2]
        have e16 : pw2 (am_u2 (pw1 (am_u2 I 18 x y)) 88 x y) 16 2 = I 16 2 := by simp [pw1, pw2, am_u2]
        have e5 : pw2 (am_u2 (pw1 (am_u2 I 18 x y)) 88 x y) 85 5 = I 85 5 := by simp [pw1, pw2, am_u2]
        have s0 := h.p.s0
        have s1 := h.p.s1
        have t := h.p.t
        refine ⟨by rw [e87, e17]; exact h.p.e, by rw [e87]; exact h.p.z, by rw [e87]; exact h.p.s, ?_, ?_, by rw [e16, e5]; exact h.p.w, by rw [e5]; exact h.p.w1, ?_, by have := h.store w; omega⟩
        · rcases w with rfl | rfl
          · simp [pw1, pw2, am_u2]; omega
          · simp [pw1, pw2, am_u2]; omega
        · rcases w with rfl | rfl
          · simp [pw1, pw2, am_u2]; omega
          · simp [pw1, pw2, am_u2]; omega
        · rw [e87]
          rcases w with rfl | rfl
          · simp [pw1, pw2, am_u2]; omega
          · simp [pw1, pw2, am_u2]; omega
    · refine e_noS h 7 ?_ ?_ (by omega)
      · unfold X11_store X11_store_b24
        rw [c_isSide, am_cq_s, if_pos w, if_neg (by decide)]
        by_cases g : 0 ≤ y
        · rw [if_pos g, if_pos (by omega)]; rfl
        · rw [if_neg g]; rfl
      · show X12_store N K F 85 (am_u2 I 2 9 _) x y = _
        unfold X12_store
        rw [m_isIn, am_cq_s, if_pos (show 0 ≤ x ∧ x ≤ 1 by omega), if_neg (by decide), m_isIn, am_cq_s, if_neg w2, if_pos rfl]; rfl
  · refine e_noS h 3 ?_ ?_ (by omega)
    · unfold X11_store
      rw [c_isSide, am_cq_s, if_neg w, if_pos rfl]; rfl
    · show X12_store N K F 85 (am_u2 I 2 9 _) x y = _
      unfold X12_store
      rw [m_isIn, am_cq_s, if_neg (show ¬ (0 ≤ x ∧ x ≤ 1) by omega), if_pos rfl]; rfl
theorem e_side (h : rel n K F I R C A lk U S) : eqv (fun J => rel n K F J R C A lk U S) (X11_side N K F 2 I x) (fun J => X12_side N K F 85 J x) := by
  have hc := h.a.c
  have hm := h.a.m
  by_cases w : x = 0 ∨ x = 1
  · refine eqv_mk (v := x) (J := pw1 (am_u2 I 16 2 x)) (J' := pw2 (am_u2 (pw1 (am_u2 I 16 2 x)) 85 5 x)) ?_ ?_ (h.posn ?_ ?_ ?_ ?_ ?_) (by simp [pw1, pw2, am_u2])
    · unfold X11_side
      simp only [c_isSide, am_cq_s, cwF_2_2 hc, cwK_16 hc, cwF_2_5 hc, cwK_59 hc, c_past hc, am_lt, am_cl_s, c_acc]
      rw [if_pos w, if_neg (by decide), if_pos trivial, if_pos trivial]
      rfl
    · show X12_side N K F 85 _ x = _
      unfold X12_side
      simp only [m_isIn, am_cq_s, am_lt, m_forg, am_cl_s, m_okk]
      rw [if_pos (show 0 ≤ x ∧ x ≤ 1 by omega), if_neg (by decide)]
      rfl
    · intro b q1 q2 q3 q4 q5 q6 q7 q8
      funext j
      unfold pw2 pw1
      simp only [am_u2_a q1, am_u2_a q2, am_u2_a q5, am_u2_a q6]
    · simp [pw1, pw2, am_u2]
    · simp [pw1, pw2, am_u2]
    · intro j q1 q2 q3 q4
      unfold pw2 pw1
      rw [am_u2_k q2, am_u2_k q4, am_u2_k q3, am_u2_k q1, am_u2_a (by decide), am_u2_a (by decide), am_u2_a (by decide), am_u2_a (by decide)]
    · have f : ∀ b, b ≠ 2 ∧ b ≠ 16 ∧ b ≠ 59 ∧ b ≠ 85 → pw2 (am_u2 (pw1 (am_u2 I 16 2 x)) 85 5 x) b = I b := fun b q => by
        funext j; unfold pw2 pw1; simp only [am_u2_a q.1, am_u2_a q.2.1, am_u2_a q.2.2.1, am_u2_a q.2.2.2]
      have e16 : pw2 (am_u2 (pw1 (am_u2 I 16 2 x)) 85 5 x) 16 2 = x := by simp [pw1, pw2, am_u2]
      have e5 : pw2 (am_u2 (pw1 (am_u2 I 16 2 x)) 85 5 x) 85 5 = x := by simp [pw1, pw2, am_u2]
      refine ⟨by rw [f 87 (by decide), f 17 (by decide)]; exact h.p.e, by rw [f 87 (by decide)]; exact h.p.z, by rw [f 87 (by decide)]; exact h.p.s, by rw [f 18 (by decide), f 88 (by decide)]; exact h.p.s0, by rw [f 18 (by decide), f 88 (by decide)]; exact h.p.s1, by rw [e16, e5], by rw [e5]; exact w, by rw [f 87 (by decide), f 88 (by decide)]; exact h.p.t, h.p.B⟩
  · refine e_no' h 3 ?_ ?_
    · unfold X11_side
      rw [c_isSide, am_cq_s, if_neg w, if_pos rfl]; rfl
    · show X12_side N K F 85 (am_u2 I 2 9 _) x = _
      unfold X12_side
      rw [m_isIn, am_cq_s, if_neg (show ¬ (0 ≤ x ∧ x ≤ 1) by omega), if_pos rfl]; rfl
theorem e_seeds (h : rel n K F I R C A lk U S) (hN : 100 < N) (hS : S ≤ 598000) : eqv (fun J => ∃ S', S' ≤ S + 1000 ∧ rel n K F J R C A lk U S') (X11_seeds N K F 2 I x y z) (fun J => X12_seeds N K F 85 J x y z) := by
  have hc := h.a.c
  have hm := h.a.m
  have hA := h.g.m.A
  by_cases w : gm_why R C lk x y = 0
  · obtain ⟨w1, w2, w3⟩ := gm_why_0 w
    obtain ⟨a1, a2, a3, a4⟩ := gm_in h.g.m.g w1 w2
    by_cases w4 : 0 ≤ z ∧ z ≤ 60
    · have s0 := h.p.s0
      have s1 := h.p.s1
      have t := h.p.t
      have hp0 := h.p.s.1 _ a1 a2
      have tn := gm_tot_nn h.p.s.1
      generalize hpp : x * C + y = p at *
      have hJp : rP (pw2 (am_u2 (pw1 (am_u2 I 17 p z)) 87 p z)) A lk (S - I 87 p + z) := by
        have f : ∀ b, b ≠ 2 ∧ b ≠ 17 ∧ b ≠ 59 ∧ b ≠ 85 ∧ b ≠ 87 → pw2 (am_u2 (pw1 (am_u2 I 17 p z)) 87 p z) b = I b := fun b q => by
          funext j; unfold pw2 pw1; simp only [am_u2_a q.1, am_u2_a q.2.1, am_u2_a q.2.2.1, am_u2_a q.2.2.2.1, am_u2_a q.2.2.2.2]
        have e87 : pw2 (am_u2 (pw1 (am_u2 I 17 p z)) 87 p z) 87 = gm_up (I 87) p z := by funext j; simp [pw1, pw2, am_u2, gm_up]
        have e17 : pw2 (am_u2 (pw1 (am_u2 I 17 p z)) 87 p z) 17 = gm_up (I 17) p z := by funext j; simp [pw1, pw2, am_u2, gm_up]
        have e5 : pw2 (am_u2 (pw1 (am_u2 I 17 p z)) 87 p z) 85 5 = I 85 5 := by simp [pw1, pw2, am_u2]
        have ht := gm_tot_up (A := A) (c := I 87) (k := p) (v := z) a1 a2
        have hst := h.p.s
        refine ⟨?_, ?_, ⟨?_, ?_, ?_⟩, by rw [f 18 (by decide), f 88 (by decide)]; exact s0, by rw [f 18 (by decide), f 88 (by decide)]; exact s1, by rw [f 16 (by decide), e5]; exact h.p.w, by rw [e5]; exact h.p.w1, by rw [e87, f 88 (by decide), ht]; omega, by omega⟩
        · intro q b1 b2
          rw [e17, e87]
          unfold gm_up
          by_cases g : q = p
          · rw [if_pos g, if_pos g]
          · rw [if_neg g, if_neg g]; exact h.p.e q b1 b2
        · intro j b1 b2; rw [e87, gm_up_n (by omega)]; exact h.p.z j b1 b2
        · intro j b1 b2
          rw [e87]
          unfold gm_up
          by_cases g : j = p
          · rw [if_pos g]; omega
          · rw [if_neg g]; exact hst.1 j b1 b2
        · intro j b1 b2 b3
          rw [e87]
          by_cases g : j = p
          · subst g; exact absurd w3 b3
          · rw [gm_up_n g]; exact hst.2.1 j b1 b2 b3
        · rw [e87, ht]; omega
      have hR : rel n K F (pw2 (am_u2 (pw1 (am_u2 I 17 p z)) 87 p z)) R C A lk U (S - I 87 p + z) := by
        refine h.posn ?_ ?_ ?_ ?_ hJp
        · intro b q1 q2 q3 q4 q5 q6 q7 q8
          funext j
          unfold pw2 pw1
          simp only [am_u2_a q1, am_u2_a q3, am_u2_a q5, am_u2_a q6, am_u2_a q7]
        · simp [pw1, pw2, am_u2]
        · simp [pw1, pw2, am_u2]
        · intro j q1 q2 q3 q4
          unfold pw2 pw1
          rw [am_u2_k q2, am_u2_k q4, am_u2_k q3, am_u2_a (by decide), am_u2_a (by decide), am_u2_a (by decide), am_u2_a (by decide), am_u2_a (by decide)]
      refine eqv_mk (v := gm_tot A (gm_up (I 87) p z)) (J := pw1 (am_u2 I 17 p z)) (J' := pw2 (am_u2 (pw1 (am_u2 I 17 p z)) 87 p z)) ?_ ?_ ⟨S - I 87 p + z, by omega, hR⟩ (by simp [pw1, pw2, am_u2])
      · have e17 : am_u2 (am_u2 (am_u2 I 17 p z) 59 0 0) 59 1 0 17 = gm_up (I 17) p z := by funext j; simp [am_u2, gm_up]
        have hcg : cg (am_u2 (am_u2 (am_u2 I 17 p z) 59 0 0) 59 1 0) R C A lk := h.g.c.kept (fun b q1 q2 => by funext j; rw [am_u2_a (by omega), am_u2_a (by omega), am_u2_a (by omega)])
        have heq : gm_eq A (gm_up (I 17) p z) (gm_up (I 87) p z) := h.eq17.up p z
        have hbd : gm_bd A (am_u2 (am_u2 (am_u2 I 17 p z) 59 0 0) 59 1 0 17) := by
          rw [e17]
          intro q b1 b2
          have := h.st17.bd q b1 b2
          unfold gm_up
          split <;> omega
        have hse := c_seedsIn (N := N) hc hcg hN (cwK_17 hc) hbd
        rw [e17, heq.tot] at hse
        unfold X11_seeds X1_pitAt
        simp only [c_why hc h.g.c, am_cq_s, w, cwF_2_2 hc, cwK_16 hc, cwF_2_0 hc, cwK_3 hc, cwF_16_0 hc, cwK_17 hc, cwF_2_5 hc, cwK_59 hc, h.g.c.2.1.2.1, hpp]
        rw [if_pos trivial, if_pos w4.1, if_neg (by omega), if_pos trivial, if_pos trivial, if_pos (nb_in (by omega)), if_pos (nb_in (by omega)), am_cq_s, if_pos trivial, if_pos (by decide), if_pos (by omega)]
        unfold am_lt
        dsimp only
        rw [if_pos trivial, c_past hc, am_cl_s, hse, am_cq_s, c_acc, am_cl_s]
        rfl
      · show X12_seeds N K F 85 _ x y z = _
        have h1 : rG (pw1 (am_u2 I 17 p z)) R C A lk := h.g.kept (fun b q => by funext j; unfold pw1; rw [am_u2_a (by omega), am_u2_a (by omega), am_u2_a (by omega), am_u2_a (by omega)]) (by simp [pw1, am_u2]) (by simp [pw1, am_u2])
        have e87 : am_u2 (am_u2 (am_u2 (pw1 (am_u2 I 17 p z)) 87 p z) 85 37 0) 85 38 0 87 = gm_up (I 87) p z := by funext j; simp [pw1, am_u2, gm_up]
        have hmg : mg (am_u2 (am_u2 (am_u2 (pw1 (am_u2 I 17 p z)) 87 p z) 85 37 0) 85 38 0) R C A := h1.m.kept (by simp [am_u2]) (by simp [am_u2])
        have hbd : gm_bd A (am_u2 (am_u2 (am_u2 (pw1 (am_u2 I 17 p z)) 87 p z) 85 37 0) 85 38 0 87) := by
          rw [e87]
          intro q b1 b2
          have := h.p.s.bd q b1 b2
          unfold gm_up
          split <;> omega
        have hse : X12_seedsOf N K F (am_u2 (am_u2 (am_u2 (pw1 (am_u2 I 17 p z)) 87 p z) 85 37 0) 85 38 0) 85 87 = some (gm_tot A (am_u2 (am_u2 (am_u2 (pw1 (am_u2 I 17 p z)) 87 p z) 85 37 0) 85 38 0 87)) := m_seedsOf hmg (mwK_87 hm) hbd (by omega)
        rw [e87] at hse
        unfold X12_seeds X12_seeds_b29
        simp only [m_why hm h1, am_cq_s, w, m_isIn, mwF_85_3 hm, mwK_87 hm, h1.m.2.1, hpp]
        rw [if_pos trivial, if_pos w4, if_neg (by decide), if_neg (by decide), if_pos (nb_in (by omega)), if_pos (nb_in (by omega)), if_pos trivial, if_pos (by decide), if_pos (by omega)]
        unfold am_lt
        dsimp only
        rw [m_forg, am_cl_s, hse, am_cq_s, m_okk, am_cl_s]
        rfl
    · refine e_noS h 7 ?_ ?_ (by omega)
      · unfold X11_seeds X11_seeds_b30
        rw [c_why hc h.g.c, am_cq_s, if_pos w]
        by_cases g : 0 ≤ z
        · rw [if_pos g, if_pos (by omega)]; rfl
        · rw [if_neg g]; rfl
      · show X12_seeds N K F 85 (am_u2 I 2 9 _) x y z = _
        unfold X12_seeds X12_seeds_b29
        rw [m_why hm (h.sc (sc.rfl.st2 _)).g, am_cq_s, if_pos w, m_isIn, am_cq_s, if_neg w4, if_pos rfl, if_pos (by decide)]; rfl
  · refine e_noS h (gm_why R C lk x y) ?_ ?_ (by omega)
    · unfold X11_seeds
      rw [c_why hc h.g.c, am_cq_s, if_neg w]; rfl
    · show X12_seeds N K F 85 (am_u2 I 2 9 _) x y z = _
      have wv := gm_why_v (R := R) (C := C) (lk := lk) (x := x) (y := y)
      unfold X12_seeds X12_seeds_b29
      rw [m_why hm (h.sc (sc.rfl.st2 _)).g, am_cq_s, if_neg w, if_pos (by omega)]; rfl
end OPS5
