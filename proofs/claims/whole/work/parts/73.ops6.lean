-- CALLS: lack, board
section OPS6
variable {N n : Nat} {K : am_K} {F : am_F} {I J : am_I} {R C A : Int} {lk U : Int → Int} {S x y z : Int}
theorem rel.anew (h : rel n K F I R C A lk U S) {R' C' A' S' : Int} {lk' U' : Int → Int} (hg : rG J R' C' A' lk') (hu : rU J U') (hp : rP J A' lk' S') (h59 : J 59 0 = 0 ∧ J 59 1 = 0) (h62 : J 62 1 = 0) (h63 : J 63 3 = 0) (h85 : J 85 37 = 0 ∧ J 85 38 = 0 ∧ J 85 21 = 0) (hl : rL J) (hv : rV J) (hs : J (F 63 1) 0 = I (F 63 1) 0) : rel n K F J R' C' A' lk' U' S' :=
  ⟨h.a, hg, hu, hp, h.h.clear h59.1 h59.2 h85.1 h85.2.1, hl, hv, h.q.clear h.a.V0 h.a.E0 h62 h85.2.2 h63 hs⟩
theorem gm_L_up {p : Int} (h0 : 0 ≤ p) (h1 : p < A) (hl : lk p = 0) : gm_L A (gm_up lk p 1) = gm_L A lk - 1 := by
  unfold gm_L
  have e : gm_lv (gm_up lk p 1) = fun i => if i = p then 0 else gm_lv lk i := by
    funext i
    unfold gm_lv gm_up
    by_cases g : i = p
    · rw [if_pos g, if_pos g, if_neg (by decide)]
    · rw [if_neg g, if_neg g]
  have e2 : gm_lv lk p = 1 := by unfold gm_lv; rw [if_pos hl]
  rw [e, gm_sm_upd, if_pos (by omega), e2]
  omega
theorem m_lack_w {C x y : Int} (h : 0 ≤ x * C ∧ x * C ≤ 32) (h2 : 0 ≤ x * C + y ∧ x * C + y < 32) : am_wI (am_wI (x * C) + y) = x * C + y := by
  rw [am_wI_id (x := x * C) ⟨by omega, by omega⟩, am_wI_id ⟨by omega, by omega⟩]
theorem e_lack (h : rel n K F I R C A lk U S) (hN : 100 < N) : eqv (fun J => ∃ lk', rel n K F J R C A lk' U S) (X11_lack N K F 2 I x y) (fun J => X12_lack N K F 85 J x y) := by
  have hc := h.a.c
  have hm := h.a.m
  have hA := h.g.m.A
  have hL := h.L
  have hth : ∀ {J : am_I}, rG J R C A lk → X12_there N K F J 85 = some (gm_L A lk) := fun hJ => by have := m_there (N := N) hm hJ.m (by omega); rw [hJ.k] at this; exact this
  by_cases w : gm_why R C lk x y = 0
  · obtain ⟨w1, w2, w3⟩ := gm_why_0 w
    obtain ⟨a1, a2, a3, a4⟩ := gm_in h.g.m.g w1 w2
    have hp0 := h.p.s.1 _ a1 a2
    have hww := m_lack_w (C := C) (x := x) (y := y) ⟨a3, a4⟩ ⟨a1, by omega⟩
    generalize hpp : x * C + y = p at *
    have hcl : X11_lack N K F 2 I x y = if I 17 p ≤ 0 then (if gm_L A lk ≤ 1 then (X11_lack_b52 N K F 2 I) else (am_cl (X1_takeOut N K F 3 I p) (fun _ I_7 => am_cl (X11_forgetRuling N K F 2 I_7) (fun _ I_8 => am_cl (X11_accept N K F 2 I_8 (I_8 3 3)) (fun v_9 I_10 => some (v_9, I_10)))))) else (X11_lack_b52 N K F 2 I) := by
      unfold X11_lack X1_pitAt
      simp only [c_why hc h.g.c, am_cq_s, w, cwF_2_0 hc, cwK_3 hc, cwF_2_2 hc, cwK_16 hc, cwF_16_0 hc, cwK_17 hc, h.g.c.2.1.2.1, hpp, h.g.c.2.1.2.2.2]
      rw [if_pos trivial, if_pos trivial, if_pos (nb_in (by omega)), if_pos (nb_in (by omega)), am_cq_s, if_pos trivial, if_pos trivial, if_pos (by omega)]
    have hml : ∀ {J : am_I}, rG J R C A lk → X12_lack N K F 85 J x y = if J 87 p ≤ 0 then (if gm_L A lk = 1 then (X12_lack_b39 N K F 85 J p) else (X12_lack_b42 N K F 85 J 0 p)) else (X12_lack_b39 N K F 85 J p) := by
      intro J hJ
      unfold X12_lack
      rw [m_why hm hJ, am_cq_s, w, hJ.m.2.1, hww, hth hJ, mwF_85_3 hm, mwK_87 hm]
      unfold am_lt
      dsimp only
      rw [if_pos (show (0 : Int) = 0 from rfl), if_pos (show (100 : Nat) = 100 from rfl), if_pos (by omega), am_cq_s]
    by_cases g : I 87 p ≤ 0 ∧ gm_L A lk ≠ 1
    · obtain ⟨J, e1, e2, e3, e4⟩ := c_takeOut (N := N) hc h.g.c hN a1 a2
      have k17 : J 17 = I 17 := e4 17 (by omega)
      have e85 : ∀ b, 85 ≤ b → rw1 J b = I b := fun b q => by
        funext j; unfold rw1; rw [am_u2_a (by omega), am_u2_a (by omega), am_u2_a (by omega), am_u2_a (by omega), am_u2_a (by omega)]; exact congrFun (e4 b (by omega)) j
      have hG1 : rG (rw1 J) R C A lk → True := fun _ => trivial
      have hJ1 : mg (rw1 J) R C A := h.g.m.kept (by rw [e85 85 (by decide)]) (by rw [e85 85 (by decide)])
      generalize hI2 : am_u2 (rw1 J) 86 p 1 = I2
      have r86 : I2 86 = gm_up lk p 1 := by
        rw [← hI2]; funext j; unfold gm_up
        by_cases g : j = p
        · subst g; rw [am_u2_s, if_pos rfl]
        · rw [am_u2_k g, if_neg g, e85 86 (by decide), h.g.k]
      have r85 : I2 85 = I 85 := by rw [← hI2]; funext j; rw [am_u2_a (by decide), e85 85 (by decide)]
      have rb : ∀ b, b ≠ 86 → I2 b = rw1 J b := fun b q => by rw [← hI2]; funext j; rw [am_u2_a q]
      have q2 : ∀ b, b ≠ 85 → rw2 I2 b = I2 b := fun b q => by funext j; unfold rw2; rw [am_u2_a q, am_u2_a q, am_u2_a q, am_u2_a q]
      have q85 : ∀ j, j ≠ 15 ∧ j ≠ 21 ∧ j ≠ 37 ∧ j ≠ 38 → rw2 I2 85 j = I 85 j := fun j q => by unfold rw2; rw [am_u2_k q.1, am_u2_k q.2.1, am_u2_k q.2.2.2, am_u2_k q.2.2.1, r85]
      have p1 : ∀ b, b ≠ 59 ∧ b ≠ 62 ∧ b ≠ 63 ∧ b ≠ 2 → rw1 J b = J b := fun b q => by funext j; unfold rw1; rw [am_u2_a q.2.2.2, am_u2_a q.2.2.1, am_u2_a q.2.1, am_u2_a q.1, am_u2_a q.1]
      have fin : ∀ b, b ≠ 85 ∧ b ≠ 86 ∧ b ≠ 59 ∧ b ≠ 62 ∧ b ≠ 63 ∧ b ≠ 2 → rw2 I2 b = J b := fun b q => by rw [q2 b q.1, rb b q.2.1, p1 b q.2.2]
      have fi : ∀ b, b ≠ 85 ∧ b ≠ 86 ∧ b ≠ 59 ∧ b ≠ 62 ∧ b ≠ 63 ∧ b ≠ 2 ∧ (b < 3 ∨ 14 < b) → rw2 I2 b = I b := fun b q => by rw [fin b (by omega), e4 b (by omega)]
      have gl := gm_L_up (A := A) (lk := lk) a1 a2 w3
      have hth2 : ∀ J' : am_I, J' 86 = gm_up lk p 1 → mg J' R C A → X12_there N K F J' 85 = some (gm_L A lk - 1) := fun J' x1 x2 => by have := m_there (N := N) hm x2 (by omega); rw [x1] at this; rw [← gl]; exact this
      have hG : rG (rw2 I2) R C A (gm_up lk p 1) := by
        refine ⟨h.g.m.kept (q85 0 (by omega)) (q85 1 (by omega)), ?_, e2.kept (fun b x1 x2 => fin b (by omega)), ?_, ?_, by rw [q2 86 (by decide), r86], ?_, by rw [gl]; omega⟩
        · intro k b1 b2; rw [fi 89 (by decide), fi 90 (by decide)]; exact h.g.w k b1 b2
        · rw [fin 5 (by decide)]; exact e3
        · intro m k b1 b2 b3 b4; rw [fi 57 (by decide)]; exact h.g.t m k b1 b2 b3 b4
        · intro q b1 b2
          unfold gm_up
          by_cases g : q = p
          · rw [if_pos g]; exact Or.inr rfl
          · rw [if_neg g]; exact h.g.b q b1 b2
      have hP : rP (rw2 I2) A (gm_up lk p 1) S := by
        refine ⟨by rw [fi 17 (by decide), fi 87 (by decide)]; exact h.p.e, by rw [fi 87 (by decide)]; exact h.p.z, ⟨by rw [fi 87 (by decide)]; exact h.p.s.1, ?_, by rw [fi 87 (by decide)]; exact h.p.s.2.2⟩, by rw [fi 18 (by decide), fi 88 (by decide)]; exact h.p.s0, by rw [fi 18 (by decide), fi 88 (by decide)]; exact h.p.s1, by rw [fi 16 (by decide), q85 5 (by omega)]; exact h.p.w, by rw [q85 5 (by omega)]; exact h.p.w1, by rw [fi 87 (by decide), fi 88 (by decide)]; exact h.p.t, h.p.B⟩
        intro j b1 b2 b3
        rw [fi 87 (by decide)]
        by_cases gj : j = p
        · subst gj; omega
        · rw [gm_up_n gj] at b3; exact h.p.s.2.1 j b1 b2 b3
      refine eqv_mk (v := gm_L A lk - 1) (J := rw1 J) (J' := rw2 I2) ?_ ?_ ⟨_, h.anew hG (h.u.kept (fi 15 (by decide)) (fun j b1 b2 => q85 j (by omega))) hP ?_ ?_ ?_ ?_ ?_ ?_ ?_⟩ ?_
      · rw [hcl, h.p.e p a1 (by omega), if_pos g.1, if_neg (by omega), e1, am_cl_s, c_forgetR hc, am_cl_s, c_acc, am_cl_s]
        have : am_u2 (am_u2 (am_u2 (am_u2 J 59 0 0) 59 1 0) 62 1 0) 63 3 0 3 3 = gm_L A lk - 1 := by
          rw [am_u2_a (by decide), am_u2_a (by decide), am_u2_a (by decide), am_u2_a (by decide), e2.2.1.2.2.2, gl]
        rw [this]; rfl
      · show X12_lack N K F 85 (rw1 J) x y = _
        have hmm : ∀ j, rw1 J 85 j = I 85 j := fun j => by rw [e85 85 (by decide)]
        have hw1 : X12_pitWhy N K F (rw1 J) 85 x y = some (gm_why R C lk x y) := by
          have hgg := h.g.m.g
          have := m_why (N := N) (x := x) (y := y) hm h.g
          rw [← this]
          unfold X12_pitWhy
          simp only [hmm, mwF_85_2 hm, e85 86 (by decide), m_isIn]
          rfl
        have hth1 : X12_there N K F (rw1 J) 85 = some (gm_L A lk) := by have := m_there (N := N) hm hJ1 (by omega); rw [e85 86 (by decide), h.g.k] at this; exact this
        unfold X12_lack
        rw [hw1, am_cq_s, w, hmm, h.g.m.2.1, hww, hth1, mwF_85_3 hm, mwK_87 hm, e85 87 (by decide)]
        unfold am_lt
        dsimp only
        rw [if_pos (show (0 : Int) = 0 from rfl), if_pos (show (100 : Nat) = 100 from rfl), if_pos (by omega), if_pos g.1, am_cq_s, if_neg g.2]
        unfold X12_lack_b42
        rw [if_neg (by decide), mwF_85_2 hm, mwK_86 hm, if_pos (show ((101, 32) : Nat × Int).1 = 101 from rfl), if_pos (by decide), if_pos (show (0 : Int) ≤ p ∧ p < 32 by omega)]
        unfold am_lt
        dsimp only
        rw [hI2, m_otherG, am_cl_s]
        rw [hth2 _ (by funext j; rw [am_u2_a (by decide), am_u2_a (by decide), am_u2_a (by decide), r86]) (h.g.m.kept (by rw [am_u2_k (by decide), am_u2_k (by decide), am_u2_k (by decide), r85]) (by rw [am_u2_k (by decide), am_u2_k (by decide), am_u2_k (by decide), r85])), am_cq_s]
        rfl
      · rw [q2 59 (by decide), rb 59 (by decide)]; simp [rw1, am_u2]
      · rw [q2 62 (by decide), rb 62 (by decide)]; simp [rw1, am_u2]
      · rw [q2 63 (by decide), rb 63 (by decide)]; simp [rw1, am_u2]
      · simp [rw2, am_u2]
      · exact h.l.kept (fi 79 (by decide)) (fi 80 (by decide)) (fi 105 (by decide)) ⟨q85 39 (by omega), q85 40 (by omega), q85 43 (by omega)⟩
      · exact h.v.kept (fi 83 (by decide)) (fi 84 (by decide)) (fi 107 (by decide)) (fi 108 (by decide))
      · have hv : vok (F 63 1) := (h.a.v 7 (by decide)).1
        have := vok_n hv
        rw [fi _ (by omega)]
      · rw [q2 2 (by decide), rb 2 (by decide)]; simp [rw1, rw2, am_u2]
    · refine eqv_mk (v := -1) (J := am_u2 I 2 9 7) (J' := am_u2 (am_u2 I 2 9 7) 85 15 7) ?_ ?_ ⟨lk, (h.sc (sc.rfl.st2 7)).sc (sc.rfl.st85 7)⟩ (u29 7 0)
      · rw [hcl, h.p.e p a1 (by omega)]
        unfold X11_lack_b52
        by_cases g1 : I 87 p ≤ 0
        · rw [if_pos g1, if_pos (by omega)]; rfl
        · rw [if_neg g1]; rfl
      · show X12_lack N K F 85 _ x y = _
        rw [hml (h.sc (sc.rfl.st2 7)).g, am_u2_a (by decide)]
        unfold X12_lack_b39 X12_lack_b42
        by_cases g1 : I 87 p ≤ 0
        · rw [if_pos g1, if_pos (by omega), if_pos (by decide)]; rfl
        · rw [if_neg g1, if_pos (by decide)]; rfl
  · refine eqv_mk (v := -1) (J := am_u2 I 2 9 (gm_why R C lk x y)) (J' := am_u2 (am_u2 I 2 9 (gm_why R C lk x y)) 85 15 (gm_why R C lk x y)) ?_ ?_ ⟨lk, (h.sc (sc.rfl.st2 _)).sc (sc.rfl.st85 _)⟩ (u29 _ 0)
    · unfold X11_lack
      rw [c_why hc h.g.c, am_cq_s, if_neg w]; rfl
    · show X12_lack N K F 85 _ x y = _
      have wv := gm_why_v (R := R) (C := C) (lk := lk) (x := x) (y := y)
      unfold X12_lack X12_lack_b42
      rw [m_why hm (h.sc (sc.rfl.st2 _)).g, am_cq_s]
      unfold am_lt
      dsimp only
      rw [if_neg w, if_pos (by omega)]; rfl
end OPS6
