-- CALLS: move, both sides
section EMOVE
variable {N n n' : Nat} {K K' : am_K} {F F' : am_F} {I J J' : am_I} {R C A : Int} {lk U : Int → Int} {S x y : Int} {c z : Nat}
theorem rsm.rfl' : rsm K K F F 0 0 := ⟨Int.le_refl _, by omega, by omega⟩
theorem eqA_mk {P : Nat → am_K → am_F → am_I → Nat → Nat → Prop} {X : Option am_A} {Y : am_K → am_F → am_I → Option (Int × am_I)} {v : Int} (hx : X = some (v, n', K', J, F', c, z)) (hy : Y K' F' J = some (v, J')) (hp : P n' K' F' J' c z) (hs : J' 2 9 = J' 85 15) : eqA P X Y := ⟨v, n', K', J, F', c, z, J', hx, hy, hp, hs⟩
/-- refused by both, behind looks of both -/
theorem eA_no (h : rel n K F I R C A lk U S) (w : Int) {J1 J2 : am_I} (h1 : sc I J1) (h2 : ms (am_u2 J1 2 9 w) J2) {X : Option am_A} {Y : am_K → am_F → am_I → Option (Int × am_I)} (hx : X = some (-1, n, K, am_u2 J1 2 9 w, F, 0, 0)) (hy : Y K F (am_u2 J1 2 9 w) = some (-1, am_u2 J2 85 15 w)) : eqA (fun n' K' F' J' c z => rel n' K' F' J' R C A lk U S ∧ rsm K K' F F' c z) X Y :=
  eqA_mk hx hy ⟨h.sc (((h1.st2 w).trans h2.sc).st85 w), rsm.rfl'⟩ (by rw [am_u2_s, am_u2_a (by decide), h2 2 9 (by decide) (by decide) (Or.inl (by decide)), am_u2_s])
theorem c_pitAt (hc : cw K F) (hg : cg I R C A lk) (hx : 0 ≤ x ∧ x < R) (hy : 0 ≤ y ∧ y < C) : X1_pitAt N K F I 3 x y = some (x * C + y) := by
  obtain ⟨a1, a2, a3, a4⟩ := gm_in hg.1 hx hy
  have hA := hg.A
  unfold X1_pitAt
  rw [hg.2.1.2.1, if_pos (nb_in (by omega)), if_pos (nb_in (by omega))]
theorem e_move (h : rel n K F I R C A lk U S) (hN : 2000000 < N) : eqA (fun n' K' F' J' c z => rel n' K' F' J' R C A lk U S ∧ rsm K K' F F' c z) (X11_move N 2 n K I F x y) (fun K' F' J => X12_move N K' F' 85 J x y) := by
  have hc := h.a.c
  have hm := h.a.m
  have hg := h.g.m.g
  have hA := hg.A
  have ha := h.h.a
  have a0 := h.h.a0
  have b0 := h.h.b0
  have b1 := h.h.b1
  have w1 := h.p.w1
  by_cases hw : gm_why R C lk x y = 0
  · obtain ⟨hx, hy, hl⟩ := gm_why_0 hw
    obtain ⟨p0, p1, c0, c1⟩ := gm_in hg hx hy
    have hpa := c_pitAt (N := N) hc h.g.c hx hy
    generalize hp : x * C + y = p at *
    by_cases hm0 : I 85 37 = 1000
    · refine eA_no h 10 sc.rfl ms.rfl ?_ (m_move_10 hm (h.sc (sc.rfl.st2 10)).g hw (by rw [am_u2_a (by decide)]; exact hm0))
      unfold X11_move
      rw [c_why hc h.g.c, hw, am_cq_s, if_pos rfl, cwF_2_5 hc, cwK_59 hc, if_pos (show ((4, 0) : Nat × Int).1 = 4 from rfl), ha, if_pos (by omega), c_ref, am_cl_s]
    · obtain ⟨J1, e1, e2, e3, e4⟩ := c_survey (N := N) hc h.g.c hN h.u.c h.u.gm.1 (Or.inl rfl) h.p.w1 h.st17 h.zb17
      obtain ⟨o1, o2, o3⟩ := e3 p p0 p1
      have heq := h.eq17
      have hal : gm_al A C lk U (I 17) (I 85 5) p = gm_al A C lk U (I 87) (I 85 5) p := heq.al hg h.st17 p0 p1
      have hfc : gm_fc A C lk U (I 17) (I 85 5) p = gm_fc A C lk U (I 87) (I 85 5) p := heq.fc hg h.st17 p0 p1
      have h1 := h.sc e2.sc
      have r87 : J1 87 = I 87 := e2.row (by decide)
      have r85 : J1 85 = I 85 := e2.row (by decide)
      have fcv := gm_fc_v A C lk U (I 87) (I 85 5) p
      have e0 : X11_move N 2 n K I F x y = am_cq (X10_isLong N K F J1 19 p) (fun v_9 => if v_9 = 0 then (if (K (F 19 0)).1 = 101 then if (0 : Int) ≤ p ∧ p < (K (F 19 0)).2 then if (J1 (F 19 0) p) = 0 then (am_cl (X11_refuse N K F 2 J1 5) (fun v_26 I_27 => some (v_26, n, K, I_27, F, 0, 0))) else (am_ca (X11_makeMove N 2 n K J1 F p) (fun _ n_12 K_13 I_14 F_15 c_16 z_17 => am_mo (0 + c_16) (0 + z_17) (if (K_13 2).1 = 11 then if (K_13 (F_15 2 3)).1 = 10 then if (K_13 (F_15 (F_15 2 3) 1)).1 = 100 then if (0 : Int) ≤ p ∧ p < (K_13 (F_15 (F_15 2 3) 1)).2 then am_cl (X11_accept N K_13 F_15 2 I_14 (I_14 (F_15 (F_15 2 3) 1) p)) (fun v_24 I_25 => some (v_24, n_12, K_13, I_25, F_15, (0 + c_16), (0 + z_17))) else none else none else none else none))) else none else none) else (am_cl (X11_refuse N K F 2 J1 6) (fun v_28 I_29 => some (v_28, n, K, I_29, F, 0, 0)))) := by
        unfold X11_move
        rw [c_why hc h.g.c, hw, am_cq_s, if_pos rfl, cwF_2_5 hc, cwK_59 hc, if_pos (show ((4, 0) : Nat × Int).1 = 4 from rfl), ha, if_neg (by omega), cwF_2_0 hc, cwK_3 hc, if_pos (show ((1, 0) : Nat × Int).1 = 1 from rfl), hpa, am_cq_s, cwF_2_2 hc, cwK_16 hc, if_pos (show ((6, 0) : Nat × Int).1 = 6 from rfl), cwF_2_3 hc, cwK_19 hc, if_pos (show ((10, 0) : Nat × Int).1 = 10 from rfl), cwF_16_0 hc, h.p.w, e1, am_cl_s]
      have eL : X10_isLong N K F J1 19 p = some (if gm_fc A C lk U (I 87) (I 85 5) p = -1 then 1 else 0) := by
        have hfd : J1 55 p = -1 ↔ gm_fc A C lk U (I 87) (I 85 5) p = -1 := by
          rw [o2]
          unfold gm_fd
          rw [hfc]
          split <;> omega
        unfold X10_isLong X10_isLong_b15
        rw [cwF_19_4 hc, cwK_55 hc, if_pos (show ((100, 32) : Nat × Int).1 = 100 from rfl), if_pos (show (0 : Int) ≤ p ∧ p < 32 by omega)]
        by_cases q : gm_fc A C lk U (I 87) (I 85 5) p = -1
        · rw [if_pos (hfd.mpr q), if_pos (Or.inr rfl), if_pos q]
        · rw [if_neg (fun w => q (hfd.mp w)), if_pos (Or.inl rfl), if_neg q]
      rw [eL, am_cq_s] at e0
      by_cases q : gm_fc A C lk U (I 87) (I 85 5) p = -1
      · rw [if_pos q, if_neg (by decide), c_ref, am_cl_s] at e0
        have h2 := h.sc (e2.sc.st2 6)
        obtain ⟨J2, f1, f2, -⟩ := m_move_5 (N := N) (x := x) (y := y) (p := p) hm h2.g h2.mR hN hw (by rw [am_u2_a (by decide), r85]; exact hm0) hp
        refine eA_no h 6 e2.sc f1 e0 (f2 ?_)
        rw [am_u2_a (by decide), r85, show am_u2 J1 2 9 6 87 = I 87 from (funext fun j => am_u2_a (by decide)).trans r87]; exact q
      · rw [if_neg q, if_pos rfl, cwF_19_0 hc, cwK_20 hc, if_pos (show ((101, 32) : Nat × Int).1 = 101 from rfl), if_pos (show (0 : Int) ≤ p ∧ p < 32 by omega), o1, hal] at e0
        by_cases q2 : gm_al A C lk U (I 87) (I 85 5) p = 0
        · rw [if_pos q2, c_ref, am_cl_s] at e0
          have h2 := h.sc (e2.sc.st2 5)
          have k87 : am_u2 J1 2 9 5 87 = I 87 := (funext fun j => am_u2_a (by decide)).trans r87
          have k5 : am_u2 J1 2 9 5 85 5 = I 85 5 := by rw [am_u2_a (by decide), r85]
          obtain ⟨J2, f1, -, f2, -⟩ := m_move_5 (N := N) (x := x) (y := y) (p := p) hm h2.g h2.mR hN hw (by rw [am_u2_a (by decide), r85]; exact hm0) hp
          rw [k87, k5] at f2
          exact eA_no h 5 e2.sc f1 e0 (f2 q q2)
        · rw [if_neg q2] at e0
          have hpos := gm_al_pos q2
          obtain ⟨m1, m2, m3, m4⟩ := gm_fc_pos hpos
          obtain ⟨g1, g2, g3⟩ := o3 (by rw [hfc]; exact hpos)
          obtain ⟨v1, v2⟩ := heq.mv hg (kd := U 6) (mr := U 7) (lo := U 8) (hi := U 9) h.st17 p0 p1 m2 m1
          obtain ⟨mst, mle, -⟩ := gm_mv_st hg (kd := U 6) (mr := U 7) (lo := U 8) (hi := U 9) h.p.s p0 p1 m2 m1
          have mtn := gm_tot_nn mst.1
          have hstb := h.store w1
          have tot17 := heq.tot
          have vt := v1.tot
          generalize hmv : gm_mv A C lk (U 6) (U 7) (U 8) (U 9) (I 87) (I 85 5) p = mv at *
          have r5 : J1 85 5 = I 85 5 := by rw [r85]
          have r37 : J1 85 37 = I 85 37 := by rw [r85]
          have r18 : J1 18 = I 18 := e2.row (by decide)
          obtain ⟨n', K', J, F', c, z, k1, k2⟩ := c_makeMove (N := N) h1 (q := p) (t := gm_tot A (I 87) - gm_tot A mv.1) (mv := mv.1) (by rw [r37]; omega) p0 p1 (fun j j0 j1 => by rw [g1 j j0 j1, v1 j j0 j1]) g2 (by rw [g3, tot17, vt]) (by rw [r5, r18, hstb.1]; exact nb_in (by omega))
          have hc' := k2.a.c
          have hm' := k2.a.m
          have t21 : J 21 p = gm_tot A (I 87) - gm_tot A mv.1 := by rw [k2.tk, g3, tot17, vt]
          have ec : X11_move N 2 n K I F x y = some (gm_tot A (I 87) - gm_tot A mv.1, n', K', am_u2 J 2 9 0, F', 0 + c, 0 + z) := by
            rw [e0, k1, am_ca_s]
            refine am_mo_e ?_ (by omega) (by omega)
            rw [cwK_2 hc', cwF_2_3 hc', cwK_19 hc', cwF_19_1 hc', cwK_21 hc', if_pos (show ((11, 0) : Nat × Int).1 = 11 from rfl), if_pos (show ((10, 0) : Nat × Int).1 = 10 from rfl), if_pos (show ((100, 32) : Nat × Int).1 = 100 from rfl), if_pos (show (0 : Int) ≤ p ∧ p < 32 by omega), t21, c_acc, am_cl_s]
          have jc : ∀ b, b ≠ 2 → am_u2 J 2 9 0 b = J b := fun b q => funext fun j => am_u2_a q
          have j85 : ∀ b, 85 ≤ b → b ≤ 108 → am_u2 J 2 9 0 b = I b := fun b a1 a2 => by rw [jc b (by omega), k2.t.f85 b a1 a2, e2.row (by omega)]
          have hG2 : rG (am_u2 J 2 9 0) R C A lk := h1.g.kept (fun b q => by rw [jc b (by omega), k2.t.f b (mvk_i q)]) (by rw [j85 85 (by decide) (by decide), r85]) (by rw [j85 85 (by decide) (by decide), r85])
          have hR2 : mR (am_u2 J 2 9 0) R C A lk U := h.mR.kept (fun b q => j85 b (by omega) (by omega)) (fun j q => by rw [j85 85 (by decide) (by decide)])
          obtain ⟨J2, f1, -, -, f2⟩ := m_move_5 (N := N) (x := x) (y := y) (p := p) hm' hG2 hR2 hN hw (by rw [j85 85 (by decide) (by decide)]; exact hm0) hp
          rw [j85 87 (by decide) (by decide), j85 85 (by decide) (by decide)] at f2
          have s87 : J2 87 = I 87 := by rw [f1.row (by decide) (by decide) (by decide), j85 87 (by decide) (by decide)]
          have s88 : J2 88 = I 88 := by rw [f1.row (by decide) (by decide) (by decide), j85 88 (by decide) (by decide)]
          have s5 : J2 85 5 = I 85 5 := by rw [f1.fld (by omega), j85 85 (by decide) (by decide)]
          have s37 : J2 85 37 = I 85 37 := by rw [f1.fld (by omega), j85 85 (by decide) (by decide)]
          obtain ⟨J3, d1, d2⟩ := m_moveFrom' (N := N) (p := p) hm' (hR2.sc f1.sc) hN p0 p1 m2 (by rw [s5]; exact m1) (by rw [s37]; omega) (by rw [s88, s5]; omega)
          rw [s87, s5, hmv] at d1 d2
          have d3 := d2.ms f1
          have em : X12_move N K' F' 85 (am_u2 J 2 9 0) x y = some (gm_tot A (I 87) - gm_tot A mv.1, am_u2 J3 85 15 0) := by
            rw [f2 q2, d1, am_cl_s, m_okk, am_cl_s]; rfl
          refine eqA_mk ec em ⟨?_, ?_⟩ ?_
          · exact h1.moved (q := p) (t := gm_tot A (I 87) - gm_tot A mv.1) (mv := mv) p0 p1 m2 (by rw [r5]; exact m1) (by rw [r87, r5]; exact hmv.symm) m4 (by rw [r87]) (by rw [r37]; omega) k2 jc d3 (fun b q => funext fun j => am_u2_a q) (fun j q => am_u2_k (by omega))
          · have r := k2.r
            exact ⟨r.l, by have := r.c; omega, by have := r.z; omega⟩
          · rw [am_u2_s, am_u2_a (by decide), d3.f 2 (by decide) (by decide) (by decide) (by decide) (by decide) (by decide), am_u2_s]
  · refine eA_no h (gm_why R C lk x y) sc.rfl ms.rfl ?_ (m_move_n hm (h.sc (sc.rfl.st2 _)).g rfl hw)
    unfold X11_move
    rw [c_why hc h.g.c, am_cq_s, if_neg hw, c_ref, am_cl_s]
end EMOVE
