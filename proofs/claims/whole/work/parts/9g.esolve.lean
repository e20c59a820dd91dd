-- CALLS: solve, both sides
/-- the solver's fields as solving begins -/
def bgI (I : am_I) (x T : Int) : am_I := am_u2 (am_u2 (am_u2 (am_u2 (am_u2 I 62 1 1) 62 8 (x + 1)) 62 2 T) 62 9 0) 62 3 0
theorem am_u2_row_b {I : am_I} {a b : Nat} {k v : Int} (h : b ≠ a) : am_u2 I a k v b = I b := funext fun j => am_u2_a h
section ESOLVE
variable {N n n' : Nat} {K K' : am_K} {F F' : am_F} {I J J' : am_I} {R C A : Int} {lk U : Int → Int} {S x y X : Int} {c z : Nat}
theorem bgI_n {T : Int} {b : Nat} (h : b ≠ 62) : bgI I x T b = I b := by
  unfold bgI; funext j; rw [am_u2_a h, am_u2_a h, am_u2_a h, am_u2_a h, am_u2_a h]
theorem bgI_62 {T : Int} : bgI I x T 62 1 = 1 ∧ bgI I x T 62 8 = x + 1 ∧ bgI I x T 62 2 = T ∧ bgI I x T 62 9 = 0 ∧ bgI I x T 62 3 = 0 := ⟨rfl, rfl, rfl, rfl, rfl⟩
theorem c_begin (h : rel n K F I R C A lk U S) (hN : 2000000 < N) (hx : 0 ≤ x ∧ x ≤ 12) (hT : gp_top A lk x ≤ 40000) : ∃ n' K' J F' c z Jm, X9_begin N 62 n K I F x = some (0, n', K', J, F', c, z) ∧ mrf n n' K K' F F' (bgI I x (gp_top A lk x)) Jm ∧ (∀ b, b ≠ F' 62 6 → b ≠ F' 62 7 → J b = Jm b) ∧ (∀ k, 0 ≤ k → k < gp_top A lk x → J (F' 62 6) k = 0 ∧ J (F' 62 7) k = 0) ∧ gp_top A lk x ≤ (K' (F' 62 4)).2 ∧ gm_L A lk * gW (gm_L A lk + 1) (x - 1) ≤ (K' (F' 63 2)).2 ∧ F' 59 = F 59 ∧ c ≤ 13 ∧ (z : Int) + (pzV K' F' + pzE K' F') ≤ pzV K F + pzE K F := by
  have hc := h.a.c
  have hL := h.g.n
  have nn := h.a.nn
  have T2 := gp_top_pos (A := A) (lk := lk) (by omega) hx.1
  have eT : 2 * gW (gm_L A lk + 1) x = gp_top A lk x := rfl
  have nd := gW_need (L := gm_L A lk) (x := x) (by omega) hx (by omega)
  have w0 := gW_nn (gm_L A lk + 1) x
  have w1 := gW_nn (gm_L A lk + 1) (x - 1)
  have wl := gW_le (m := gm_L A lk + 1) (k := x - 1) (by have := h.L; omega) (by omega)
  have wm := gW_mono (m := gm_L A lk + 1) (k := x - 1) (k' := x) (by omega) (by omega)
  have ro : ∀ b, b ≠ 62 → am_u2 (am_u2 I 62 1 1) 62 8 (x + 1) b = I b := fun b q => by funext j; rw [am_u2_a q, am_u2_a q]
  have u1 := c_boardsUpTo (N := N) (I := am_u2 (am_u2 I 62 1 1) 62 8 (x + 1)) (K := K) (F := F) hc (fun m k a b c d => by rw [ro 57 (by decide)]; exact h.g.t m k a b c d) (h.g.c.kept (fun b a1 a2 => ro b (by omega))) (k := x) hx.2
  obtain ⟨n1, K1, J1, F1, c1, z1, e1, m1, e2, e3, e4, e5, e6⟩ := c_roomS (N := N) (I := bgI I x (gp_top A lk x)) h.a (by rw [bgI_62.2.2.1]; omega)
  rw [bgI_62.2.2.1] at e2
  have hc1 := m1.a.c
  have nn1 := m1.nn
  have j1 : ∀ b, b < n → b ≠ 62 → J1 b = I b := fun b q w => by rw [m1.I b q, bgI_n w]
  have cg1 : cg J1 R C A lk := h.g.c.kept (fun b a1 a2 => j1 b (by omega) (by omega))
  have u2 := c_boardsUpTo (N := N) (I := J1) (K := K1) (F := F1) hc1 (fun m k a b c d => by rw [j1 57 (by omega) (by decide)]; exact h.g.t m k a b c d) cg1 (k := x - 1) (by omega)
  have l3 : J1 3 3 = gm_L A lk := cg1.2.1.2.2.2
  obtain ⟨n2, K2, J2, F2, c2, z2, g1, m2, g2, g3, g4, g5, g6⟩ := c_roomM (N := N) (I := J1) m1.a nd
  have m12 := mrf_trans m1 m2
  have hA2 := m2.a
  have v6 : vok (F2 62 6) := (hA2.v 4 (by decide)).1
  have v7 : vok (F2 62 7) := (hA2.v 5 (by decide)).1
  have j2 : J2 62 2 = gp_top A lk x := by rw [m12.I 62 (by omega)]; exact bgI_62.2.2.1
  have V2 : gp_top A lk x ≤ (K2 (F2 62 4)).2 := by rw [g3]; exact e2
  obtain ⟨J3, k1, k2, k3⟩ := c_zero (N := N) (n := n2) (c := 0 + c1 + c2) (z := 0 + z1 + z2) (T := gp_top A lk x) hA2.c hA2.v3 hA2.v4 (v6.ne rfl) (v7.ne rfl) (v6.ne rfl) (v7.ne rfl) (hA2.ne (i := 4) (j := 5) (by decide) (by decide) (by decide)) (by omega) hA2.V1 (I0 := J2) j2 (gp_top A lk x).toNat N J2 0 (by omega) (by omega) (by omega) (fun _ _ _ => rfl) (fun k a b => by omega)
  refine ⟨n2, K2, J3, F2, 0 + c1 + c2, 0 + z1 + z2, J2, ?_, m12, k2, k3, V2, g2, by rw [g4, e4], by omega, ?_⟩
  · have hb : am_u2 (am_u2 (am_u2 (am_u2 (am_u2 I 62 1 1) 62 8 (x + 1)) 62 2 (2 * gW (gm_L A lk + 1) x)) 62 9 0) 62 3 0 = bgI I x (gp_top A lk x) := rfl
    unfold X9_begin am_lt
    dsimp only
    rw [if_pos (nb_in (by omega)), cwF_62_12 hc, cwK_56 hc, if_pos (show ((3, 0) : Nat × Int).1 = 3 from rfl), u1, am_cq_s, if_pos (nb_in (by omega)), if_pos (nb_in (by omega)), hb, e1, am_ca_s]
    refine am_mo_e ?_ (by omega) (by omega)
    rw [cwK_62 hc1, if_pos (show ((9, 0) : Nat × Int).1 = 9 from rfl), cwF_62_11 hc1, cwK_3 hc1, if_pos (show ((1, 0) : Nat × Int).1 = 1 from rfl), if_pos (nb_in (by omega)), cwF_62_12 hc1, cwK_56 hc1, if_pos (show ((3, 0) : Nat × Int).1 = 3 from rfl), u2, am_cq_s, if_pos (nb_in (by omega)), l3, if_pos (nb_in (by omega)), g1, am_ca_s]
    refine am_mo_e ?_ (by omega) (by omega)
    exact k1
  · have p1 : pzE K1 F1 = pzE K F := by unfold pzE; rw [e3]
    have p2 : pzV K2 F2 = pzV K1 F1 := by unfold pzV; rw [g3]
    omega
/-- the relation as solving has begun -/
theorem rel.begun (h : rel n K F I R C A lk U S) (hx : 0 ≤ x ∧ x ≤ 12) (hT : gp_top A lk x ≤ 40000) (hw : 2 * gW (gm_L A lk) x * am_max (gm_Ls A lk 0) (gm_Ls A lk 1) ≤ 200000) {Jm : am_I} (m : mrf n n' K K' F F' (bgI I x (gp_top A lk x)) Jm) (h1 : ∀ b, b ≠ F' 62 6 → b ≠ F' 62 7 → J b = Jm b) (h2 : ∀ k, 0 ≤ k → k < gp_top A lk x → J (F' 62 6) k = 0 ∧ J (F' 62 7) k = 0) (hV : gp_top A lk x ≤ (K' (F' 62 4)).2) (hE : gm_L A lk * gW (gm_L A lk + 1) (x - 1) ≤ (K' (F' 63 2)).2) (h59 : F' 59 = F 59)
    (f : ∀ b, b ≠ 2 → b ≠ 79 → b ≠ 85 → b ≠ 95 → b ≠ 96 → J' b = J b) (f79 : J' 79 0 = 0) (f85 : ∀ j, j ≠ 15 → j ≠ 21 → j ≠ 22 → j ≠ 23 → j ≠ 24 → j ≠ 39 → J' 85 j = I 85 j) (g21 : J' 85 21 = 1) (g22 : J' 85 22 = x) (g23 : J' 85 23 = 0) (g24 : J' 85 24 = 0) (g39 : J' 85 39 = 0) (h3 : ∀ k, 0 ≤ k → k < 40000 → J' 95 k = 0 ∧ J' 96 k = 0) : rel n' K' F' J' R C A lk U S := by
  have nn := h.a.nn
  have hA := h.g.m.A
  have hL := h.g.n
  have v6 : vok (F' 62 6) := (m.a.v 4 (by decide)).1
  have v7 : vok (F' 62 7) := (m.a.v 5 (by decide)).1
  have fx : ∀ b, nvk b = true → b < 109 → b ≠ 2 → b ≠ 62 → b ≠ 79 → b ≠ 85 → b ≠ 95 → b ≠ 96 → J' b = I b := fun b q0 q1 q2 q3 q4 q5 q6 q7 => by
    rw [f b q2 q4 q5 q6 q7, h1 b (v6.ne q0).symm (v7.ne q0).symm, m.I b (by omega), bgI_n q3]
  have f62 : J' 62 = bgI I x (gp_top A lk x) 62 := by rw [f 62 (by decide) (by decide) (by decide) (by decide) (by decide), h1 62 (v6.ne rfl).symm (v7.ne rfl).symm, m.I 62 (by omega)]
  have fv : ∀ r, vok r → r ≠ F' 62 6 → r ≠ F' 62 7 → J' r = Jm r := fun r o q1 q2 => by rw [f r (o.ne rfl) (o.ne rfl) (o.ne rfl) (o.ne rfl) (o.ne rfl), h1 r q1 q2]
  have o0 : vok (F 59 2) ∧ F 59 2 < n := h.a.v 0 (by decide)
  have o1 : vok (F 59 3) ∧ F 59 3 < n := h.a.v 1 (by decide)
  have r2 : J' (F 59 2) = I (F 59 2) := by
    have e : F' 59 2 = F 59 2 := congrFun h59 2
    rw [fv _ o0.1 (by rw [← e]; exact m.a.ne (i := 0) (j := 4) (by decide) (by decide) (by decide)) (by rw [← e]; exact m.a.ne (i := 0) (j := 5) (by decide) (by decide) (by decide)), m.I _ o0.2, bgI_n (o0.1.ne rfl)]
  have r3 : J' (F 59 3) = I (F 59 3) := by
    have e : F' 59 3 = F 59 3 := congrFun h59 3
    rw [fv _ o1.1 (by rw [← e]; exact m.a.ne (i := 1) (j := 4) (by decide) (by decide) (by decide)) (by rw [← e]; exact m.a.ne (i := 1) (j := 5) (by decide) (by decide) (by decide)), m.I _ o1.2, bgI_n (o1.1.ne rfl)]
  have rg0 : J' (F' 63 0) = Jm (F' 63 0) := fv _ (m.a.v 6 (by decide)).1 (m.a.ne (i := 4) (j := 6) (by decide) (by decide) (by decide)).symm (m.a.ne (i := 5) (j := 6) (by decide) (by decide) (by decide)).symm
  have rg1 : J' (F' 63 1) = Jm (F' 63 1) := fv _ (m.a.v 7 (by decide)).1 (m.a.ne (i := 4) (j := 7) (by decide) (by decide) (by decide)).symm (m.a.ne (i := 5) (j := 7) (by decide) (by decide) (by decide)).symm
  have rg2 : J' (F' 63 2) = Jm (F' 63 2) := fv _ (m.a.v 8 (by decide)).1 (m.a.ne (i := 4) (j := 8) (by decide) (by decide) (by decide)).symm (m.a.ne (i := 5) (j := 8) (by decide) (by decide) (by decide)).symm
  have r6 : ∀ k, J' (F' 62 6) k = J (F' 62 6) k := fun k => by rw [f _ (v6.ne rfl) (v6.ne rfl) (v6.ne rfl) (v6.ne rfl) (v6.ne rfl)]
  have r7 : ∀ k, J' (F' 62 7) k = J (F' 62 7) k := fun k => by rw [f _ (v7.ne rfl) (v7.ne rfl) (v7.ne rfl) (v7.ne rfl) (v7.ne rfl)]
  have r63 : J' 63 = I 63 := fx 63 rfl (by decide) (by decide) (by decide) (by decide) (by decide) (by decide) (by decide)
  have z1 : gp_top A lk (0 - 1) = 0 := gp_top_neg _ _ (by decide)
  have kgen : ∀ b, (3 ≤ b ∧ b ≤ 14) ∨ b = 57 ∨ b = 86 ∨ b = 89 ∨ b = 90 → J' b = I b := fun b q => fx b (by unfold nvk; simp only [Bool.or_eq_true, decide_eq_true_eq, beq_iff_eq, Bool.and_eq_true]; omega) (by omega) (by omega) (by omega) (by omega) (by omega) (by omega) (by omega)
  have q := h.q
  refine ⟨m.a, h.g.kept kgen (f85 0 (by decide) (by decide) (by decide) (by decide) (by decide) (by decide)) (f85 1 (by decide) (by decide) (by decide) (by decide) (by decide) (by decide)), h.u.kept (fx 15 rfl (by decide) (by decide) (by decide) (by decide) (by decide) (by decide) (by decide)) (fun j a b => f85 j (by omega) (by omega) (by omega) (by omega) (by omega) (by omega)), h.p.kept (fx 17 rfl (by decide) (by decide) (by decide) (by decide) (by decide) (by decide) (by decide)) (fx 18 rfl (by decide) (by decide) (by decide) (by decide) (by decide) (by decide) (by decide)) (congrFun (fx 16 rfl (by decide) (by decide) (by decide) (by decide) (by decide) (by decide) (by decide)) 2) (fx 87 rfl (by decide) (by decide) (by decide) (by decide) (by decide) (by decide) (by decide)) (fx 88 rfl (by decide) (by decide) (by decide) (by decide) (by decide) (by decide) (by decide)) (f85 5 (by decide) (by decide) (by decide) (by decide) (by decide) (by decide)), ?_, ?_, ?_, ?_⟩
  · refine rH_kf (h.h.kept (J := J') ⟨congrFun (fx 59 rfl (by decide) (by decide) (by decide) (by decide) (by decide) (by decide) (by decide)) 0, congrFun (fx 59 rfl (by decide) (by decide) (by decide) (by decide) (by decide) (by decide) (by decide)) 1⟩ ⟨f85 37 (by decide) (by decide) (by decide) (by decide) (by decide) (by decide), f85 38 (by decide) (by decide) (by decide) (by decide) (by decide) (by decide), f85 5 (by decide) (by decide) (by decide) (by decide) (by decide) (by decide)⟩ r2 r3 (fx 104 rfl (by decide) (by decide) (by decide) (by decide) (by decide) (by decide) (by decide)) (fx 87 rfl (by decide) (by decide) (by decide) (by decide) (by decide) (by decide) (by decide)) (fx 88 rfl (by decide) (by decide) (by decide) (by decide) (by decide) (by decide) (by decide))) h59 (m.K _ o0.2) (m.K _ o1.2)
  · exact ⟨by rw [f79, g39], by rw [g39]; exact Or.inl rfl, fun w => by rw [g39] at w; omega⟩
  · exact h.v.kept (fx 83 rfl (by decide) (by decide) (by decide) (by decide) (by decide) (by decide) (by decide)) (fx 84 rfl (by decide) (by decide) (by decide) (by decide) (by decide) (by decide) (by decide)) (fx 107 rfl (by decide) (by decide) (by decide) (by decide) (by decide) (by decide) (by decide)) (fx 108 rfl (by decide) (by decide) (by decide) (by decide) (by decide) (by decide) (by decide))
  · have hGm : gG K F (bgI I x (gp_top A lk x)) A C lk U (gp_top A lk (I 63 3 - 1)) := q.g.kept (bgI_n ((h.a.v 6 (by decide)).1.ne rfl)) (bgI_n ((h.a.v 7 (by decide)).1.ne rfl)) (bgI_n ((h.a.v 8 (by decide)).1.ne rfl))
    have hG2 := gG_room hGm m (by omega) (gp_top_nn _) q.g1 q.ge
    refine ⟨by rw [f62, g21]; rfl, by rw [g21]; exact Or.inr rfl, fun _ => ⟨by rw [g22]; exact hx, by rw [f62, g22]; rfl, by rw [f62, g23]; rfl, by rw [g22, g23]; omega, by rw [f62, g22]; rfl, by rw [f62, g23, z1]; rfl, by rw [g23, g24, z1], by rw [g22]; exact hV, by rw [g22]; exact hE, by rw [g22]; exact hw, fun k a b => by rw [g23, z1] at b; omega, fun k a b => by rw [g23, z1] at b; omega, fun k a b => ?_⟩, by rw [r63]; exact q.g0, by rw [r63]; exact Int.le_trans q.g1 m.V, by rw [r63]; exact hG2.kept rg0 rg1 rg2, fun _ => by rw [g23, r63]; exact q.g0.1, by rw [r63]; exact Int.le_trans q.ge m.E⟩
    rw [g22] at b
    have c1 := h2 k a b
    have c2 := h3 k a (by omega)
    rw [r6, r7, c1.1, c1.2, c2.1, c2.2]
    exact ⟨rfl, rfl, by decide, by decide⟩
theorem e_solve (h : rel n K F I R C A lk U S) (hN : 2000000 < N) : eqA (fun n' K' F' J' c z => rel n' K' F' J' R C A lk U S ∧ rsm K K' F F' c z) (X11_solve N 2 n K I F x) (fun K' F' J => X12_solve N K' F' 85 J x) := by
  have hc := h.a.c
  have hm := h.a.m
  have hA := h.g.m.A
  have hL := h.L
  have nn := h.a.nn
  have ref : ∀ w, am_mo 0 0 (if (K 2).1 = 11 then am_cl (X11_refuse N K F 2 I w) (fun v_4 I_5 => some (v_4, n, K, I_5, F, 0, 0)) else none) = some (-1, n, K, am_u2 I 2 9 w, F, 0, 0) := fun w => by
    refine am_mo_e ?_ (Nat.le_refl _) (Nat.le_refl _)
    rw [cwK_2 hc, if_pos (show ((11, 0) : Nat × Int).1 = 11 from rfl), c_ref, am_cl_s]
  by_cases hx : 0 ≤ x ∧ x ≤ 12
  · have w0 := gW_nn (gm_L A lk + 1) x
    have wl := gW_le (m := gm_L A lk + 1) (k := x) (by omega) (by omega)
    have y0 := gW_nn (gm_L A lk) x
    have yl := gW_le (m := gm_L A lk) (k := x) (by omega) (by omega)
    have l0 := gm_Ls_b (A := A) (by omega) lk 0
    have l1 := gm_Ls_b (A := A) (by omega) lk 1
    have M0 : 0 ≤ am_max (gm_Ls A lk 0) (gm_Ls A lk 1) ∧ am_max (gm_Ls A lk 0) (gm_Ls A lk 1) ≤ 32 := by rw [am_max_eq]; split <;> omega
    have u1 := c_boardsUpTo (N := N) hc h.g.t h.g.c (k := x) hx.2
    have u2 := c_boardsOf (N := N) hc h.g.t h.g.c (k := x) hx.2
    have e2 : am_wL (2 * gW (gm_L A lk + 1) x) = gp_top A lk x := nb_wL (by omega)
    have pr : 0 ≤ 2 * gW (gm_L A lk) x * am_max (gm_Ls A lk 0) (gm_Ls A lk 1) ∧ 2 * gW (gm_L A lk) x * am_max (gm_Ls A lk 0) (gm_Ls A lk 1) ≤ 2 * 140676848445 * 32 := ⟨Int.mul_nonneg (by omega) M0.1, Int.mul_le_mul (by omega) M0.2 M0.1 (by omega)⟩
    have e3 : am_wL (am_wL (2 * gW (gm_L A lk) x) * am_max (gm_Ls A lk 0) (gm_Ls A lk 1)) = 2 * gW (gm_L A lk) x * am_max (gm_Ls A lk 0) (gm_Ls A lk 1) := by
      rw [nb_wL (x := 2 * gW (gm_L A lk) x) (by omega), nb_wL (by omega)]
    have gs : X1_pitsOfGreaterSide N K F I 3 = some (am_max (gm_Ls A lk 0) (gm_Ls A lk 1)) := by
      unfold X1_pitsOfGreaterSide
      rw [cwF_3_6 hc, cwK_6 hc, if_pos (show ((100, 2) : Nat × Int).1 = 100 from rfl), if_pos (by decide), if_pos (by decide), h.g.c.2.2.2.1.1, h.g.c.2.2.2.1.2]
    have cs0 : X11_solve N 2 n K I F x = if gp_top A lk x ≤ 40000 then (if 200000 < 2 * gW (gm_L A lk) x * am_max (gm_Ls A lk 0) (gm_Ls A lk 1) then (X11_solve_b64 N 2 n K I F 0 0) else (am_ca (X9_begin N 62 n K I F x) (fun _ n_7 K_8 I_9 F_10 c_11 z_12 => am_mo (0 + c_11) (0 + z_12) (if (K_8 2).1 = 11 then if (K_8 (F_10 2 7)).1 = 2 then am_cl (X2_clear N K_8 F_10 (F_10 2 7) I_9) (fun _ I_17 => if (K_8 (F_10 2 6)).1 = 9 then am_cl (X11_accept N K_8 F_10 2 I_17 (I_17 (F_10 2 6) 2)) (fun v_19 I_20 => some (v_19, n_7, K_8, I_20, F_10, (0 + c_11), (0 + z_12))) else none) else none else none)))) else (X11_solve_b64 N 2 n K I F 0 0) := by
      unfold X11_solve
      rw [if_pos hx.1, if_neg (by omega), cwF_2_4 hc, cwK_56 hc, if_pos (show ((3, 0) : Nat × Int).1 = 3 from rfl), u1, am_cq_s, e2, u2, am_cq_s, cwF_2_0 hc, cwK_3 hc, if_pos (show ((1, 0) : Nat × Int).1 = 1 from rfl), gs, am_cq_s, e3, cwF_2_6 hc, cwK_62 hc, if_pos (show ((9, 0) : Nat × Int).1 = 9 from rfl)]
      by_cases q1 : gp_top A lk x ≤ 40000
      · rw [if_pos ((nb_cle _ _).mpr q1), if_pos q1]
        by_cases q2 : 200000 < 2 * gW (gm_L A lk) x * am_max (gm_Ls A lk 0) (gm_Ls A lk 1)
        · rw [if_pos ((nb_cgt _ _).mpr q2), if_pos q2]
        · rw [if_neg (fun w => q2 ((nb_cgt _ _).mp w)), if_neg q2]
      · rw [if_neg (fun w => q1 ((nb_cle _ _).mp w)), if_neg q1]
    have ms0 : ∀ (K' : am_K) (F' : am_F) (J : am_I), mw K' F' → mB K' F' J R C A lk U → X12_solve N K' F' 85 J x = if gp_top A lk x ≤ 40000 then (if 200000 < 2 * gW (gm_L A lk) x * am_max (gm_Ls A lk 0) (gm_Ls A lk 1) then (X12_solve_b65 N K' F' 85 J) else X12_solve_h99 N K' F' 85 N (am_u2 (am_u2 (am_u2 (am_u2 (am_u2 J 85 21 1) 85 39 0) 85 22 x) 85 23 0) 85 24 0) x 0) else (X12_solve_b65 N K' F' 85 J) := fun K' F' J hm' hB => by
      have p1 : X12_placesTo N K' F' J 85 x = some (gp_top A lk x) := by rw [m_placesTo hm' hB.g (by omega) (by omega), hB.l]; rfl
      have t1 := m_there (N := N) hm' hB.g (by omega)
      have s0 := m_sidePits (N := N) hm' hB.g (by omega) 0
      have s1 := m_sidePits (N := N) hm' hB.g (by omega) 1
      rw [hB.l] at t1 s0 s1
      have wy := m_ways (N := N) (K := K') (F := F') (I := J) (k := x) (m := gm_L A lk) (by omega) (by omega) (by omega)
      unfold gm_L at wy
      unfold X12_solve am_lt
      dsimp only
      rw [m_isIn, am_cq_s, if_pos hx, if_neg (by decide), p1, am_cq_s, t1, am_cq_s, wy, am_cq_s, s0, am_cq_s, s1, am_cq_s]
      have e3' : am_wL (am_wL (2 * gW (gm_sm (gm_lv lk) A.toNat) x) * am_max (gm_sm (gm_lvs A lk 0) A.toNat) (gm_sm (gm_lvs A lk 1) A.toNat)) = 2 * gW (gm_L A lk) x * am_max (gm_Ls A lk 0) (gm_Ls A lk 1) := e3
      rw [e3']
      by_cases q1 : gp_top A lk x ≤ 40000
      · rw [if_pos ((nb_cle _ _).mpr q1), if_pos q1]
        by_cases q2 : 200000 < 2 * gW (gm_L A lk) x * am_max (gm_Ls A lk 0) (gm_Ls A lk 1)
        · rw [if_pos ((nb_cgt _ _).mpr q2), if_pos q2]
        · rw [if_neg (fun w => q2 ((nb_cgt _ _).mp w)), if_neg q2]
      · rw [if_neg (fun w => q1 ((nb_cle _ _).mp w)), if_neg q1]
    have b65 : ∀ J, X12_solve_b65 N K F 85 J = some (-1, am_u2 J 85 15 10) := fun J => by unfold X12_solve_b65; rw [m_noo, am_cl_s]
    by_cases q1 : gp_top A lk x ≤ 40000
    · by_cases q2 : 200000 < 2 * gW (gm_L A lk) x * am_max (gm_Ls A lk 0) (gm_Ls A lk 1)
      · refine eA_no h 10 sc.rfl ms.rfl ?_ ?_
        · rw [cs0, if_pos q1, if_pos q2]; exact ref 10
        · show X12_solve N K F 85 _ x = _
          rw [ms0 K F _ hm (h.sc (sc.rfl.st2 10)).mB, if_pos q1, if_pos q2, b65]
      · rw [if_pos q1, if_neg q2] at cs0
        obtain ⟨n', K', J, F', c, z, Jm, a1, a2, a3, a4, a5, a6, a7, a8, a9⟩ := c_begin h hN hx q1
        have hc' := a2.a.c
        have hm' := a2.a.m
        have v6 : vok (F' 62 6) := (a2.a.v 4 (by decide)).1
        have v7 : vok (F' 62 7) := (a2.a.v 5 (by decide)).1
        have jl : ∀ b, nvk b = true → b < 109 → J b = bgI I x (gp_top A lk x) b := fun b w1 w2 => by rw [a3 b (v6.ne w1).symm (v7.ne w1).symm, a2.I b (by omega)]
        generalize hJ2 : am_u2 (am_u2 (am_u2 J 79 0 0) 79 1 0) 79 2 (-1) = J2
        have j2 : ∀ b, b ≠ 79 → J2 b = J b := fun b w => by rw [← hJ2]; funext j; rw [am_u2_a w, am_u2_a w, am_u2_a w]
        have j62 : J2 62 2 = gp_top A lk x := by rw [j2 62 (by decide), jl 62 rfl (by decide)]; exact bgI_62.2.2.1
        have hx1 : X11_solve N 2 n K I F x = some (gp_top A lk x, n', K', am_u2 J2 2 9 0, F', 0 + c, 0 + z) := by
          rw [cs0, a1, am_ca_s]
          refine am_mo_e ?_ (by omega) (by omega)
          unfold X2_clear am_lt
          dsimp only
          rw [cwK_2 hc', if_pos (show ((11, 0) : Nat × Int).1 = 11 from rfl), cwF_2_7 hc', cwK_79 hc', if_pos (show ((2, 0) : Nat × Int).1 = 2 from rfl), am_cl_s, cwF_2_6 hc', cwK_62 hc', if_pos (show ((9, 0) : Nat × Int).1 = 9 from rfl), hJ2, j62, c_acc, am_cl_s]
        have jc : ∀ b, b ≠ 2 → am_u2 J2 2 9 0 b = J2 b := fun b w => funext fun j => am_u2_a w
        have jl2 : ∀ b, nvk b = true → b < 109 → b ≠ 2 → b ≠ 62 → b ≠ 79 → am_u2 J2 2 9 0 b = I b := fun b w1 w2 w3 w4 w5 => by rw [jc b w3, j2 b w5, jl b w1 w2, bgI_n w4]
        have hB' : mB K' F' (am_u2 J2 2 9 0) R C A lk U := (h.mB.kept (fun b w => jl2 b (by unfold nvk; simp only [Bool.or_eq_true, decide_eq_true_eq, beq_iff_eq, Bool.and_eq_true]; omega) (by omega) (by omega) (by omega) (by omega)) (fun j w => by rw [jl2 85 rfl (by decide) (by decide) (by decide) (by decide)])).kf hm'
        generalize hJc : am_u2 J2 2 9 0 = Jc at *
        generalize hJd : am_u2 (am_u2 (am_u2 (am_u2 (am_u2 Jc 85 21 1) 85 39 0) 85 22 x) 85 23 0) 85 24 0 = Jd
        have jd : ∀ b, b ≠ 85 → Jd b = Jc b := fun b w => by rw [← hJd]; funext j; rw [am_u2_a w, am_u2_a w, am_u2_a w, am_u2_a w, am_u2_a w]
        obtain ⟨J3, k1, k2, k3⟩ := m_zero (N := N) (I := Jc) hm' hB' hN hx q1 (J0 := Jd) ⟨jd 86 (by decide), by rw [← hJd]; rfl, by rw [← hJd]; rfl⟩ 40000 N Jd 0 (by omega) (by omega) (by omega) (fun _ _ _ => rfl) (fun k a b => by omega)
        have hx2 : X12_solve N K' F' 85 Jc x = some (gp_top A lk x, am_u2 J3 85 15 0) := by
          rw [ms0 K' F' Jc hm' hB', if_pos q1, if_neg q2, hJd, k1]
        have r85 : Jc 85 = I 85 := jl2 85 rfl (by decide) (by decide) (by decide) (by decide)
        have k59 : K' (F 59 2) = K (F 59 2) := a2.K _ (h.a.v 0 (by decide)).2
        refine eqA_mk hx1 hx2 ⟨h.begun hx q1 (by omega) a2 a3 a4 a5 a6 a7 (fun b w1 w2 w3 w4 w5 => ?_) ?_ (fun j w1 w2 w3 w4 w5 w6 => ?_) ?_ ?_ ?_ ?_ ?_ (fun k w1 w2 => ?_), ?_, ?_, ?_⟩ ?_
        · have : am_u2 J3 85 15 0 b = J3 b := funext fun j => am_u2_a w3
          rw [this, k2 b w4 w5, jd b w3, ← hJc, am_u2_row_b w1, j2 b w2]
        · rw [am_u2_a (by decide), k2 79 (by decide) (by decide), jd 79 (by decide), ← hJc, am_u2_a (by decide), ← hJ2]; rfl
        · rw [am_u2_k w1, k2 85 (by decide) (by decide), ← hJd, am_u2_k w5, am_u2_k w4, am_u2_k w3, am_u2_k w6, am_u2_k w2, r85]
        · rw [am_u2_k (by decide), k2 85 (by decide) (by decide), ← hJd]; rfl
        · rw [am_u2_k (by decide), k2 85 (by decide) (by decide), ← hJd]; rfl
        · rw [am_u2_k (by decide), k2 85 (by decide) (by decide), ← hJd]; rfl
        · rw [am_u2_k (by decide), k2 85 (by decide) (by decide), ← hJd]; rfl
        · rw [am_u2_k (by decide), k2 85 (by decide) (by decide), ← hJd]; rfl
        · rw [am_u2_a (by decide), am_u2_a (by decide)]; exact k3 k w1 w2
        · rw [a7, k59]; exact Int.le_refl _
        · rw [a7, k59]; omega
        · have pp : pzP K' F' = pzP K F := by unfold pzP; rw [a7, k59]
          omega
        · rw [am_u2_s, am_u2_a (by decide), k2 2 (by decide) (by decide), jd 2 (by decide), ← hJc, am_u2_s]
    · refine eA_no h 10 sc.rfl ms.rfl ?_ ?_
      · rw [cs0, if_neg q1]; exact ref 10
      · show X12_solve N K F 85 _ x = _
        rw [ms0 K F _ hm (h.sc (sc.rfl.st2 10)).mB, if_neg q1, b65]
  · refine eA_no h 7 sc.rfl ms.rfl ?_ ?_
    · unfold X11_solve
      by_cases g : 0 ≤ x
      · rw [if_pos g, if_pos (by omega)]; exact ref 7
      · rw [if_neg g]; exact ref 7
    · show X12_solve N K F 85 _ x = _
      unfold X12_solve
      rw [m_isIn, am_cq_s, if_neg hx, if_pos rfl, m_noo, am_cl_s]
end ESOLVE
