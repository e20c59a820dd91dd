-- CALLS: play
section PLAY
variable {N n n' : Nat} {K K' : am_K} {F F' : am_F} {I J J' M M' : am_I} {R C A : Int} {lk U : Int → Int} {S x y : Int} {c z : Nat}
theorem cmv_mix {md w q t : Int} {mv : Int → Int} (hA : rA n K F) (h : cmv n n' K K' F F' I J c z A md w q t mv) : cmv n n' K K' F F' (mix I M) (mix J M) c z A md w q t mv := by
  have vB : vok (F 59 3) := (hA.v 1 (by decide)).1
  have vP : vok (F 59 2) := (hA.v 0 (by decide)).1
  have vB' : vok (F' 59 3) := (h.a.v 1 (by decide)).1
  have vP' : vok (F' 59 2) := (h.a.v 0 (by decide)).1
  have nB : ¬ (85 ≤ F 59 3 ∧ F 59 3 ≤ 108) := by unfold vok at vB; omega
  have nP : ¬ (85 ≤ F 59 2 ∧ F 59 2 ≤ 108) := by unfold vok at vP; omega
  have nB' : ¬ (85 ≤ F' 59 3 ∧ F' 59 3 ≤ 108) := by unfold vok at vB'; omega
  have nP' : ¬ (85 ≤ F' 59 2 ∧ F' 59 2 ≤ 108) := by unfold vok at vP'; omega
  have ht := h.t
  refine ⟨h.a, h.F, h.K, ⟨?_, ?_, ?_, ?_, ?_, ?_, ?_, ?_, fun b q => ?_, fun b q1 q2 => ?_⟩, h.k1, h.k2, h.l0, h.l1, h.l2, ?_, ?_, ?_, ?_, fun r hr => ?_, h.nn, h.c2, h.r⟩
  · rw [mix_c (b := 17) (by decide)]; exact ht.p
  · rw [mix_c (b := 17) (by decide)]; exact ht.z
  · rw [mix_c (b := 18) (by decide), mix_c (b := 18) (by decide)]; exact ht.s
  · rw [mix_c (b := 16) (by decide)]; exact ht.w
  · rw [mix_c (b := 59) (by decide)]; exact ht.m
  · rw [mix_c nB', mix_c (b := 17) (by decide)]; exact ht.b
  · rw [mix_c nB', mix_c (b := 18) (by decide)]; exact ht.b2
  · rw [mix_c nB', mix_c nB]; exact ht.b3
  · by_cases w : 85 ≤ b ∧ b ≤ 108
    · rw [mix_m w, mix_m w]
    · rw [mix_c w, mix_c w]; exact ht.f b q
  · rw [mix_m ⟨q1, q2⟩, mix_m ⟨q1, q2⟩]
  · rw [mix_c nP', mix_c nP]; exact h.p
  · rw [mix_c nP']; exact h.q
  · rw [mix_c (b := 59) (by decide)]; exact h.kn
  · rw [mix_c (b := 21) (by decide), mix_c (b := 21) (by decide)]; exact h.tk
  · have o := (hA.mem7 hr).1
    have nr : ¬ (85 ≤ r ∧ r ≤ 108) := by unfold vok at o; omega
    rw [mix_c nr, mix_c nr]; exact h.v7 r hr
theorem mmv_mix {t : Int} {mv : Int → Int} (h : mmv M M' A t mv) : mmv (mix J M) (mix J M') A t mv := by
  refine ⟨fun b a1 a2 a3 a4 a5 a6 => ?_, ?_, ?_, ?_, ?_, ?_, ?_, ?_, ?_⟩
  · by_cases w : 85 ≤ b ∧ b ≤ 108
    · rw [mix_m w, mix_m w]; exact h.f b a1 a2 a3 a4 a5 a6
    · rw [mix_c w, mix_c w]
  · rw [mix_m (b := 85) (by decide), mix_m (b := 85) (by decide)]; exact h.k
  · rw [mix_m (b := 85) (by decide), mix_m (b := 85) (by decide)]; exact h.s
  · rw [mix_m (b := 85) (by decide), mix_m (b := 85) (by decide)]; exact h.m
  · rw [mix_m (b := 85) (by decide)]; exact h.u
  · rw [mix_m (b := 88) (by decide), mix_m (b := 88) (by decide), mix_m (b := 85) (by decide)]; exact h.st
  · rw [mix_m (b := 87) (by decide)]; exact h.p
  · rw [mix_m (b := 87) (by decide), mix_m (b := 87) (by decide)]; exact h.z
  · rw [mix_m (b := 104) (by decide), mix_m (b := 104) (by decide), mix_m (b := 85) (by decide), mix_m (b := 87) (by decide), mix_m (b := 87) (by decide), mix_m (b := 88) (by decide), mix_m (b := 88) (by decide)]; exact h.h
theorem xmopen (h : rel n K F (mix I M) R C A lk U S) (hN : 2000000 < N) : ∃ J, X11_countOpen N K F 2 I = some (gm_sm (gm_al A C lk U (M 87) (M 85 5)) A.toNat, J) ∧ cs I J ∧ (∀ p, 0 ≤ p → p < A → J 20 p = gm_al A C lk U (M 87) (M 85 5) p ∧ (gm_al A C lk U (M 87) (M 85 5) p = 1 → gm_eq A (J (23 + p.toNat)) (gm_mv A C lk (U 6) (U 7) (U 8) (U 9) (M 87) (M 85 5) p).1 ∧ gm_zb A (J (23 + p.toNat)) ∧ J 21 p = gm_tot A (M 87) - gm_tot A (gm_mv A C lk (U 6) (U 7) (U 8) (U 9) (M 87) (M 85 5) p).1)) ∧ J 19 3 = gm_sm (gm_al A C lk U (M 87) (M 85 5)) A.toNat := by
  have hc := h.a.c
  have hg := h.g.m.g
  have hcB := xmg h
  have hA := hg.A
  obtain ⟨x16, w1, x17, x59⟩ := xm5 h
  have hR := xmR h
  have st := hR.2.2.2.2.2.1
  have eq17 : gm_eq A (I 17) (M 87) := fun p a b => x17 p a (by omega)
  have st17 : gm_st A lk (I 17) := eq17.symm.st st
  have zb17 : gm_zb A (I 17) := fun j a b => by
    have := h.p.z j a b
    rw [mix_m (by decide)] at this
    rw [x17 j (by omega) b]; exact this
  obtain ⟨J, e1, e2, e3, e4⟩ := c_survey (N := N) hc hcB.g hN hcB.r hcB.u (Or.inl rfl) w1 st17 zb17
  have eq := eq17.als hg (u := U) st17 (M 85 5)
  rw [eq] at e1 e4
  refine ⟨J, ?_, e2, fun p p0 p1 => ?_, e4⟩
  · unfold X11_countOpen
    rw [cwF_2_2 hc, cwK_16 hc, if_pos (show ((6, 0) : Nat × Int).1 = 6 from rfl), cwF_2_3 hc, cwK_19 hc, if_pos (show ((10, 0) : Nat × Int).1 = 10 from rfl), cwF_16_0 hc, x16, e1, am_cl_s]
  · obtain ⟨o1, -, o3⟩ := e3 p p0 p1
    have al := eq17.al hg (u := U) st17 (who := M 85 5) p0 p1
    refine ⟨by rw [o1, al], fun w => ?_⟩
    have hpos : 0 < gm_fc A C lk U (I 17) (M 85 5) p := gm_al_pos (by rw [al, w]; decide)
    obtain ⟨a1, a2, -, -⟩ := gm_fc_pos hpos
    obtain ⟨g1, g2, g3⟩ := o3 hpos
    have v := (eq17.mv hg (kd := U 6) (mr := U 7) (lo := U 8) (hi := U 9) st17 p0 p1 a2 a1).1
    exact ⟨g1.trans v, g2, by rw [g3, eq17.tot, v.tot]⟩
theorem xmover (h : rel n K F (mix I M) R C A lk U S) (hN : 2000000 < N) (hm' : mw K' F') : ∃ J, X12_over N K' F' 85 M = some (if gm_sm (gm_al A C lk U (M 87) (M 85 5)) A.toNat = 0 then 1 else 0, J) ∧ ms M J := by
  obtain ⟨J, f1, f2, -⟩ := m_allowed_R (N := N) hm' (xmR h) hN
  refine ⟨J, ?_, f2⟩
  unfold X12_over X12_allowed X12_over_b12
  rw [mwF_85_3 hm', mwF_85_35 hm', f1, am_cl_s, am_cl_s]
  by_cases g : gm_sm (gm_al A C lk U (M 87) (M 85 5)) A.toNat = 0
  · rw [if_pos g, if_pos g]
  · rw [if_neg g, if_neg g]
/-- one move of play, on both sides -/
theorem cm_step (h : rel n K F (mix I M) R C A lk U S) (hN : 2000000 < N) (hm' : mw K' F') (hmd : M 85 37 < 1000) (hp : 0 < gm_sm (gm_al A C lk U (M 87) (M 85 5)) A.toNat) :
    ∃ J1 q J2 n1 K1 J3 F1 c z M1 M2 M3 t, X11_countOpen N K F 2 I = some (gm_sm (gm_al A C lk U (M 87) (M 85 5)) A.toNat, J1) ∧ X11_choosePit N K F 2 J1 = some (q, J2) ∧ X11_makeMove N 2 n K J2 F q = some (0, n1, K1, J3, F1, c, z) ∧ X12_over N K' F' 85 M = some (0, M1) ∧ X12_chosen N K' F' 85 M1 = some (q, M2) ∧ X12_moveFrom N K' F' 85 M2 q = some (t, M3) ∧ rel n1 K1 F1 (mix J3 (am_u2 M3 85 17 t)) R C A lk U S ∧
      (∀ b, 85 ≤ b ∧ b ≤ 108 → J3 b = I b) ∧ (∀ b, ¬ (85 ≤ b ∧ b ≤ 108) → M3 b = M b) ∧ (K (F 59 2)).2 ≤ (K1 (F1 59 2)).2 ∧ (c : Int) ≤ 2 * ((K1 (F1 59 2)).2 - (K (F 59 2)).2) ∧ (z : Int) + (pzP K1 F1 + pzV K1 F1 + pzE K1 F1) ≤ pzP K F + pzV K F + pzE K F ∧ K1 2 = K 2 := by
  have hg := h.g.m.g
  have hA := hg.A
  obtain ⟨J1, e1, e2, e3, e4⟩ := xmopen h hN
  obtain ⟨M1, f1, f2⟩ := xmover h hN hm'
  rw [if_neg (by omega)] at f1
  have h1 := xmm (xmc h e2.sc) f2.sc
  have r87 : M1 87 = M 87 := f2.row (by decide) (by decide) (by decide)
  have r5 : M1 85 5 = M 85 5 := f2.fld (by omega)
  have r37 : M1 85 37 = M 85 37 := f2.fld (by omega)
  obtain ⟨q, J2, M2, g1, g2, g3, g4, g5, g6, g7, g8⟩ := cm_choose (I := J1) (M := M1) h1 hN hm' (fun p p0 p1 => by rw [r87, r5]; exact (e3 p p0 p1).1) (fun p p0 p1 w => by rw [r87, r5] at w ⊢; exact ((e3 p p0 p1).2 w).2.2) (by rw [r87, r5]; exact e4) (by rw [r87, r5]; exact hp)
  rw [r87, r5] at g3
  have s87 : M2 87 = M 87 := by rw [g7 87 (by decide) (by decide) (by decide) (by decide) (by decide), r87]
  have s88 : M2 88 = M1 88 := g7 88 (by decide) (by decide) (by decide) (by decide) (by decide)
  have s5 : M2 85 5 = M 85 5 := by rw [g8 5 (by omega), r5]
  have s37 : M2 85 37 = M 85 37 := by rw [g8 37 (by omega), r37]
  obtain ⟨-, o2⟩ := e3 q g2.1 g2.2
  obtain ⟨o3, o4, o5⟩ := o2 g3
  obtain ⟨m1, m2, m3, m4⟩ := gm_fc_pos (gm_al_pos (show gm_al A C lk U (M 87) (M 85 5) q ≠ 0 by rw [g3]; decide))
  have hR2 := xmR g6
  have st := hR2.2.2.2.2.2.1
  rw [s87] at st
  obtain ⟨mst, mle, -⟩ := gm_mv_st hg (kd := U 6) (mr := U 7) (lo := U 8) (hi := U 9) st g2.1 g2.2 m2 m1
  have mtn := gm_tot_nn mst.1
  obtain ⟨x16, w1, x17, x59⟩ := xm5 g6
  rw [s5] at x16 w1
  rw [s37] at x59
  have hst := g6.store (s := M 85 5) w1
  rw [mix_c (b := 18) (by decide), mix_m (b := 88) (by decide), mix_m (b := 87) (by decide), s87] at hst
  have hcH := g6.cH
  have a0 := hcH.m0
  rw [mix_m (b := 85) (by decide), s37] at hcH a0
  have hcH2 : cH n K F J2 (M 85 37) := ⟨hcH.a, x59, hcH.m0, hcH.k1, hcH.k2, hcH.l0, hcH.l1, hcH.l2⟩
  generalize hmv : gm_mv A C lk (U 6) (U 7) (U 8) (U 9) (M 87) (M 85 5) q = mv at *
  have j23 : J2 (23 + q.toNat) = J1 (23 + q.toNat) := g4 _ (by omega) (by omega)
  have j21 : J2 21 = J1 21 := g4 21 (by decide) (by decide)
  obtain ⟨n1, K1, J3, F1, c, z, k1, k2⟩ := c_makeMove0 (N := N) (A := A) (w := M 85 5) (q := q) (t := gm_tot A (M 87) - gm_tot A mv.1) (mv := mv.1) hcH2 hmd hA x16 w1 g2.1 g2.2 (by rw [j23]; exact o3) (by rw [j23]; exact o4) (by rw [j21]; exact o5) (by rw [hst.1]; exact nb_in (by omega))
  obtain ⟨M3, d1, d2⟩ := m_moveFrom' (N := N) (p := q) hm' hR2 hN g2.1 g2.2 m2 (by rw [s5]; exact m1) (by rw [s37]; omega) (by rw [s5]; omega)
  rw [s87, s5, hmv] at d1 d2
  have hfin := g6.moved (q := q) (t := gm_tot A (M 87) - gm_tot A mv.1) (mv := mv) (J := mix J3 M2) (J1 := mix J3 M2) (J' := mix J3 M3) (J2 := mix J3 (am_u2 M3 85 17 (gm_tot A (M 87) - gm_tot A mv.1))) g2.1 g2.2 m2 (by rw [mix_m (b := 85) (by decide), s5]; exact m1) (by rw [mix_m (b := 87) (by decide), mix_m (b := 85) (by decide), s87, s5]; exact hmv.symm) m4 (by rw [mix_m (b := 87) (by decide), s87]) (by rw [mix_m (b := 85) (by decide), s37]; exact hmd) (by rw [mix_m (b := 85) (by decide), s37, s5]; exact cmv_mix h.a k2) (fun _ _ => rfl) (mmv_mix d2) (fun b q => by
    by_cases w : 85 ≤ b ∧ b ≤ 108
    · rw [mix_m w, mix_m w]; funext j; exact am_u2_a q
    · rw [mix_c w, mix_c w]) (fun j q => by rw [mix_m (b := 85) (by decide), mix_m (b := 85) (by decide), am_u2_k (by omega)])
  refine ⟨J1, q, J2, n1, K1, J3, F1, c, z, M1, M2, M3, _, e1, g1, k1, f1, g5, d1, hfin, fun b w => ?_, fun b w => ?_, k2.r.l, k2.c2, k2.r.z, k2.K 2 (by have := h.a.nn; omega)⟩
  · rw [k2.t.f85 b w.1 w.2, g4 b (by omega) (by omega), e2.row (by omega)]
  · rw [d2.f b (by omega) (by omega) (by omega) (by omega) (by omega) (by omega), g7 b (by omega) (by omega) (by omega) (by omega) (by omega), f2.row (by omega) (by omega) (by omega)]
theorem cm_play (hN : 2000000 < N) (hm' : mw K' F') {x1 : Int} (hx1 : x1 ≤ 1000) : ∀ (d f f' n : Nat) (K : am_K) (F : am_F) (I M : am_I) (c z : Nat) (x2 : Int), (x1 - x2).toNat = d → d < f → d < f' → 0 ≤ x2 → rel n K F (mix I M) R C A lk U S →
    ∃ v n1 K1 J F1 c1 z1 M1, X11_play_h20 N 2 f n K I F c z x1 x2 = some (v, n1, K1, am_u2 J 2 9 0, F1, c1, z1) ∧ X12_play_h21 N K' F' 85 f' M x1 x2 = some (v, am_u2 M1 85 15 0) ∧ rel n1 K1 F1 (mix J M1) R C A lk U S ∧ c ≤ c1 ∧ z ≤ z1 ∧ (K (F 59 2)).2 ≤ (K1 (F1 59 2)).2 ∧ (c1 : Int) ≤ c + 2 * ((K1 (F1 59 2)).2 - (K (F 59 2)).2) ∧ (z1 : Int) + (pzP K1 F1 + pzV K1 F1 + pzE K1 F1) ≤ z + (pzP K F + pzV K F + pzE K F) ∧ (∀ b, 85 ≤ b ∧ b ≤ 108 → J b = I b) ∧ (∀ b, ¬ (85 ≤ b ∧ b ≤ 108) → M1 b = M b) := by
  have b59 : ∀ (n : Nat) (K : am_K) (I : am_I) (F : am_F) (c z : Nat) (x2 : Int), cw K F → X11_play_b59 N 2 n K I F c z x2 = some (x2, n, K, am_u2 I 2 9 0, F, c, z) := fun n K I F c z x2 hc => by
    unfold X11_play_b59
    refine am_mo_e ?_ (Nat.le_refl _) (Nat.le_refl _)
    rw [cwK_2 hc, if_pos (show ((11, 0) : Nat × Int).1 = 11 from rfl), c_acc, am_cl_s]
  have b61 : ∀ (M : am_I) (x2 : Int), X12_play_b61 N K' F' 85 M x2 = some (x2, am_u2 M 85 15 0) := fun M x2 => by
    unfold X12_play_b61; rw [m_okk, am_cl_s]
  intro d
  induction d with
  | zero =>
    intro f f' n K F I M c z x2 hd hf hf' x0 h
    obtain ⟨f, rfl⟩ : ∃ g, f = g + 1 := ⟨f - 1, by omega⟩
    obtain ⟨f', rfl⟩ : ∃ g, f' = g + 1 := ⟨f' - 1, by omega⟩
    refine ⟨x2, n, K, I, F, c, z, M, ?_, ?_, h, Nat.le_refl _, Nat.le_refl _, Int.le_refl _, by omega, Int.le_refl _, fun _ _ => rfl, fun _ _ => rfl⟩
    · show X11_play_s20 N 2 (X11_play_h20 N 2 f) n K I F c z x1 x2 = _
      unfold X11_play_s20
      refine am_mo_e ?_ (Nat.le_refl _) (Nat.le_refl _)
      rw [if_neg (by omega), b59 _ _ _ _ _ _ _ h.a.c]
    · show X12_play_s21 N K' F' 85 (X12_play_h21 N K' F' 85 f') M x1 x2 = _
      unfold X12_play_s21
      rw [if_neg (by omega), b61]
  | succ d ih =>
    intro f f' n K F I M c z x2 hd hf hf' x0 h
    obtain ⟨f, rfl⟩ : ∃ g, f = g + 1 := ⟨f - 1, by omega⟩
    obtain ⟨f', rfl⟩ : ∃ g, f' = g + 1 := ⟨f' - 1, by omega⟩
    have hc := h.a.c
    obtain ⟨x16, w1, x17, x59⟩ := xm5 h
    have e0 : X11_play_h20 N 2 (f + 1) n K I F c z x1 x2 = X11_play_s20 N 2 (X11_play_h20 N 2 f) n K I F c z x1 x2 := rfl
    have m0 : X12_play_h21 N K' F' 85 (f' + 1) M x1 x2 = X12_play_s21 N K' F' 85 (X12_play_h21 N K' F' 85 f') M x1 x2 := rfl
    rw [e0, m0]
    by_cases hmd : M 85 37 < 1000
    · by_cases hp : 0 < gm_sm (gm_al A C lk U (M 87) (M 85 5)) A.toNat
      · obtain ⟨J1, q, J2, n1, K1, J3, F1, c2, z2, M1, M2, M3, t, a1, a2, a3, a4, a5, a6, a7, a8, a9, a10, a11, a12, a13⟩ := cm_step h hN hm' hmd hp
        obtain ⟨v, n3, K3, J, F3, c3, z3, M4, i1, i2, i3, i4, i5, i6, i7, i8, i9, i10⟩ := ih f f' n1 K1 F1 J3 (am_u2 M3 85 17 t) (c + c2) (z + z2) (x2 + 1) (by omega) (by omega) (by omega) (by omega) a7
        refine ⟨v, n3, K3, J, F3, c3, z3, M4, ?_, ?_, i3, by omega, by omega, by omega, by omega, by omega, fun b w => by rw [i9 b w, a8 b w], fun b w => by rw [i10 b w, ← a9 b w]; exact funext fun j => am_u2_a (by omega)⟩
        · unfold X11_play_s20
          refine am_mo_e ?_ (by omega) (by omega)
          rw [if_pos (by omega), cwK_2 hc, if_pos (show ((11, 0) : Nat × Int).1 = 11 from rfl), cwF_2_5 hc, cwK_59 hc, if_pos (show ((4, 0) : Nat × Int).1 = 4 from rfl), x59, if_pos hmd, a1, am_cl_s, if_pos hp, a2, am_cl_s, a3, am_ca_s]
          refine am_mo_e ?_ (by omega) (by omega)
          rw [if_pos (nb_in (by omega))]
          exact i1
        · unfold X12_play_s21
          rw [if_pos (by omega), if_pos hmd, a4, am_cl_s, if_pos rfl, a5, am_cl_s, a6, am_cl_s]
          unfold am_lt
          dsimp only
          rw [if_pos (nb_in (by omega))]
          exact i2
      · obtain ⟨J1, e1, e2, -, -⟩ := xmopen h hN
        obtain ⟨M1, f1, f2⟩ := xmover h hN hm'
        have nn := gm_al_nn (A := A) (C := C) (lk := lk) (U := U) (M 87) (M 85 5)
        rw [if_pos (by omega)] at f1
        refine ⟨x2, n, K, J1, F, c, z, M1, ?_, ?_, xmm (xmc h e2.sc) f2.sc, Nat.le_refl _, Nat.le_refl _, Int.le_refl _, by omega, Int.le_refl _, fun b w => e2.row (by omega), fun b w => f2.row (by omega) (by omega) (by omega)⟩
        · unfold X11_play_s20
          refine am_mo_e ?_ (Nat.le_refl _) (Nat.le_refl _)
          rw [if_pos (by omega), cwK_2 hc, if_pos (show ((11, 0) : Nat × Int).1 = 11 from rfl), cwF_2_5 hc, cwK_59 hc, if_pos (show ((4, 0) : Nat × Int).1 = 4 from rfl), x59, if_pos hmd, e1, am_cl_s, if_neg hp, b59 _ _ _ _ _ _ _ hc]
        · unfold X12_play_s21
          rw [if_pos (by omega), if_pos hmd, f1, am_cl_s, if_neg (by decide), b61]
    · refine ⟨x2, n, K, I, F, c, z, M, ?_, ?_, h, Nat.le_refl _, Nat.le_refl _, Int.le_refl _, by omega, Int.le_refl _, fun _ _ => rfl, fun _ _ => rfl⟩
      · unfold X11_play_s20
        refine am_mo_e ?_ (Nat.le_refl _) (Nat.le_refl _)
        rw [if_pos (by omega), cwK_2 hc, if_pos (show ((11, 0) : Nat × Int).1 = 11 from rfl), cwF_2_5 hc, cwK_59 hc, if_pos (show ((4, 0) : Nat × Int).1 = 4 from rfl), x59, if_neg hmd, b59 _ _ _ _ _ _ _ hc]
      · unfold X12_play_s21
        rw [if_pos (by omega), if_neg hmd, b61]
theorem e_play (h : rel n K F I R C A lk U S) (hN : 2000000 < N) : eqA (fun n' K' F' J' c z => rel n' K' F' J' R C A lk U S ∧ rsm K K' F F' c z) (X11_play N 2 n K I F x) (fun K' F' J => X12_play N K' F' 85 J x) := by
  have hc := h.a.c
  by_cases hx : 0 ≤ x ∧ x ≤ 1000
  · obtain ⟨v, n1, K1, J, F1, c1, z1, M0, a1, -, a3, a4, a5, a6, a7, a8, a9, -⟩ := cm_play (N := N) (K' := K) (F' := F) hN h.a.m hx.2 x.toNat N N n K F I I 0 0 0 (by omega) (by omega) (by omega) (by omega) (by rw [mix_id]; exact h)
    have hmx : mix I (am_u2 J 2 9 0) = I := by
      funext b
      by_cases w : 85 ≤ b ∧ b ≤ 108
      · rw [mix_m w, ← a9 b w]; exact funext fun j => am_u2_a (by omega)
      · rw [mix_c w]
    obtain ⟨v', n1', K1', J', F1', c1', z1', M1, b1, b2, b3, -, -, -, -, -, -, b10⟩ := cm_play (N := N) (K' := K1) (F' := F1) hN a3.a.m hx.2 x.toNat N N n K F I (am_u2 J 2 9 0) 0 0 0 (by omega) (by omega) (by omega) (by omega) (by rw [hmx]; exact h)
    have inj := a1.symm.trans b1
    simp only [Option.some.injEq, Prod.mk.injEq] at inj
    obtain ⟨ev, en, eK, eJ, eF, ec, ez⟩ := inj
    subst ev; subst en; subst eK; subst eF
    have hx1 : X11_play N 2 n K I F x = some (v, n1, K1, am_u2 J 2 9 0, F1, c1, z1) := by
      unfold X11_play
      rw [if_pos hx.1, if_neg (by omega), a1]
    have hx2 : X12_play N K1 F1 85 (am_u2 J 2 9 0) x = some (v, am_u2 M1 85 15 0) := by
      unfold X12_play
      rw [m_isIn, am_cq_s, if_pos hx, if_neg (by decide), b2]
    refine eqA_mk hx1 hx2 ⟨b3.sc (fun b j _ _ _ _ _ _ _ _ _ q10 q11 => ?_), a6, by omega, by omega⟩ ?_
    · by_cases w : 85 ≤ b ∧ b ≤ 108
      · rw [mix_m w]
        by_cases e : b = 85
        · subst e; rw [am_u2_k (by omega)]
        · rw [am_u2_a e]
      · rw [mix_c w, am_u2_a (by omega), b10 b w, eJ]
        by_cases e : b = 2
        · subst e; rw [am_u2_k (by omega)]
        · rw [am_u2_a e]
    · rw [am_u2_s, am_u2_a (by decide), b10 2 (by decide), am_u2_s]
  · refine eA_no h 7 sc.rfl ms.rfl ?_ ?_
    · have b11 : X11_play_b11 N 2 n K I F 0 0 = some (-1, n, K, am_u2 I 2 9 7, F, 0, 0) := by
        unfold X11_play_b11
        refine am_mo_e ?_ (Nat.le_refl _) (Nat.le_refl _)
        rw [cwK_2 hc, if_pos (show ((11, 0) : Nat × Int).1 = 11 from rfl), c_ref, am_cl_s]
      unfold X11_play
      by_cases g : 0 ≤ x
      · rw [if_pos g, if_pos (by omega), b11]
      · rw [if_neg g, b11]
    · show X12_play N K F 85 _ x = _
      unfold X12_play
      rw [m_isIn, am_cq_s, if_neg hx, if_pos rfl, m_noo, am_cl_s]
end PLAY
