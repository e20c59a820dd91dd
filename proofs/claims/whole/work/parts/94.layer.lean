-- THE CLASS'S GRAPH: layers
section LAYER
variable {N n : Nat} {K : am_K} {F : am_F} {I J J' : am_I} {R C A : Int} {lk U : Int → Int} {S x y z k p V t : Int}
theorem gG.mono {T T' : Int} (h : gG K F I A C lk U T) (hT : T' ≤ T) : gG K F I A C lk U T' := ⟨h.s0, fun k q => h.s k (by omega), fun k q => h.e k (by omega), fun k a b => h.d k a (by omega)⟩
theorem bf_of (hJ : ∀ b, b ≠ F 63 0 → b ≠ F 63 1 → b ≠ F 63 2 → J b = I b) : bf F I J := fun b j _ _ _ _ _ a6 a7 a8 => by rw [hJ b a6 a7 a8]
theorem cs.gG {T : Int} (h : cB K F I R C A lk U V) (hs : cs I J) (hG : gG K F I A C lk U T) : gG K F J A C lk U T := by
  have f : ∀ {r : Nat}, vok r → J r = I r := fun o => hs.row (by unfold vok at o; omega)
  exact hG.kept (f h.v0) (f h.v1) (f h.v2)
/-- one side of a board -/
theorem c_side1 (h : cB K F I R C A lk U V) (hN : 2000000 < N) (ht : t ≤ 12) (hV : gp_top A lk t ≤ V) {b sd : Int} (hsd : sd = 0 ∨ sd = 1) (b0 : 0 ≤ b) (b1 : 2 * b + sd < gp_top A lk t) (hE : gp_cnt A C lk U (2 * b + sd + 1).toNat ≤ (K (F 63 2)).2) (hq : gm_eq A (I 67) (gm_bd2 A lk b)) (hz : gm_zb A (I 67)) (hG : gG K F I A C lk U (2 * b + sd)) :
    ∃ v J1 J, X10_survey N K F 19 I 67 sd = some (v, J1) ∧ X0_keepSurvey N K F 63 J1 (2 * b + sd) sd = some (0, J) ∧ bf F I J ∧ J 67 = I 67 ∧ gG K F J A C lk U (2 * b + sd + 1) := by
  have hg := h.g.1
  have hA := hg.A
  have hL := h.L
  have k12 : 2 * b + sd < gp_top A lk 12 := by have := gp_top_mono (A := A) (lk := lk) (by omega) ht; omega
  have eb : gp_b A lk (2 * b + sd) = gm_bd2 A lk b := by unfold gp_b; rw [show (2 * b + sd) / 2 = b by omega]
  have e2 : (2 * b + sd) % 2 = sd := by omega
  have bo := gp_b_ok (A := A) (lk := lk) (by omega) (show 0 ≤ 2 * b + sd by omega) k12
  rw [← eb] at hq
  have st := hq.symm.st bo.1
  obtain ⟨J1, f1, f2, f3, -⟩ := c_survey (N := N) h.c h.g hN h.r h.u (Or.inr rfl) hsd st hz
  have r67 : J1 67 = I 67 := f2.row (by decide)
  have h1 := h.bf f2.bf
  have sv : svy A C lk U J1 (2 * b + sd) := by
    refine ⟨by rw [r67]; exact hq, fun p p0 p1 => ?_⟩
    obtain ⟨o1, -, o3⟩ := f3 p p0 p1
    have al : gm_al A C lk U (I 67) sd p = gp_al A C lk U (2 * b + sd) p := by
      rw [hq.al hg st p0 p1]; unfold gp_al; rw [e2]
    refine ⟨by rw [o1, al], fun w => ?_⟩
    have hpos : 0 < gm_fc A C lk U (I 67) sd p := gm_al_pos (by rw [al, w]; decide)
    obtain ⟨a1, a2, -, -⟩ := gm_fc_pos hpos
    obtain ⟨g1, -, g3⟩ := o3 hpos
    have v := (hq.mv hg (kd := U 6) (mr := U 7) (lo := U 8) (hi := U 9) st p0 p1 a2 a1).1
    have em : gp_mv A C lk U (2 * b + sd) p = (gm_mv A C lk (U 6) (U 7) (U 8) (U 9) (gp_b A lk (2 * b + sd)) sd p).1 := by unfold gp_mv; rw [e2]
    refine ⟨by rw [em]; exact g1.trans v, ?_⟩
    rw [g3, hq.tot, v.tot]
    unfold gp_tk
    rw [em]
  obtain ⟨J, g1, g2, g3⟩ := c_keepSurvey (N := N) h1 (by omega) ht hV (k := 2 * b + sd) (by omega) b1 (by rw [← gR.cs (by omega) (by omega)]; exact hE) sv (f2.gG h hG)
  rw [e2] at g1
  exact ⟨_, J1, J, f1, g1, f2.bf.trans (bf_of g3), by rw [g3 67 (h.v0.ne rfl).symm (h.v1.ne rfl).symm (h.v2.ne rfl).symm, r67], g2⟩
theorem c_sides (h : cB K F I R C A lk U V) (hN : 2000000 < N) (ht : t ≤ 12) (hV : gp_top A lk t ≤ V) {b : Int} (b0 : 0 ≤ b) (b1 : 2 * b + 1 < gp_top A lk t) (hE : gp_cnt A C lk U (2 * b + 2).toNat ≤ (K (F 63 2)).2) (hq : gm_eq A (I 67) (gm_bd2 A lk b)) (hz : gm_zb A (I 67)) (hG : gG K F I A C lk U (2 * b)) (k0 : am_I → Int → Option (Int × am_I)) (k36 : am_I → Int → Int → Int → Option (Int × am_I)) (x1 x2 : Int) :
    ∃ J, X0_buildLayer_h57 N K F 63 k0 k36 N I x1 x2 b 0 = k36 J x1 x2 (b + 1) ∧ bf F I J ∧ gG K F J A C lk U (2 * b + 2) := by
  have hc := h.c
  have hA := h.g.1.A
  have hV1 := h.V1
  have hE0 : gp_cnt A C lk U (2 * b + 0 + 1).toNat ≤ (K (F 63 2)).2 := by
    have := gp_cnt_le (A := A) (C := C) (lk := lk) (U := U) (by omega) (a := (2 * b + 0 + 1).toNat) (b := (2 * b + 2).toNat) (by omega)
    omega
  obtain ⟨v, J1, J2, a1, a2, a3, a4, a5⟩ := c_side1 (N := N) h hN ht hV (b := b) (sd := 0) (Or.inl rfl) b0 (by omega) hE0 hq hz (by rw [Int.add_zero]; exact hG)
  have h2 := h.bf a3
  obtain ⟨v', J3, J4, c1, c2, c3, c4, c5⟩ := c_side1 (N := N) h2 hN ht hV (b := b) (sd := 1) (Or.inr rfl) b0 b1 (by rw [show 2 * b + 1 + 1 = 2 * b + 2 by omega]; exact hE) (by rw [a4]; exact hq) (by rw [a4]; exact hz) (by rw [show 2 * b + 0 + 1 = 2 * b + 1 by omega] at a5; exact a5)
  rw [show 2 * b + 1 + 1 = 2 * b + 2 by omega] at c5
  refine ⟨J4, ?_, a3.trans c3, c5⟩
  obtain ⟨M, rfl⟩ : ∃ M, N = M + 3 := ⟨N - 3, by omega⟩
  show X0_buildLayer_s57 (M + 3) K F 63 k0 k36 (X0_buildLayer_s57 (M + 3) K F 63 k0 k36 (X0_buildLayer_s57 (M + 3) K F 63 k0 k36 (X0_buildLayer_h57 (M + 3) K F 63 k0 k36 M))) I x1 x2 b 0 = _
  unfold X0_buildLayer_s57 am_lt
  dsimp only
  rw [if_pos (by decide), cwF_63_7 hc, cwK_19 hc, if_pos (show ((10, 0) : Nat × Int).1 = 10 from rfl), cwF_63_4 hc, a1, am_cl_s, if_pos (nb_in (by omega)), if_pos (nb_in (by omega)), a2, am_cl_s, if_pos (nb_in (by omega)), if_pos (by decide), if_pos (show ((10, 0) : Nat × Int).1 = 10 from rfl), show (0 : Int) + 1 = 1 from rfl, c1, am_cl_s, if_pos (nb_in (by omega)), if_pos (nb_in (by omega)), c2, am_cl_s, if_pos (nb_in (by omega)), if_neg (by decide), if_pos (nb_in (by omega))]
theorem c_boards (hN : 2000000 < N) (ht : t ≤ 12) (hV : gp_top A lk t ≤ V) (hE : gp_cnt A C lk U (gp_top A lk t).toNat ≤ (K (F 63 2)).2) {x2 : Int} (hx2 : 2 * x2 ≤ gp_top A lk t) (k0 : am_I → Int → Option (Int × am_I)) (x1 : Int) : ∀ (d f : Nat) (I : am_I) (b : Int), x2 - b = d → d < f → 0 ≤ b → cB K F I R C A lk U V → gG K F I A C lk U (2 * b) → 0 ≤ I 63 3 → I 63 3 ≤ 100 →
    ∃ J, X0_buildLayer_h36 N K F 63 k0 f I x1 x2 b = k0 (am_u2 J 63 3 (I 63 3 + 1)) x1 ∧ bf F I J ∧ gG K F J A C lk U (2 * x2) := by
  intro d
  induction d with
  | zero =>
    intro f I b hd hf b0 h hG l0 l1
    obtain ⟨f, rfl⟩ : ∃ g, f = g + 1 := ⟨f - 1, by omega⟩
    refine ⟨I, ?_, bf.rfl, hG.mono (by omega)⟩
    show X0_buildLayer_s36 N K F 63 k0 (X0_buildLayer_h36 N K F 63 k0 f) I x1 x2 b = _
    unfold X0_buildLayer_s36 am_lt
    dsimp only
    rw [if_neg (by omega), if_pos (nb_in (by omega))]
  | succ d ih =>
    intro f I b hd hf b0 h hG l0 l1
    obtain ⟨f, rfl⟩ : ∃ g, f = g + 1 := ⟨f - 1, by omega⟩
    have hc := h.c
    have hA := h.g.1.A
    have hL := h.L
    have m12 := gp_top_mono (A := A) (lk := lk) (by omega) ht
    have bt : b < gW (gm_L A lk + 1) 12 := by unfold gp_top at m12 hx2; omega
    have fl := c_fill (N := N) hc h.w h.g h.l (by omega) (a1 := 67) (Or.inr rfl) b0 bt
    obtain ⟨s1, s2, s3, s4⟩ := gm_bd2_st (A := A) (lk := lk) (by omega) b0 bt
    generalize hI1 : am_row I 67 (gm_ld 32 (gm_bd2 A lk b) (I 67)) = I1 at fl
    have r67 : ∀ j, 0 ≤ j → j < 32 → I1 67 j = gm_bd2 A lk b j := fun j a c => by rw [← hI1, am_row_s]; unfold gm_ld; rw [if_pos ⟨a, c⟩]
    have ro : ∀ q, q ≠ 67 → I1 q = I q := fun q w => by rw [← hI1]; funext j; exact am_row_n w
    have b01 : bf F I I1 := fun q j _ _ _ _ a5 _ _ _ => by rw [ro q a5]
    have cle := gp_cnt_le (A := A) (C := C) (lk := lk) (U := U) (by omega) (a := (2 * b + 2).toNat) (b := (gp_top A lk t).toNat) (by omega)
    obtain ⟨J, e1, e2, e3⟩ := c_sides (N := N) (h.bf b01) hN ht hV b0 (by omega) (by omega) (fun j a c => r67 j a (by omega)) (fun j a c => by rw [r67 j (by omega) c]; exact s4 j (Or.inr a)) (hG.kept (ro _ (h.v0.ne rfl)) (ro _ (h.v1.ne rfl)) (ro _ (h.v2.ne rfl))) k0 (X0_buildLayer_h36 N K F 63 k0 f) x1 x2
    have hJ := h.bf (b01.trans e2)
    have b02 := b01.trans e2
    have j63 : J 63 3 = I 63 3 := congrFun (b02.row h rfl) 3
    obtain ⟨J', g1, g2, g3⟩ := ih f J (b + 1) (by omega) (by omega) (by omega) hJ (by rw [show 2 * (b + 1) = 2 * b + 2 by omega]; exact e3) (by rw [j63]; exact l0) (by rw [j63]; exact l1)
    rw [j63] at g1
    refine ⟨J', ?_, b02.trans g2, g3⟩
    rw [← g1, ← e1]
    show X0_buildLayer_s36 N K F 63 k0 (X0_buildLayer_h36 N K F 63 k0 f) I x1 x2 b = _
    unfold X0_buildLayer_s36
    rw [if_pos (by omega), cwF_63_8 hc, cwK_56 hc, if_pos (show ((3, 0) : Nat × Int).1 = 3 from rfl), cwF_63_4 hc, fl, am_cl_s]
theorem bf.built {v w : Int} (h : bf F I J) : bf F (am_u2 I 63 3 v) (am_u2 (am_u2 J 63 3 w) 63 3 v) := fun b j a1 a2 a3 a4 a5 a6 a7 a8 => by
  by_cases q : b = 63 ∧ j = 3
  · unfold am_u2; rw [if_pos q, if_pos q]
  · unfold am_u2; rw [if_neg q, if_neg q, if_neg q]; exact h b j a1 a2 a3 a4 a5 a6 a7 a8
theorem c_layers (hN : 2000000 < N) (hx : 0 ≤ x ∧ x ≤ 12) (hV : gp_top A lk x ≤ V) (hE : gp_cnt A C lk U (gp_top A lk x).toNat ≤ (K (F 63 2)).2) : ∀ (d f : Nat) (I : am_I), (x + 1 - I 63 3).toNat = d → d < f → 0 ≤ I 63 3 → I 63 3 ≤ 13 → cB K F I R C A lk U V → gG K F I A C lk U (gp_top A lk (I 63 3 - 1)) →
    ∃ J, X0_buildLayer_h0 N K F 63 f I x = some (0, J) ∧ bf F (am_u2 I 63 3 (if I 63 3 ≤ x then x + 1 else I 63 3)) J ∧ gG K F J A C lk U (gp_top A lk ((if I 63 3 ≤ x then x + 1 else I 63 3) - 1)) := by
  intro d
  induction d with
  | zero =>
    intro f I hd hf l0 l1 h hG
    obtain ⟨f, rfl⟩ : ∃ g, f = g + 1 := ⟨f - 1, by omega⟩
    rw [if_neg (by omega)]
    refine ⟨I, ?_, fun b j _ _ _ _ _ _ _ _ => ?_, hG⟩
    · show X0_buildLayer_s0 N K F 63 (X0_buildLayer_h0 N K F 63 f) I x = _
      unfold X0_buildLayer_s0
      rw [if_neg (by omega)]
    · unfold am_u2
      split
      · rename_i q; rw [q.1, q.2]
      · rfl
  | succ d ih =>
    intro f I hd hf l0 l1 h hG
    obtain ⟨f, rfl⟩ : ∃ g, f = g + 1 := ⟨f - 1, by omega⟩
    have hc := h.c
    have hL := h.L
    have V1 := h.V1
    have le : I 63 3 ≤ x := by omega
    have t1 := gp_top_mono (A := A) (lk := lk) (by omega) le
    have t2 := gp_top_mono (A := A) (lk := lk) (by omega) (show I 63 3 - 1 ≤ I 63 3 by omega)
    have u1 := c_boardsUpTo (N := N) hc h.w h.g (k := I 63 3) (by omega)
    have u2 := c_boardsUpTo (N := N) hc h.w h.g (k := I 63 3 - 1) (by omega)
    have w0 := gW_nn (gm_L A lk + 1) (I 63 3)
    have w1 := gW_nn (gm_L A lk + 1) (I 63 3 - 1)
    have e1 : 2 * gW (gm_L A lk + 1) (I 63 3) = gp_top A lk (I 63 3) := rfl
    have e2 : 2 * gW (gm_L A lk + 1) (I 63 3 - 1) = gp_top A lk (I 63 3 - 1) := rfl
    obtain ⟨J, g1, g2, g3⟩ := c_boards (N := N) (t := x) (V := V) (R := R) hN hx.2 hV hE (x2 := gW (gm_L A lk + 1) (I 63 3)) (by omega) (X0_buildLayer_h0 N K F 63 f) x (gW (gm_L A lk + 1) (I 63 3) - gW (gm_L A lk + 1) (I 63 3 - 1)).toNat N I (gW (gm_L A lk + 1) (I 63 3 - 1)) (by omega) (by omega) w1 h (by rw [e2]; exact hG) l0 (by omega)
    have hJ := h.bf g2
    have k63 : am_u2 J 63 3 (I 63 3 + 1) 63 3 = I 63 3 + 1 := am_u2_s _ _ _ _
    have ro : ∀ b, b ≠ 63 → am_u2 J 63 3 (I 63 3 + 1) b = J b := fun b q => funext fun j => am_u2_a q
    rw [e1] at g3
    obtain ⟨J', f1, f2, f3⟩ := ih f (am_u2 J 63 3 (I 63 3 + 1)) (by rw [k63]; omega) (by omega) (by rw [k63]; omega) (by rw [k63]; omega) (hJ.kept (fun b q => ro b (by omega))) (by rw [k63, show I 63 3 + 1 - 1 = I 63 3 by omega]; exact g3.kept (ro _ (h.v0.ne rfl)) (ro _ (h.v1.ne rfl)) (ro _ (h.v2.ne rfl)))
    have ev : (if I 63 3 + 1 ≤ x then x + 1 else I 63 3 + 1) = x + 1 := by split <;> omega
    rw [k63, ev] at f2 f3
    rw [if_pos le]
    refine ⟨J', ?_, g2.built.trans f2, f3⟩
    rw [← f1, ← g1]
    show X0_buildLayer_s0 N K F 63 (X0_buildLayer_h0 N K F 63 f) I x = _
    unfold X0_buildLayer_s0
    rw [if_pos le, cwF_63_8 hc, cwK_56 hc, if_pos (show ((3, 0) : Nat × Int).1 = 3 from rfl), u1, am_cq_s, if_pos (nb_in (by omega)), if_pos (nb_in (by omega)), u2, am_cq_s, if_pos (nb_in (by omega))]
/-- room for the moves of the layers that were asked for -/
theorem rel.rE (h : rel n K F I R C A lk U S) (q : rQ1 K F I A C lk U) (hx : 0 ≤ x ∧ x ≤ I 85 22) : gp_cnt A C lk U (gp_top A lk x).toNat ≤ (K (F 63 2)).2 := by
  have hL := h.g.n
  have hA := h.g.m.A
  have m := q.m
  have a := gp_cnt_top (lk := lk) (U := U) h.g.m.g (by omega) h.u.u10.1 (n := I 85 22) m
  have t1 := gp_top_mono (A := A) (lk := lk) (by omega) hx.2
  have t0 := gp_top_nn (A := A) (lk := lk) x
  have b := gp_cnt_le (A := A) (C := C) (lk := lk) (U := U) (by omega) (a := (gp_top A lk x).toNat) (b := (gp_top A lk (I 85 22)).toNat) (by omega)
  have := q.rE
  omega
theorem rel.built (h : rel n K F I R C A lk U S) {v : Int} (hb : bf F (am_u2 I 63 3 v) J) (hv : I 63 3 ≤ v ∧ v ≤ 13) (hV : gp_top A lk (v - 1) ≤ (K (F 62 4)).2) (hE : gp_cnt A C lk U (gp_top A lk (v - 1)).toNat ≤ (K (F 63 2)).2) (hG : gG K F J A C lk U (gp_top A lk (v - 1))) : rel n K F J R C A lk U S := by
  have hB := h.cB
  have hB' := hB.kept (J := am_u2 I 63 3 v) (fun b q => funext fun j => am_u2_a (by omega))
  have fx : ∀ b, bfx b = true → b ≠ 63 → J b = I b := fun b q w => by rw [hb.row hB' q]; exact funext fun j => am_u2_a w
  have j63 : J 63 3 = v := by rw [hb.row hB' rfl, am_u2_s]
  have fv : ∀ i (hi : i < 15), i ≠ 6 → i ≠ 7 → i ≠ 8 → J ((vrl F)[i]'hi) = I ((vrl F)[i]'hi) := fun i hi q1 q2 q3 => by
    have o := (h.a.v i hi).1
    have key : ∀ m (hm : m < 15), i ≠ m → (vrl F)[i]'hi ≠ (vrl F)[m]'hm := fun m hm q => by
      rcases Nat.lt_or_gt_of_ne q with w | w
      · exact h.a.ne hi hm w
      · exact (h.a.ne hm hi w).symm
    funext j
    rw [hb _ j (o.ne rfl) (o.ne rfl) (by unfold vok at o; omega) (Or.inl (o.ne rfl)) (o.ne rfl) (key 6 (by decide) q1) (key 7 (by decide) q2) (key 8 (by decide) q3), am_u2_a (o.ne rfl)]
  have nv : ∀ b, (3 ≤ b ∧ b ≤ 14) ∨ b = 57 ∨ b = 86 ∨ b = 89 ∨ b = 90 → bfx b = true := fun b q => by
    unfold bfx nvk
    simp only [Bool.and_eq_true, Bool.or_eq_true, decide_eq_true_eq, bne_iff_ne, ne_eq, beq_iff_eq]
    omega
  have r85 := fx 85 rfl (by decide)
  refine ⟨h.a, h.g.kept (fun b q => fx b (nv b q) (by omega)) (congrFun r85 0) (congrFun r85 1), h.u.kept (fx 15 rfl (by decide)) (fun j _ _ => congrFun r85 j), h.p.kept (fx 17 rfl (by decide)) (fx 18 rfl (by decide)) (congrFun (fx 16 rfl (by decide)) 2) (fx 87 rfl (by decide)) (fx 88 rfl (by decide)) (congrFun r85 5), ?_, ?_, ?_, ?_⟩
  · exact h.h.kept ⟨congrFun (fx 59 rfl (by decide)) 0, congrFun (fx 59 rfl (by decide)) 1⟩ ⟨congrFun r85 37, congrFun r85 38, congrFun r85 5⟩ (fv 0 (by decide) (by decide) (by decide) (by decide)) (fv 1 (by decide) (by decide) (by decide) (by decide)) (fx 104 rfl (by decide)) (fx 87 rfl (by decide)) (fx 88 rfl (by decide))
  · exact h.l.kept (fx 79 rfl (by decide)) (fx 80 rfl (by decide)) (fx 105 rfl (by decide)) ⟨congrFun r85 39, congrFun r85 40, congrFun r85 43⟩
  · exact h.v.kept (fx 83 rfl (by decide)) (fx 84 rfl (by decide)) (fx 107 rfl (by decide)) (fx 108 rfl (by decide))
  · have r62 := fx 62 rfl (by decide)
    have g0 := h.q.g0
    refine ⟨by rw [r62, r85]; exact h.q.b, by rw [r85]; exact h.q.b1, fun w => ?_, by rw [j63]; omega, by rw [j63]; exact hV, by rw [j63]; exact hG, fun w => ?_, by rw [j63]; exact hE⟩
    · rw [r85] at w
      exact (h.q.on w).kept r62 ⟨congrFun r85 22, congrFun r85 23, congrFun r85 24⟩ (fv 2 (by decide) (by decide) (by decide) (by decide)) (fv 3 (by decide) (by decide) (by decide) (by decide)) (fv 4 (by decide) (by decide) (by decide) (by decide)) (fv 5 (by decide) (by decide) (by decide) (by decide)) (fx 93 rfl (by decide)) (fx 94 rfl (by decide)) (fx 95 rfl (by decide)) (fx 96 rfl (by decide))
    · rw [r85] at w ⊢
      have := h.q.gs w
      rw [j63]; omega
theorem c_buildLayer (h : rel n K F I R C A lk U S) (hN : 2000000 < N) (w : I 85 21 ≠ 0) (hx : 0 ≤ x ∧ x ≤ I 85 22) : ∃ J, X0_buildLayer N K F 63 I x = some (0, J) ∧ rel n K F J R C A lk U S ∧ bf F (am_u2 I 63 3 (if I 63 3 ≤ x then x + 1 else I 63 3)) J ∧ J 63 3 = (if I 63 3 ≤ x then x + 1 else I 63 3) := by
  have q := h.on w
  have v := h.V q
  have hL := h.g.n
  have g0 := h.q.g0
  have m := q.m
  have t1 := gp_top_mono (A := A) (lk := lk) (by omega) hx.2
  have hE := h.rE q hx
  obtain ⟨J, e1, e2, e3⟩ := c_layers (N := N) (x := x) (R := R) hN (by omega) (show gp_top A lk x ≤ (K (F 62 4)).2 by omega) hE (x + 1 - I 63 3).toNat N I rfl (by omega) g0.1 g0.2 h.cB h.q.g
  have hB' := h.cB.kept (J := am_u2 I 63 3 (if I 63 3 ≤ x then x + 1 else I 63 3)) (fun b q => funext fun j => am_u2_a (by omega))
  refine ⟨J, e1, ?_, e2, by rw [e2.row hB' rfl, am_u2_s]⟩
  by_cases le : I 63 3 ≤ x
  · rw [if_pos le] at e2 e3
    refine h.built e2 (by omega) ?_ ?_ e3
    · rw [show x + 1 - 1 = x by omega]; omega
    · rw [show x + 1 - 1 = x by omega]; exact hE
  · rw [if_neg le] at e2 e3
    exact h.built e2 (by omega) h.q.g1 h.q.ge e3
end LAYER
