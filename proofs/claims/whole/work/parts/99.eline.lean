-- CALLS: line, both sides
section ELINE
variable {N n : Nat} {K : am_K} {F : am_F} {I J J' : am_I} {R C A : Int} {lk U : Int → Int} {S x y z k p V t : Int}
theorem m_ring (hm : mw K F) (k22 : am_I → Option (Int × am_I)) {m : Nat} (hm4 : m ≤ 400) : ∀ (d f : Nat) (J : am_I) (k : Int), (m : Int) - k = d → d < f → 0 ≤ k → J 85 40 = (m : Int) → J 85 43 = -1 →
    ∃ J', X12_follow_h130 N K F 85 k22 f J k = k22 J' ∧ (∀ b, b ≠ 85 → J' b = J b) ∧ (∀ j, j ≠ 43 → J' 85 j = J 85 j) ∧ J' 85 43 = gs_f (fun j => decide (J 106 j = J 106 (m : Int))) d k := by
  intro d
  induction d with
  | zero =>
    intro f J k hd hf k0 h40 h43
    obtain ⟨f, rfl⟩ : ∃ g, f = g + 1 := ⟨f - 1, by omega⟩
    refine ⟨J, ?_, fun _ _ => rfl, fun _ _ => rfl, h43⟩
    show X12_follow_s130 N K F 85 k22 (X12_follow_h130 N K F 85 k22 f) J k = _
    unfold X12_follow_s130 X12_follow_b178
    rw [h40, if_neg (by omega)]
  | succ d ih =>
    intro f J k hd hf k0 h40 h43
    obtain ⟨f, rfl⟩ : ∃ g, f = g + 1 := ⟨f - 1, by omega⟩
    have e0 : X12_follow_h130 N K F 85 k22 (f + 1) J k = X12_follow_s130 N K F 85 k22 (X12_follow_h130 N K F 85 k22 f) J k := rfl
    rw [e0]
    unfold X12_follow_s130 X12_follow_b172 am_lt
    dsimp only
    rw [h40, if_pos (by omega), h43, if_pos rfl, mwF_85_42 hm, mwK_106 hm, if_pos (show ((100, 401) : Nat × Int).1 = 100 from rfl), if_pos (show 0 ≤ k ∧ k < 401 by omega), if_pos (show 0 ≤ (m : Int) ∧ (m : Int) < 401 by omega), if_pos (nb_in (by omega))]
    have gsd : gs_f (fun j => decide (J 106 j = J 106 (m : Int))) (d + 1) k = if decide (J 106 k = J 106 (m : Int)) = true then k else gs_f (fun j => decide (J 106 j = J 106 (m : Int))) d (k + 1) := rfl
    rw [gsd]
    by_cases e : J 106 k = J 106 (m : Int)
    · rw [if_pos e, decide_eq_true e, if_pos rfl]
      obtain ⟨f, rfl⟩ : ∃ g, f = g + 1 := ⟨f - 1, by omega⟩
      refine ⟨am_u2 J 85 43 k, ?_, fun b q => funext fun j => am_u2_a q, fun j q => am_u2_k q, am_u2_s _ _ _ _⟩
      show X12_follow_s130 N K F 85 k22 (X12_follow_h130 N K F 85 k22 f) (am_u2 J 85 43 k) (k + 1) = _
      unfold X12_follow_s130 X12_follow_b178
      rw [am_u2_s, if_neg (show ¬ k = -1 by omega), ite_self]
    · rw [if_neg e, if_pos (nb_in (by omega)), decide_eq_false e, if_neg (show ¬ (false = true) by decide)]
      exact ih f J (k + 1) (by omega) (by omega) (by omega) h40 h43
theorem m_follow_l (hB : mB K F I R C A lk U) (hN : 2000000 < N) {T : Int} (hT : T ≤ 12) (hV : gp_top A lk T ≤ 40000) (hb : ∀ j, 0 ≤ j → j < gp_top A lk T → -1000 ≤ I 93 j ∧ I 93 j ≤ 1000) : ∀ (d f i : Nat) (J : am_I), 400 - i = d → d < f → i ≤ 400 → (∀ b, b ≠ 105 → b ≠ 106 → b ≠ 85 → b ≠ 91 → b ≠ 92 → b ≠ 103 → J b = I b) → (∀ j, (j < 17 ∨ 19 < j) → j ≠ 39 → j ≠ 40 → j ≠ 43 → J 85 j = I 85 j) → J 85 39 = 1 → J 85 40 = (i : Int) → J 85 43 = -1 → (∀ j : Nat, j ≤ i → J 106 (j : Int) = gl_w A C lk U (I 93) (I 94) x j) → (∀ j : Nat, j < i → J 105 (j : Int) = gp_bst A C lk U (I 93) (I 94) (gl_w A C lk U (I 93) (I 94) x j)) → 0 ≤ gl_w A C lk U (I 93) (I 94) x i → gl_w A C lk U (I 93) (I 94) x i < gp_top A lk T →
    ∃ J', X12_follow_h22 N K F 85 f J = some (((gl_run (gp_bst A C lk U (I 93) (I 94)) (gl_w A C lk U (I 93) (I 94) x) d i).1 : Int), J') ∧ (∀ b, b ≠ 105 → b ≠ 106 → b ≠ 85 → b ≠ 91 → b ≠ 92 → b ≠ 103 → J' b = I b) ∧ (∀ j, (j < 17 ∨ 19 < j) → j ≠ 39 → j ≠ 40 → j ≠ 43 → J' 85 j = I 85 j) ∧ J' 85 39 = 1 ∧ J' 85 40 = ((gl_run (gp_bst A C lk U (I 93) (I 94)) (gl_w A C lk U (I 93) (I 94) x) d i).1 : Int) ∧ J' 85 43 = (gl_run (gp_bst A C lk U (I 93) (I 94)) (gl_w A C lk U (I 93) (I 94) x) d i).2 ∧ (∀ j : Nat, j < (gl_run (gp_bst A C lk U (I 93) (I 94)) (gl_w A C lk U (I 93) (I 94) x) d i).1 → J' 105 (j : Int) = gp_bst A C lk U (I 93) (I 94) (gl_w A C lk U (I 93) (I 94) x j)) := by
  have hm := hB.m
  have hA := hB.g.A
  have hL := hB.L
  generalize hw : gl_w A C lk U (I 93) (I 94) x = W
  have ws : ∀ i, W (i + 1) = gp_to A C lk U (W i) (gp_bst A C lk U (I 93) (I 94) (W i)) := fun i => by rw [← hw]; rfl
  have wok : ∀ i, 0 ≤ W i → W i < gp_top A lk T → ¬ gp_bst A C lk U (I 93) (I 94) (W i) < 0 → 0 ≤ W (i + 1) ∧ W (i + 1) < gp_top A lk T := fun i a b c => by
    rw [← hw] at *; exact gl_w_ok hB.g.g (by omega) hT a b c
  have t12 := gp_top_mono (A := A) (lk := lk) (by omega) hT
  intro d
  induction d with
  | zero =>
    intro f i J hd hf hi hJ hk h39 h40 h43 h6 h5 w0 w1
    obtain ⟨f, rfl⟩ : ∃ g, f = g + 1 := ⟨f - 1, by omega⟩
    refine ⟨J, ?_, hJ, hk, h39, h40, h43, h5⟩
    show X12_follow_s22 N K F 85 (X12_follow_h22 N K F 85 f) J = _
    unfold X12_follow_s22 X12_follow_b181
    rw [h40, if_neg (by omega)]; rfl
  | succ d ih =>
    intro f i J hd hf hi hJ hk h39 h40 h43 h6 h5 w0 w1
    obtain ⟨f, rfl⟩ : ∃ g, f = g + 1 := ⟨f - 1, by omega⟩
    have r93 : J 93 = I 93 := hJ 93 (by decide) (by decide) (by decide) (by decide) (by decide) (by decide)
    have r94 : J 94 = I 94 := hJ 94 (by decide) (by decide) (by decide) (by decide) (by decide) (by decide)
    have hBJ : mB K F J R C A lk U := hB.kept (fun b q => hJ b (by omega) (by omega) (by omega) (by omega) (by omega) (by omega)) (fun j q => hk j (by omega) (by omega) (by omega) (by omega))
    obtain ⟨J1, b1, b2, b3⟩ := m_bestOf hBJ hN (t := T) w0 w1 hT hV (by rw [r93]; exact hb)
    rw [r93, r94] at b1
    have bv := gp_bst_v (A := A) (C := C) (lk := lk) (U := U) (v := I 93) (r := I 94) (k := W i) (by omega)
    have wn := wok i w0 w1
    have wsi := ws i
    have rn : gl_run (gp_bst A C lk U (I 93) (I 94)) W (d + 1) i = if gp_bst A C lk U (I 93) (I 94) (W i) < 0 then (i, -1) else if 0 ≤ gl_ix W (i + 1) then (i + 1, gl_ix W (i + 1)) else gl_run (gp_bst A C lk U (I 93) (I 94)) W d (i + 1) := rfl
    rw [rn]
    generalize hbt : gp_bst A C lk U (I 93) (I 94) (W i) = B at *
    have e0 : X12_follow_h22 N K F 85 (f + 1) J = X12_follow_s22 N K F 85 (X12_follow_h22 N K F 85 f) J := rfl
    have hWi := h6 i (Nat.le_refl _)
    have f1 : ∀ b, b ≠ 105 → b ≠ 106 → b ≠ 85 → b ≠ 91 → b ≠ 92 → b ≠ 103 → J1 b = I b := fun b a1 a2 a3 a4 a5 a6 => by rw [b2 b a5 a4 a6 a3, hJ b a1 a2 a3 a4 a5 a6]
    have k1 : ∀ j, (j < 17 ∨ 19 < j) → J1 85 j = J 85 j := b3
    by_cases hBn : B < 0
    · have eB : B = -1 := by rcases bv with ⟨a, -⟩ | ⟨a, -⟩ <;> omega
      rw [if_pos hBn]
      refine ⟨J1, ?_, f1, fun j q1 q2 q3 q4 => by rw [k1 j q1]; exact hk j q1 q2 q3 q4, by rw [k1 39 (by omega)]; exact h39, by rw [k1 40 (by omega)]; exact h40, by rw [k1 43 (by omega)]; exact h43, fun j hj => by rw [b2 105 (by decide) (by decide) (by decide) (by decide)]; exact h5 j hj⟩
      rw [e0]
      unfold X12_follow_s22 am_lt
      dsimp only
      rw [h40, if_pos (by omega), h43, if_pos rfl, mwF_85_42 hm, mwK_106 hm, if_pos (show ((100, 401) : Nat × Int).1 = 100 from rfl), if_pos (show 0 ≤ (i : Int) ∧ (i : Int) < 401 by omega), hWi, b1, am_cl_s, eB, if_pos rfl, k1 40 (by omega), h40]
    · obtain ⟨c1, c2, c3⟩ : 0 ≤ B ∧ B < A ∧ gp_al A C lk U (W i) B = 1 := by
        rcases bv with ⟨a, -⟩ | a
        · omega
        · exact a
      obtain ⟨wn0, wn1⟩ := wn hBn
      rw [if_neg hBn]
      have hB1 : mB K F J1 R C A lk U := hBJ.kept (fun b q => b2 b (by omega) (by omega) (by omega) (by omega)) (fun j q => b3 j (by omega))
      obtain ⟨J2, l1, l2, l3⟩ := m_lay (N := N) hB1 (by omega) w0 (show W i < gp_top A lk 12 by omega)
      obtain ⟨J3, g1, g2, g3, g4, g5⟩ := l2.make hN ms.rfl c1 c2 c3
      have k3 : ∀ j, (j < 17 ∨ 19 < j) → J3 85 j = J 85 j := fun j q => by rw [g2.fld q, l3 85 (by decide), k1 j q]
      have f3 : ∀ b, b ≠ 85 → b ≠ 91 → b ≠ 92 → b ≠ 103 → J3 b = J b := fun b a3 a4 a5 a6 => by rw [g2.row a4 a6 a3, l3 b a5, b2 b a5 a4 a6 a3]
      generalize hJ4 : am_u2 (am_u2 J3 105 (i : Int) B) 85 40 ((i : Int) + 1) = J4
      have s4 : ms J2 (am_u2 J3 85 17 (J3 85 17)) := by
        have : am_u2 J3 85 17 (J3 85 17) = J3 := by
          funext b j; unfold am_u2; split
          · rename_i q; rw [q.1, q.2]
          · rfl
        rw [this]; exact g2
      have j4f : ∀ b, b ≠ 85 → b ≠ 105 → J4 b = J3 b := fun b a1 a2 => by rw [← hJ4]; funext j; rw [am_u2_a a1, am_u2_a a2]
      have j4k : ∀ j, j ≠ 40 → J4 85 j = J3 85 j := fun j q => by rw [← hJ4, am_u2_k q, am_u2_a (by decide)]
      have j40 : J4 85 40 = ((i + 1 : Nat) : Int) := by rw [← hJ4, am_u2_s]; omega
      have pl : X12_placeOf N K F J4 85 91 (1 - W i % 2) = some (W (i + 1)) := by
        have m := gp_move hB.g.g (U := U) w0 (show W i < gp_top A lk 12 by omega) c1 c2 c3
        have lb := gp_ly_b (A := A) (lk := lk) (by omega) w0 (show W i < gp_top A lk 12 by omega)
        have t0 := m.t0
        have tt := m.tot
        have b3' := l2.b.sm g2
        have hG4 : mg J4 R C A := b3'.g.kept (j4k 0 (by decide)) (j4k 1 (by decide))
        have r91 : J4 91 = J3 91 := j4f 91 (by decide) (by decide)
        have r86 : J4 86 = lk := by rw [j4f 86 (by decide) (by decide)]; exact b3'.l
        rw [m_placeOf (N := N) hm hG4 (by omega) (mwK_91 hm) (by rw [r86, r91]; exact g4.symm.st m.s) (by rw [r91, g4.tot]; omega) (by omega), r86, r91, g4.nu, wsi]
        rfl
      generalize hJ5 : am_u2 J4 106 ((i : Int) + 1) (W (i + 1)) = J5
      have e1 : X12_follow_h22 N K F 85 (f + 1) J = X12_follow_h130 N K F 85 (X12_follow_h22 N K F 85 f) N J5 0 := by
        rw [e0]
        unfold X12_follow_s22 am_lt
        dsimp only
        have r40 : J3 85 40 = (i : Int) := by rw [k3 40 (by omega)]; exact h40
        have r40' : am_u2 J3 105 (i : Int) B 85 40 = (i : Int) := by rw [am_u2_a (by decide)]; exact r40
        have r40'' : J4 85 40 = (i : Int) + 1 := by rw [← hJ4, am_u2_s]
        rw [h40, if_pos (by omega), h43, if_pos rfl, mwF_85_42 hm, mwK_106 hm, if_pos (show ((100, 401) : Nat × Int).1 = 100 from rfl), if_pos (show 0 ≤ (i : Int) ∧ (i : Int) < 401 by omega), hWi, b1, am_cl_s, if_neg (by omega), l1, am_cl_s, mwF_85_20 hm, g1, am_cl_s, mwF_85_41 hm, mwK_105 hm, if_pos (show ((100, 400) : Nat × Int).1 = 100 from rfl), if_pos (by decide), r40, if_pos (show 0 ≤ (i : Int) ∧ (i : Int) < 400 by omega), r40', if_pos (nb_in (by omega)), hJ4, if_pos (nb_in (by omega)), mwF_85_16 hm, pl, am_cq_s, if_pos (nb_in (by omega)), if_pos (by decide), r40'', if_pos (show 0 ≤ (i : Int) + 1 ∧ (i : Int) + 1 < 401 by omega), hJ5]
      have j5f : ∀ b, b ≠ 106 → J5 b = J4 b := fun b q => by rw [← hJ5]; funext j; exact am_u2_a q
      have j5k : ∀ j, (j < 17 ∨ 19 < j) → j ≠ 40 → J5 85 j = J 85 j := fun j q1 q2 => by rw [j5f 85 (by decide), j4k j q2, k3 j q1]
      have j540 : J5 85 40 = ((i + 1 : Nat) : Int) := by rw [j5f 85 (by decide)]; exact j40
      have j6 : ∀ j : Nat, j ≤ i + 1 → J5 106 (j : Int) = W j := fun j hj => by
        rw [← hJ5]
        by_cases e : j = i + 1
        · rw [e, show ((i + 1 : Nat) : Int) = (i : Int) + 1 by omega, am_u2_s]
        · rw [am_u2_k (by omega), j4f 106 (by decide) (by decide), f3 106 (by decide) (by decide) (by decide) (by decide)]; exact h6 j (by omega)
      have j5 : ∀ j : Nat, j < i + 1 → J5 105 (j : Int) = gp_bst A C lk U (I 93) (I 94) (W j) := fun j hj => by
        rw [j5f 105 (by decide), ← hJ4, am_u2_a (by decide)]
        by_cases e : j = i
        · rw [e, am_u2_s, hbt]
        · rw [am_u2_k (by omega), f3 105 (by decide) (by decide) (by decide) (by decide)]; exact h5 j (by omega)
      obtain ⟨J6, r1, r2, r3, r4⟩ := m_ring (N := N) hm (X12_follow_h22 N K F 85 f) (m := i + 1) (by omega) (i + 1) N J5 0 (by omega) (by omega) (by omega) j540 (by rw [j5k 43 (by omega) (by decide)]; exact h43)
      have ixe : gs_f (fun j => decide (J5 106 j = J5 106 ((i + 1 : Nat) : Int))) (i + 1) 0 = gl_ix W (i + 1) := by
        unfold gl_ix
        refine gs_f_congr _ _ (fun j a b => ?_)
        have e := j6 j.toNat (by omega)
        rw [show ((j.toNat : Nat) : Int) = j by omega] at e
        rw [e, j6 (i + 1) (Nat.le_refl _)]
      rw [ixe] at r4
      have f6 : ∀ b, b ≠ 105 → b ≠ 106 → b ≠ 85 → b ≠ 91 → b ≠ 92 → b ≠ 103 → J6 b = I b := fun b a1 a2 a3 a4 a5 a6 => by rw [r2 b a3, j5f b a2, j4f b a3 a1, f3 b a3 a4 a5 a6, hJ b a1 a2 a3 a4 a5 a6]
      have k6 : ∀ j, (j < 17 ∨ 19 < j) → j ≠ 39 → j ≠ 40 → j ≠ 43 → J6 85 j = I 85 j := fun j q1 q2 q3 q4 => by rw [r3 j q4, j5k j q1 q3, hk j q1 q2 q3 q4]
      have k39 : J6 85 39 = 1 := by rw [r3 39 (by decide), j5k 39 (by omega) (by decide)]; exact h39
      have k40 : J6 85 40 = ((i + 1 : Nat) : Int) := by rw [r3 40 (by decide)]; exact j540
      have m6 : ∀ j : Nat, j ≤ i + 1 → J6 106 (j : Int) = W j := fun j hj => by rw [r2 106 (by decide)]; exact j6 j hj
      have m5 : ∀ j : Nat, j < i + 1 → J6 105 (j : Int) = gp_bst A C lk U (I 93) (I 94) (W j) := fun j hj => by rw [r2 105 (by decide)]; exact j5 j hj
      rw [e1, r1]
      rcases gl_ix_v W (i + 1) with gx | gx
      · rw [if_neg (by omega)]
        rw [gx] at r4
        exact ih f (i + 1) J6 (by omega) (by omega) (by omega) f6 k6 k39 k40 r4 m6 m5 wn0 wn1
      · rw [if_pos gx.1]
        refine ⟨J6, ?_, f6, k6, k39, k40, r4, m5⟩
        obtain ⟨f, rfl⟩ : ∃ g, f = g + 1 := ⟨f - 1, by omega⟩
        show X12_follow_s22 N K F 85 (X12_follow_h22 N K F 85 f) J6 = _
        unfold X12_follow_s22 X12_follow_b181
        rw [k40, r4]
        by_cases g4 : ((i + 1 : Nat) : Int) < 400
        · rw [if_pos g4, if_neg (by omega)]
        · rw [if_neg g4]
theorem e_line (h : rel n K F I R C A lk U S) (hN : 2000000 < N) : eqv (fun J => rel n K F J R C A lk U S) (X11_line N K F 2 I x) (fun J => X12_line N K F 85 J x) := by
  have hc := h.a.c
  have hm := h.a.m
  have hA := h.g.m.A
  have wv := gm_pw_v (I := I) (A := A) (lk := lk) (x := x)
  by_cases w : gm_pw I A lk x = 0
  · obtain ⟨o1, o2, o3, o4⟩ := gm_pw_0 w
    have q := h.on o1
    have v := h.V q
    have hL := h.g.n
    have qy := q.y
    have qm := q.m
    have m12 := gp_top_mono (A := A) (lk := lk) (by omega) (show I 85 23 - 1 ≤ 12 by omega)
    generalize hJ0 : am_u2 (am_u2 (am_u2 (am_u2 (am_u2 I 79 0 0) 79 1 0) 79 2 (-1)) 79 0 1) 81 0 x = J0
    obtain ⟨J1, c1, c2, c3, c4, c5, c6⟩ := c_follow_l h hN o1 (x := x) 400 N 0 J0 (by omega) (by omega) (by omega) (fun b a1 a2 a3 => by rw [← hJ0]; funext j; rw [am_u2_a a3, am_u2_a a1, am_u2_a a1, am_u2_a a1, am_u2_a a1]) (by rw [← hJ0, am_u2_a (by decide), am_u2_s]) (by rw [← hJ0]; rfl) (by rw [← hJ0]; rfl) (fun j hj => by
      have : j = 0 := by omega
      subst this
      rw [← hJ0]; rfl) (fun j hj => by omega) o2 o4
    have rb := gl_run_b (b := gp_bst A C lk U (I 93) (I 94)) (w := gl_w A C lk U (I 93) (I 94) x) 400 0
    generalize hrun : gl_run (gp_bst A C lk U (I 93) (I 94)) (gl_w A C lk U (I 93) (I 94) x) 400 0 = rn at *
    have hx1 : X11_line N K F 2 I x = some ((rn.1 : Int), am_u2 J1 2 9 0) := by
      unfold X11_line X2_follow X2_clear am_lt
      dsimp only
      rw [cwF_2_6 hc, cwK_62 hc, if_pos (show ((9, 0) : Nat × Int).1 = 9 from rfl), c_pw h, w, am_cq_s, if_pos rfl, cwF_2_7 hc, cwK_79 hc, if_pos (show ((2, 0) : Nat × Int).1 = 2 from rfl), am_cl_s, cwF_79_4 hc, cwK_81 hc, if_pos (show ((100, 401) : Nat × Int).1 = 100 from rfl), if_pos (by decide), if_pos (by decide), hJ0]
      have c1' : X2_follow_h18 N K F 79 N J0 62 x = some (0, J1) := c1
      rw [c1', am_cl_s, c4, c_acc, am_cl_s]
    have jc : ∀ b, b ≠ 2 → b ≠ 79 → b ≠ 80 → b ≠ 81 → am_u2 J1 2 9 0 b = I b := fun b a0 a1 a2 a3 => by rw [← c2 b a1 a2 a3]; exact funext fun j => am_u2_a a0
    generalize hJc : am_u2 J1 2 9 0 = Jc at *
    generalize hJd : am_u2 (am_u2 (am_u2 (am_u2 Jc 85 39 1) 85 40 0) 85 43 (-1)) 106 0 x = Jd
    have hBc : mB K F Jc R C A lk U := h.mB.kept (fun b q => jc b (by omega) (by omega) (by omega) (by omega)) (fun j q => by rw [jc 85 (by decide) (by decide) (by decide) (by decide)])
    have r93 : Jc 93 = I 93 := jc 93 (by decide) (by decide) (by decide) (by decide)
    have r94 : Jc 94 = I 94 := jc 94 (by decide) (by decide) (by decide) (by decide)
    obtain ⟨J2, d1, d2, d3, d4, d5, d6, d7⟩ := m_follow_l (I := Jc) (x := x) hBc hN (T := I 85 23 - 1) (by omega) (by omega) (fun j a b => by
      have e := q.v j a b
      have l := gp_ly_b (A := A) (lk := lk) (by omega) a (show j < gp_top A lk 12 by omega)
      unfold gp_ly at l
      rw [r93]
      omega) 400 N 0 Jd (by omega) (by omega) (by omega) (fun b a1 a2 a3 a4 a5 a6 => by rw [← hJd]; funext j; rw [am_u2_a a2, am_u2_a a3, am_u2_a a3, am_u2_a a3]) (fun j q1 q2 q3 q4 => by rw [← hJd, am_u2_a (by decide), am_u2_k q4, am_u2_k q3, am_u2_k q2]) (by rw [← hJd]; rfl) (by rw [← hJd]; rfl) (by rw [← hJd]; rfl) (fun j hj => by
      have : j = 0 := by omega
      subst this
      rw [← hJd]; rfl) (fun j hj => by omega) o2 o4
    rw [r93, r94, hrun] at d1 d5 d6 d7
    have hpw : gm_pw Jc A lk x = 0 := by
      unfold gm_pw at w ⊢
      rw [jc 85 (by decide) (by decide) (by decide) (by decide)]; exact w
    have hw2 : X12_placeWhy N K F Jc 85 x = some 0 := by
      have e85 := jc 85 (by decide) (by decide) (by decide) (by decide)
      have pt : X12_placesTo N K F Jc 85 (I 85 22) = some (gp_top A lk (I 85 22)) := by
        rw [m_placesTo hm hBc.g (by omega) (by omega), hBc.l]; rfl
      unfold X12_placeWhy X12_placeWhy_b49
      rw [e85, if_neg o1, pt, am_cq_s, nb_wL (by omega), m_isIn, am_cq_s, if_pos (show 0 ≤ x ∧ x ≤ gp_top A lk (I 85 22) - 1 by omega), if_neg (by decide), q.s2, if_neg (by omega)]
    have hx2 : X12_line N K F 85 Jc x = some ((rn.1 : Int), am_u2 J2 85 15 0) := by
      unfold X12_line X12_line_b27 X12_follow am_lt
      dsimp only
      rw [hw2, am_cq_s, if_neg (by decide), mwF_85_42 hm, mwK_106 hm, if_pos (show ((100, 401) : Nat × Int).1 = 100 from rfl), if_pos (by decide), if_pos (by decide), hJd, d1, am_cl_s, m_okk, am_cl_s]
    refine eqv_mk hx1 hx2 (h.lin (fun b qb => ?_) (fun j q1 q2 q3 q4 q5 => ?_) ⟨?_, ?_, fun _ => ⟨?_, ?_, ?_, ?_, fun k k0 k1 => ?_⟩⟩) ?_
    · have : am_u2 J2 85 15 0 b = J2 b := funext fun j => am_u2_a (by omega)
      rw [this, d2 b (by omega) (by omega) (by omega) (by omega) (by omega) (by omega), jc b (by omega) (by omega) (by omega) (by omega)]
    · rw [am_u2_k (by omega), d3 j q2 q3 q4 q5, jc 85 (by decide) (by decide) (by decide) (by decide)]
    · rw [am_u2_a (by decide), am_u2_k (by decide), d4, d2 79 (by decide) (by decide) (by decide) (by decide) (by decide) (by decide), ← hJc, am_u2_a (by decide), c3]
    · rw [am_u2_k (by decide), d4]; exact Or.inr rfl
    · rw [am_u2_a (by decide), am_u2_k (by decide), d5, d2 79 (by decide) (by decide) (by decide) (by decide) (by decide) (by decide), ← hJc, am_u2_a (by decide), c4]
    · rw [am_u2_a (by decide), am_u2_k (by decide), d6, d2 79 (by decide) (by decide) (by decide) (by decide) (by decide) (by decide), ← hJc, am_u2_a (by decide), c5]
    · rw [am_u2_k (by decide), d5]; omega
    · rw [am_u2_k (by decide), d5]; omega
    · rw [am_u2_k (by decide), d5] at k1
      have a := c6 k.toNat (by omega)
      have b := d7 k.toNat (by omega)
      rw [show ((k.toNat : Nat) : Int) = k by omega] at a b
      rw [am_u2_a (by decide), am_u2_a (by decide), b, d2 80 (by decide) (by decide) (by decide) (by decide) (by decide) (by decide), ← hJc, am_u2_a (by decide), a]
    · rw [am_u2_s, am_u2_a (by decide), d2 2 (by decide) (by decide) (by decide) (by decide) (by decide) (by decide), ← hJc, am_u2_s]
  · have h1 : rel n K F (am_u2 I 2 9 (gm_pw I A lk x)) R C A lk U S := h.sc (sc.rfl.st2 _)
    refine e_no' h (gm_pw I A lk x) ?_ ?_
    · unfold X11_line
      rw [cwF_2_6 hc, cwK_62 hc, if_pos (show ((9, 0) : Nat × Int).1 = 9 from rfl), c_pw h, am_cq_s, if_neg w, c_ref, am_cl_s]
    · show X12_line N K F 85 _ x = _
      unfold X12_line X12_line_b27
      rw [m_pw h1 (by omega), gm_pw_u, am_cq_s, if_pos (by omega), m_noo, am_cl_s]
end ELINE
