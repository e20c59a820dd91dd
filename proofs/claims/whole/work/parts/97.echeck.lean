-- CALLS: check, both sides
section ECHECK
variable {N n : Nat} {K : am_K} {F : am_F} {I J J' : am_I} {R C A : Int} {lk U : Int → Int} {S x y z k p V t : Int}
/-- what building leaves of the rows that come and go -/
theorem rel.bvr (h : rel n K F I R C A lk U S) {v : Int} (hb : bf F (am_u2 I 63 3 v) J) (i : Nat) (hi : i < 15) (q1 : i ≠ 6) (q2 : i ≠ 7) (q3 : i ≠ 8) : J ((vrl F)[i]'hi) = I ((vrl F)[i]'hi) := by
  have o := (h.a.v i hi).1
  have key : ∀ m (hm : m < 15), i ≠ m → (vrl F)[i]'hi ≠ (vrl F)[m]'hm := fun m hm q => by
    rcases Nat.lt_or_gt_of_ne q with w | w
    · exact h.a.ne hi hm w
    · exact (h.a.ne hm hi w).symm
  funext j
  rw [hb _ j (o.ne rfl) (o.ne rfl) (by unfold vok at o; omega) (Or.inl (o.ne rfl)) (o.ne rfl) (key 6 (by decide) q1) (key 7 (by decide) q2) (key 8 (by decide) q3), am_u2_a (o.ne rfl)]
theorem bf.fix (h : rel n K F I R C A lk U S) {v : Int} (hb : bf F (am_u2 I 63 3 v) J) {b : Nat} (q : bfx b = true) (w : b ≠ 63) : J b = I b := by
  have hB' := h.cB.kept (J := am_u2 I 63 3 v) (fun b q => funext fun j => am_u2_a (by omega))
  rw [hb.row hB' q]; exact funext fun j => am_u2_a w
theorem c_places (h : rel n K F I R C A lk U S) (hN : 2000000 < N) (w : I 85 21 ≠ 0) (hy : 0 ≤ y ∧ y ≤ I 85 22) (hb : y + 1 ≤ I 63 3) (k4 : am_I → Int → Int → Option (Int × am_I)) : ∀ (d f : Nat) (k : Int), gp_top A lk y - k = d → d < f → 0 ≤ k → (∀ j, 0 ≤ j → j < k → gp_rt A C lk U (I (F 62 6)) (I (F 62 7)) j) →
    (∃ m, X9_firstWrongClaim_h32 N K F 62 k4 f I k y (gp_top A lk y) = some (m, I) ∧ (0 ≤ m ∧ m < gp_top A lk y) ∧ (∀ j, 0 ≤ j → j < m → gp_rt A C lk U (I (F 62 6)) (I (F 62 7)) j) ∧ ¬ gp_rt A C lk U (I (F 62 6)) (I (F 62 7)) m) ∨ (X9_firstWrongClaim_h32 N K F 62 k4 f I k y (gp_top A lk y) = k4 I (gp_top A lk y) (y + 1) ∧ ∀ j, 0 ≤ j → j < gp_top A lk y → gp_rt A C lk U (I (F 62 6)) (I (F 62 7)) j) := by
  have q := h.on w
  have v := h.V q
  have hL := h.g.n
  have qm := q.m
  have g0 := h.q.g0
  have t1 := gp_top_mono (A := A) (lk := lk) (by omega) hy.2
  have t2 := gp_top_mono (A := A) (lk := lk) (by omega) (show y ≤ I 63 3 - 1 by omega)
  have gr := h.gR
  intro d
  induction d with
  | zero =>
    intro f k hd hf k0 hr
    obtain ⟨f, rfl⟩ : ∃ g, f = g + 1 := ⟨f - 1, by omega⟩
    right
    have e : k = gp_top A lk y := by omega
    subst e
    refine ⟨?_, hr⟩
    show X9_firstWrongClaim_s32 N K F 62 k4 (X9_firstWrongClaim_h32 N K F 62 k4 f) I _ y _ = _
    unfold X9_firstWrongClaim_s32
    rw [if_neg (by omega), if_pos (nb_in (by omega))]; rfl
  | succ d ih =>
    intro f k hd hf k0 hr
    obtain ⟨f, rfl⟩ : ∃ g, f = g + 1 := ⟨f - 1, by omega⟩
    have k12 := gr.lt (k := k) (by omega)
    have le := gp_ly_le (A := A) (lk := lk) (by omega) k0 k12 (show k < gp_top A lk (I 85 22) by omega)
    have tl := gp_top_mono (A := A) (lk := lk) (by omega) le
    obtain ⟨b, g1, g2⟩ := c_right (N := N) (k := k) gr (by omega) h.a.v3 h.a.v4 k0 (by omega) (fun j a c => by
      have cl := q.cl j a (by omega)
      rw [cl.1]; exact cl.2.2.1)
    have e0 : X9_firstWrongClaim_h32 N K F 62 k4 (f + 1) I k y (gp_top A lk y) = if b = 0 then some (k, I) else X9_firstWrongClaim_h32 N K F 62 k4 f I (k + 1) y (gp_top A lk y) := by
      show X9_firstWrongClaim_s32 N K F 62 k4 (X9_firstWrongClaim_h32 N K F 62 k4 f) I _ y _ = _
      unfold X9_firstWrongClaim_s32
      rw [if_pos (by omega), g1, am_cq_s, if_pos (nb_in (by omega))]; rfl
    rw [e0]
    by_cases wb : b = 0
    · rw [if_pos wb]
      exact Or.inl ⟨k, rfl, by omega, hr, g2.z.mp wb⟩
    · rw [if_neg wb]
      exact ih f (k + 1) (by omega) (by omega) (by omega) (fun j a c => by
        by_cases e : j = k
        · rw [e]; exact Classical.not_not.mp (fun g => wb (g2.z.mpr g))
        · exact hr j a (by omega))
theorem c_check (hN : 2000000 < N) {vc rc : Int → Int} {M : Int} : ∀ (d f : Nat) (I : am_I) (y : Int), M + 1 - y = d → d < f → 0 ≤ y → rel n K F I R C A lk U S → I 85 21 ≠ 0 → I 85 22 = M → I (F 62 6) = vc → I (F 62 7) = rc → (∀ j, 0 ≤ j → j < gp_top A lk (y - 1) → gp_rt A C lk U vc rc j) →
    ∃ m J, X9_firstWrongClaim_h4 N K F 62 f I (gp_top A lk (y - 1)) y = some (m, J) ∧ gp_fst A C lk U vc rc (gp_top A lk M) m ∧ rel n K F J R C A lk U S ∧ J 95 = I 95 ∧ J 96 = I 96 ∧ J 85 = I 85 ∧ J 2 = I 2 ∧ J (F 62 6) = vc ∧ J (F 62 7) = rc := by
  intro d
  induction d with
  | zero =>
    intro f I y hd hf y0 h w hM h6 h7 hr
    obtain ⟨f, rfl⟩ : ∃ g, f = g + 1 := ⟨f - 1, by omega⟩
    have q := h.on w
    have e : y - 1 = M := by omega
    refine ⟨gp_top A lk M, I, ?_, ⟨⟨gp_top_nn _, Int.le_refl _⟩, by rw [← e]; exact hr, fun g => by omega⟩, h, rfl, rfl, rfl, rfl, h6, h7⟩
    show X9_firstWrongClaim_s4 N K F 62 (X9_firstWrongClaim_h4 N K F 62 f) I _ y = _
    unfold X9_firstWrongClaim_s4
    rw [q.l8, if_neg (by omega), q.p, hM]
  | succ d ih =>
    intro f I y hd hf y0 h w hM h6 h7 hr
    obtain ⟨f, rfl⟩ : ∃ g, f = g + 1 := ⟨f - 1, by omega⟩
    have hc := h.a.c
    have q := h.on w
    have qm := q.m
    have v := h.V q
    have hL := h.g.n
    have yM : 0 ≤ y ∧ y ≤ I 85 22 := by omega
    obtain ⟨J, e1, e2, e3, e4⟩ := c_buildLayer h hN w yM
    have r85 : J 85 = I 85 := e3.fix h rfl (by decide)
    have j6 : J (F 62 6) = vc := by rw [← h6]; exact h.bvr e3 4 (by decide) (by decide) (by decide) (by decide)
    have j7 : J (F 62 7) = rc := by rw [← h7]; exact h.bvr e3 5 (by decide) (by decide) (by decide) (by decide)
    have r95 : J 95 = I 95 := e3.fix h rfl (by decide)
    have r96 : J 96 = I 96 := e3.fix h rfl (by decide)
    have r2 : J 2 = I 2 := e3.fix h rfl (by decide)
    have jb : y + 1 ≤ J 63 3 := by rw [e4]; split <;> omega
    have u1 := c_boardsUpTo (N := N) hc e2.g.t e2.g.c (k := y) (by omega)
    have t1 := gp_top_mono (A := A) (lk := lk) (by omega) yM.2
    have t0 := gp_top_nn (A := A) (lk := lk) (y - 1)
    have ts := gp_top_mono (A := A) (lk := lk) (by omega) (show y - 1 ≤ y by omega)
    have eg : 2 * gW (gm_L A lk + 1) y = gp_top A lk y := rfl
    have e0 : X9_firstWrongClaim_h4 N K F 62 (f + 1) I (gp_top A lk (y - 1)) y = X9_firstWrongClaim_h32 N K F 62 (X9_firstWrongClaim_h4 N K F 62 f) N J (gp_top A lk (y - 1)) y (gp_top A lk y) := by
      show X9_firstWrongClaim_s4 N K F 62 (X9_firstWrongClaim_h4 N K F 62 f) I _ y = _
      unfold X9_firstWrongClaim_s4 am_lt
      dsimp only
      rw [q.l8, if_pos (by omega), cwF_62_0 hc, cwK_63 hc, if_pos (show ((0, 0) : Nat × Int).1 = 0 from rfl), e1, am_cl_s, cwF_62_12 hc, cwK_56 hc, if_pos (show ((3, 0) : Nat × Int).1 = 3 from rfl), u1, am_cq_s, if_pos (nb_in (by omega)), if_pos (nb_in (by omega)), eg]
    rw [e0]
    rcases c_places e2 hN (y := y) (by rw [r85]; exact w) (by rw [r85]; exact yM) jb (X9_firstWrongClaim_h4 N K F 62 f) (gp_top A lk y - gp_top A lk (y - 1)).toNat N (gp_top A lk (y - 1)) (by omega) (by omega) t0 (by rw [j6, j7]; exact hr) with ⟨m, g1, g2, g3, g4⟩ | ⟨g1, g2⟩
    · rw [j6, j7] at g3 g4
      rw [hM] at t1
      exact ⟨m, J, g1, ⟨by omega, g3, fun _ => g4⟩, e2, r95, r96, r85, r2, j6, j7⟩
    · rw [j6, j7] at g2
      rw [g1]
      obtain ⟨m, J', k1, k2, k3, k4, k5, k6, k7, k8⟩ := ih f J (y + 1) (by omega) (by omega) (by omega) e2 (by rw [r85]; exact w) (by rw [r85]; exact hM) j6 j7 (by rw [show y + 1 - 1 = y by omega]; exact g2)
      rw [show y + 1 - 1 = y by omega] at k1
      exact ⟨m, J', k1, k2, k3, by rw [k4, r95], by rw [k5, r96], by rw [k6, r85], by rw [k7, r2], k8⟩
theorem e_check (h : rel n K F I R C A lk U S) (hN : 2000000 < N) : eqv (fun J => rel n K F J R C A lk U S) (X11_check N K F 2 I) (fun J => X12_check N K F 85 J) := by
  have hc := h.a.c
  have hm := h.a.m
  by_cases w : I 85 21 = 0
  · refine e_no' h 9 ?_ ?_
    · unfold X11_check
      rw [cwF_2_6 hc, cwK_62 hc, if_pos (show ((9, 0) : Nat × Int).1 = 9 from rfl), if_pos (h.off w), c_ref, am_cl_s]
    · show X12_check N K F 85 _ = _
      unfold X12_check
      rw [am_u2_a (by decide), if_pos w, m_noo, am_cl_s]
  · have q := h.on w
    have v := h.V q
    have qm := q.m
    have hL := h.g.n
    have z1 : gp_top A lk (0 - 1) = 0 := gp_top_neg _ _ (by decide)
    obtain ⟨m, J, g1, g2, g3, g4, g5, g6, g7, g8, g9⟩ := c_check (N := N) hN (M := I 85 22) (I 85 22 + 1).toNat N I 0 (by omega) (by omega) (by omega) h w rfl rfl rfl (fun j a b => by rw [z1] at b; omega)
    rw [z1] at g1
    have hs : rel n K F (am_u2 J 2 9 0) R C A lk U S := g3.sc (sc.rfl.st2 0)
    have s21 : am_u2 J 2 9 0 85 21 = I 85 21 := by rw [am_u2_a (by decide), g6]
    have s22 : am_u2 J 2 9 0 85 22 = I 85 22 := by rw [am_u2_a (by decide), g6]
    have s95 : am_u2 J 2 9 0 95 = I 95 := by rw [← g4]; exact funext fun j => am_u2_a (by decide)
    have s96 : am_u2 J 2 9 0 96 = I 96 := by rw [← g5]; exact funext fun j => am_u2_a (by decide)
    obtain ⟨m', J', k1, k2, k3, k4⟩ := m_check (N := N) hs hN (by rw [s21]; exact w) (gp_top A lk (I 85 22)).toNat N (am_u2 J 2 9 0) 0 (by rw [s22]; have := gp_top_nn (A := A) (lk := lk) (I 85 22); omega) (by omega) (by omega) sc.rfl rfl rfl (fun j a b => by omega)
    rw [s22, s95, s96] at k2
    rw [s22] at k1
    have em : m' = m := by
      refine gp_fst.uniq k2 ⟨g2.1, fun j a b => ?_, fun b => ?_⟩
      · exact (gp_rt_congr (U := U) h.g.m.g (by omega) a (show j < gp_top A lk (I 85 22) by have := g2.1; omega) (by omega) (fun i a b => ⟨(q.cl i a b).1, (q.cl i a b).2.1⟩)).mp (g2.2.1 j a b)
      · exact fun g => g2.2.2 b ((gp_rt_congr (U := U) h.g.m.g (by omega) g2.1.1 b (by omega) (fun i a b => ⟨(q.cl i a b).1, (q.cl i a b).2.1⟩)).mpr g)
    rw [em] at k1
    refine eqv_mk (v := m) (J := am_u2 J 2 9 0) (J' := am_u2 J' 85 15 0) ?_ ?_ (hs.sc (k3.st85 0)) ?_
    · unfold X11_check X9_firstWrongClaim
      rw [cwF_2_6 hc, cwK_62 hc, if_pos (show ((9, 0) : Nat × Int).1 = 9 from rfl), if_neg (h.on1 w), g1, am_cl_s, c_acc, am_cl_s]
    · show X12_check N K F 85 _ = _
      have hp : X12_placesTo N K F (am_u2 J 2 9 0) 85 (I 85 22) = some (gp_top A lk (I 85 22)) := by rw [hs.pos (by omega) (by omega)]; rfl
      unfold X12_check
      rw [s21, if_neg w, s22, hp, am_cq_s, if_pos (nb_in (by omega)), k1]
    · rw [am_u2_s, am_u2_a (by decide), k4, am_u2_s]
end ECHECK
