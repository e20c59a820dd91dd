-- SOLVING A LAYER, the class: who leads where, listed
def lW (F : am_F) (I J : am_I) (A C : Int) (lk U : Int → Int) (t s : Int) (D : Nat) (m : Int) : Prop := (∀ b, b ≠ F 72 5 → b ≠ F 72 6 → J b = I b) ∧ (∀ p, s ≤ p → p ≤ gp_top A lk t → J (F 72 5) p = gQ (gqf F I) (gp_cnt A C lk U s.toNat) s D (p - s + 1).toNat - gq (gqf F I) (gp_cnt A C lk U s.toNat) p (m - gp_cnt A C lk U s.toNat).toNat) ∧ (∀ p j, s ≤ p → p < gp_top A lk t → J (F 72 5) p ≤ j → j < gQ (gqf F I) (gp_cnt A C lk U s.toNat) s D (p - s + 1).toNat → s ≤ J (F 72 6) j ∧ J (F 72 6) j < gp_top A lk t ∧ 0 < gp_N A C lk U (J (F 72 6) j)) ∧ (∀ p k i, s ≤ p → p < gp_top A lk t → s ≤ k → k < gp_top A lk t → 0 ≤ i → i < gp_N A C lk U k → gp_cnt A C lk U k.toNat + i < m → gp_O A C lk U k i = p → ∃ j, J (F 72 5) p ≤ j ∧ j < gQ (gqf F I) (gp_cnt A C lk U s.toNat) s D (p - s + 1).toNat ∧ J (F 72 6) j = k)
theorem lW.fr {F : am_F} {I J : am_I} {A C : Int} {lk U : Int → Int} {t s : Int} {D : Nat} {m : Int} (h : lW F I J A C lk U t s D m) : ∀ b, b ≠ F 72 5 → b ≠ F 72 6 → J b = I b := h.1
theorem lW.L {F : am_F} {I J : am_I} {A C : Int} {lk U : Int → Int} {t s : Int} {D : Nat} {m : Int} (h : lW F I J A C lk U t s D m) : ∀ p, s ≤ p → p ≤ gp_top A lk t → J (F 72 5) p = gQ (gqf F I) (gp_cnt A C lk U s.toNat) s D (p - s + 1).toNat - gq (gqf F I) (gp_cnt A C lk U s.toNat) p (m - gp_cnt A C lk U s.toNat).toNat := h.2.1
theorem lW.g {F : am_F} {I J : am_I} {A C : Int} {lk U : Int → Int} {t s : Int} {D : Nat} {m : Int} (h : lW F I J A C lk U t s D m) : ∀ p j, s ≤ p → p < gp_top A lk t → J (F 72 5) p ≤ j → j < gQ (gqf F I) (gp_cnt A C lk U s.toNat) s D (p - s + 1).toNat → s ≤ J (F 72 6) j ∧ J (F 72 6) j < gp_top A lk t ∧ 0 < gp_N A C lk U (J (F 72 6) j) := h.2.2.1
theorem lW.c {F : am_F} {I J : am_I} {A C : Int} {lk U : Int → Int} {t s : Int} {D : Nat} {m : Int} (h : lW F I J A C lk U t s D m) : ∀ p k i, s ≤ p → p < gp_top A lk t → s ≤ k → k < gp_top A lk t → 0 ≤ i → i < gp_N A C lk U k → gp_cnt A C lk U k.toNat + i < m → gp_O A C lk U k i = p → ∃ j, J (F 72 5) p ≤ j ∧ j < gQ (gqf F I) (gp_cnt A C lk U s.toNat) s D (p - s + 1).toNat ∧ J (F 72 6) j = k := h.2.2.2
/-- who leads where -/
def lD (F : am_F) (I : am_I) (A C : Int) (lk U : Int → Int) (t s E : Int) : Prop := (∀ p, s ≤ p → p < gp_top A lk t → 0 ≤ I (F 72 5) p ∧ I (F 72 5) p ≤ I (F 72 5) (p + 1) ∧ I (F 72 5) (p + 1) ≤ E) ∧ (∀ p j, s ≤ p → p < gp_top A lk t → I (F 72 5) p ≤ j → j < I (F 72 5) (p + 1) → s ≤ I (F 72 6) j ∧ I (F 72 6) j < gp_top A lk t ∧ 0 < gp_N A C lk U (I (F 72 6) j)) ∧ (∀ p k i, s ≤ p → p < gp_top A lk t → s ≤ k → k < gp_top A lk t → 0 ≤ i → i < gp_N A C lk U k → gp_O A C lk U k i = p → ∃ j, I (F 72 5) p ≤ j ∧ j < I (F 72 5) (p + 1) ∧ I (F 72 6) j = k)
theorem lD.b {F : am_F} {I : am_I} {A C : Int} {lk U : Int → Int} {t s E : Int} (h : lD F I A C lk U t s E) : ∀ p, s ≤ p → p < gp_top A lk t → 0 ≤ I (F 72 5) p ∧ I (F 72 5) p ≤ I (F 72 5) (p + 1) ∧ I (F 72 5) (p + 1) ≤ E := h.1
theorem lD.g {F : am_F} {I : am_I} {A C : Int} {lk U : Int → Int} {t s E : Int} (h : lD F I A C lk U t s E) : ∀ p j, s ≤ p → p < gp_top A lk t → I (F 72 5) p ≤ j → j < I (F 72 5) (p + 1) → s ≤ I (F 72 6) j ∧ I (F 72 6) j < gp_top A lk t ∧ 0 < gp_N A C lk U (I (F 72 6) j) := h.2.1
theorem lD.c {F : am_F} {I : am_I} {A C : Int} {lk U : Int → Int} {t s E : Int} (h : lD F I A C lk U t s E) : ∀ p k i, s ≤ p → p < gp_top A lk t → s ≤ k → k < gp_top A lk t → 0 ≤ i → i < gp_N A C lk U k → gp_O A C lk U k i = p → ∃ j, I (F 72 5) p ≤ j ∧ j < I (F 72 5) (p + 1) ∧ I (F 72 6) j = k := h.2.2
section LEAD2
variable {N n : Nat} {K : am_K} {F : am_F} {I J J' : am_I} {R C A : Int} {lk U : Int → Int} {S x y z k p V t s i m : Int} {D : Nat}
theorem gQ_at (q : Int → Int) (a : Int) {s p : Int} (D : Nat) (h : s ≤ p) : gQ q a s D (p - s + 1).toNat = gQ q a s D (p - s).toNat + gq q a p D := by
  rw [show (p - s + 1).toNat = (p - s).toNat + 1 by omega, gQ_s, show s + (((p - s).toNat : Nat) : Int) = p by omega]
/-- one edge more -/
theorem lW_step (h : lH K F I R C A lk U V t s) (hD : gp_cnt A C lk U (gp_top A lk t).toNat = gp_cnt A C lk U s.toNat + D) (w : lW F I J A C lk U t s D (gp_cnt A C lk U k.toNat + i)) (k0 : s ≤ k) (k1 : k < gp_top A lk t) (i0 : 0 ≤ i) (i1 : i < gp_N A C lk U k) (ho : s ≤ gp_O A C lk U k i) :
    0 ≤ J (F 72 5) (gp_O A C lk U k i) - 1 ∧ J (F 72 5) (gp_O A C lk U k i) - 1 < (K (F 63 2)).2 ∧ lW F I (am_u2 (am_u2 J (F 72 5) (gp_O A C lk U k i) (J (F 72 5) (gp_O A C lk U k i) - 1)) (F 72 6) (J (F 72 5) (gp_O A C lk U k i) - 1) k) A C lk U t s D (gp_cnt A C lk U k.toNat + (i + 1)) := by
  have s0 := h.s0
  have s1 := h.s1
  have hA := h.h.g.A
  have c0 := h.h.cb (k := s) s0 (by omega)
  have nb := h.h.nb (k := k) (by omega) k1
  have c1 := h.h.cb (k := gp_top A lk t) (by omega) (by omega)
  have ck := gp_cnt_le (A := A) (C := C) (lk := lk) (U := U) (by omega) (a := s.toNat) (b := k.toNat) (by omega)
  have ck1 := gp_cnt_le (A := A) (C := C) (lk := lk) (U := U) (by omega) (a := (k + 1).toNat) (b := (gp_top A lk t).toNat) (by omega)
  rw [gR.cs (by omega) (by omega)] at ck1
  have oq := h.h.qf (k := k) (i := i) (by omega) k1 i0 i1
  have ob := (h.h.ci (N := 0) (k := k) (i := i) (by omega) k1 i0 i1).o0
  have ob2 : gp_O A C lk U k i < gp_top A lk t := ob.2
  generalize hM : (gp_cnt A C lk U k.toNat + i - gp_cnt A C lk U s.toNat).toNat = M at *
  have wL := w.L
  rw [hM] at wL
  have eM : gp_cnt A C lk U s.toNat + (M : Int) = gp_cnt A C lk U k.toNat + i := by omega
  have eM1 : (gp_cnt A C lk U k.toNat + (i + 1) - gp_cnt A C lk U s.toNat).toNat = M + 1 := by omega
  have MD : M + 1 ≤ D := by omega
  have gs : ∀ p, gq (gqf F I) (gp_cnt A C lk U s.toNat) p (M + 1) = gq (gqf F I) (gp_cnt A C lk U s.toNat) p M + (if gp_O A C lk U k i = p then 1 else 0) := fun p => by rw [gq_s, eM, oq]
  have wc := w.c
  have wg := w.g
  have wf := w.fr
  generalize hq : gqf F I = q at *
  generalize ha : gp_cnt A C lk U s.toNat = a at *
  generalize ho' : gp_O A C lk U k i = o at *
  have l1 := wL o ho (by omega)
  have l2 := gQ_at q a D ho
  have l3 := gQ_nn q a s D (o - s).toNat
  have l4 := gq_le q a o MD
  have l5 := gs o
  rw [if_pos rfl] at l5
  have l6 := gQ_le q a s (o - s + 1).toNat D
  have l7 := gq_nn q a o M
  have key : ∀ p j, s ≤ p → p < gp_top A lk t → p ≠ o → J (F 72 5) p ≤ j → j < gQ q a s D (p - s + 1).toNat → j ≠ J (F 72 5) o - 1 := fun p j p0 p1 po j0 j1 => by
    rcases Int.lt_or_gt_of_ne po with v | v
    · have := gQ_mono q a s D (w := (p - s + 1).toNat) (w' := (o - s).toNat) (by omega)
      omega
    · have a1 := wL p p0 (by omega)
      have a2 := gQ_at q a D p0
      have a3 := gq_le q a p (show M ≤ D by omega)
      have := gQ_mono q a s D (w := (o - s + 1).toNat) (w' := (p - s).toNat) (by omega)
      omega
  have r5 : ∀ j, am_u2 (am_u2 J (F 72 5) o (J (F 72 5) o - 1)) (F 72 6) (J (F 72 5) o - 1) k (F 72 5) j = if j = o then J (F 72 5) o - 1 else J (F 72 5) j := fun j => by
    rw [am_u2_a (fun v => h.d v.symm)]
    by_cases v : j = o
    · rw [v, am_u2_s, if_pos rfl]
    · rw [am_u2_k v, if_neg v]
  have r6 : ∀ j, am_u2 (am_u2 J (F 72 5) o (J (F 72 5) o - 1)) (F 72 6) (J (F 72 5) o - 1) k (F 72 6) j = if j = J (F 72 5) o - 1 then k else J (F 72 6) j := fun j => by
    by_cases v : j = J (F 72 5) o - 1
    · rw [v, am_u2_s, if_pos rfl]
    · rw [am_u2_k v, am_u2_a h.d, if_neg v]
  refine ⟨by omega, by omega, fun b b5 b6 => ?_, fun p p0 p1 => ?_, fun p j p0 p1 j0 j1 => ?_, fun p k' i' p0 p1 k'0 k'1 i'0 i'1 lt ho2 => ?_⟩
  · rw [am_u2_row_b b6, am_u2_row_b b5]; exact wf b b5 b6
  · rw [r5, hq, ha, eM1, gs p]
    by_cases v : p = o
    · rw [if_pos v, if_pos v.symm, v]; omega
    · rw [if_neg v, if_neg (fun u => v u.symm), Int.add_zero]; exact wL p p0 p1
  · rw [hq, ha] at j1
    rw [r5] at j0
    rw [r6]
    by_cases v : j = J (F 72 5) o - 1
    · rw [if_pos v]; exact ⟨k0, k1, by omega⟩
    · rw [if_neg v]
      by_cases u : p = o
      · rw [if_pos u] at j0
        exact wg p j p0 p1 (by rw [u]; omega) j1
      · rw [if_neg u] at j0
        exact wg p j p0 p1 j0 j1
  · rw [hq, ha]
    by_cases v : gp_cnt A C lk U k'.toNat + i' = gp_cnt A C lk U k.toNat + i
    · obtain ⟨e1, e2⟩ := gp_pos_u (by omega) (show 0 ≤ k' by omega) (show 0 ≤ k by omega) i'0 i'1 i0 i1 v
      have : p = o := by rw [← ho2, ← ho', e1, e2]
      refine ⟨J (F 72 5) o - 1, by rw [r5, if_pos this]; exact Int.le_refl _, by rw [this]; omega, by rw [r6, if_pos rfl, e1]⟩
    · obtain ⟨j, j0, j1, j2⟩ := wc p k' i' p0 p1 k'0 k'1 i'0 i'1 (by omega) ho2
      have ne : j ≠ J (F 72 5) o - 1 := by
        by_cases u : p = o
        · rw [u] at j0; omega
        · exact key p j p0 p1 u j0 j1
      refine ⟨j, ?_, j1, by rw [r6, if_neg ne]; exact j2⟩
      rw [r5]
      by_cases u : p = o
      · rw [if_pos u]; rw [u] at j0; omega
      · rw [if_neg u]; exact j0
theorem lW_skip (h : lH K F I R C A lk U V t s) (w : lW F I J A C lk U t s D (gp_cnt A C lk U k.toNat + i)) (k0 : s ≤ k) (k1 : k < gp_top A lk t) (i0 : 0 ≤ i) (i1 : i < gp_N A C lk U k) (ho : ¬ s ≤ gp_O A C lk U k i) : lW F I J A C lk U t s D (gp_cnt A C lk U k.toNat + (i + 1)) := by
  have s0 := h.s0
  have s1 := h.s1
  have hA := h.h.g.A
  have nb := h.h.nb (k := k) (by omega) k1
  have ck := gp_cnt_le (A := A) (C := C) (lk := lk) (U := U) (by omega) (a := s.toNat) (b := k.toNat) (by omega)
  have oq := h.h.qf (k := k) (i := i) (by omega) k1 i0 i1
  refine ⟨w.fr, fun p p0 p1 => ?_, w.g, fun p k' i' p0 p1 k'0 k'1 i'0 i'1 lt ho2 => ?_⟩
  · rw [w.L p p0 p1, show (gp_cnt A C lk U k.toNat + (i + 1) - gp_cnt A C lk U s.toNat).toNat = (gp_cnt A C lk U k.toNat + i - gp_cnt A C lk U s.toNat).toNat + 1 by omega, gq_s, show gp_cnt A C lk U s.toNat + (((gp_cnt A C lk U k.toNat + i - gp_cnt A C lk U s.toNat).toNat : Nat) : Int) = gp_cnt A C lk U k.toNat + i by omega, oq, if_neg (by omega), Int.add_zero]
  · by_cases v : gp_cnt A C lk U k'.toNat + i' = gp_cnt A C lk U k.toNat + i
    · obtain ⟨e1, e2⟩ := gp_pos_u (by omega) (show 0 ≤ k' by omega) (show 0 ≤ k by omega) i'0 i'1 i0 i1 v
      rw [e1, e2] at ho2
      omega
    · exact w.c p k' i' p0 p1 k'0 k'1 i'0 i'1 (by omega) ho2
theorem c_lead4i (h : lH K F I R C A lk U V t s) (hD : gp_cnt A C lk U (gp_top A lk t).toNat = gp_cnt A C lk U s.toNat + D) (k0 : s ≤ k) (k1 : k < gp_top A lk t) (kk : am_I → Int → Int → Int → Option (Int × am_I)) : ∀ (d f : Nat) (J : am_I) (i : Int), gp_N A C lk U k - i = d → d < f → 0 ≤ i → lW F I J A C lk U t s D (gp_cnt A C lk U k.toNat + i) →
    ∃ J', X7_listLeaders_h130 N K F 72 kk f J s (gp_top A lk t) k (gp_cnt A C lk U k.toNat + i) = kk J' s (gp_top A lk t) (k + 1) ∧ lW F I J' A C lk U t s D (gp_cnt A C lk U k.toNat + gp_N A C lk U k) := by
  have s0 := h.s0
  have s1 := h.s1
  have v0 := h.h.V0
  have v1 := h.h.V1
  have hc := h.h.c
  have nb := h.h.nb (k := k) (by omega) k1
  intro d
  induction d with
  | zero =>
    intro f J i hd hf i0 w
    obtain ⟨f, rfl⟩ : ∃ g, f = g + 1 := ⟨f - 1, by omega⟩
    have hJ := h.kept w.fr
    refine ⟨J, ?_, by rw [show gp_N A C lk U k = i by omega]; exact w⟩
    show X7_listLeaders_s130 N K F 72 kk (X7_listLeaders_h130 N K F 72 kk f) J s (gp_top A lk t) k _ = _
    unfold X7_listLeaders_s130 am_lt
    dsimp only
    rw [cwF_72_0 hc, cwK_63 hc, if_pos (show ((0, 0) : Nat × Int).1 = 0 from rfl), if_pos (nb_in (by omega)), h.h.k1, if_pos (show ((100, V + 1) : Nat × Int).1 = 100 from rfl), if_pos (show 0 ≤ k + 1 ∧ k + 1 < V + 1 by omega), hJ.nx (by omega) k1, if_neg (by omega)]
  | succ d ih =>
    intro f J i hd hf i0 w
    obtain ⟨f, rfl⟩ : ∃ g, f = g + 1 := ⟨f - 1, by omega⟩
    have hJ := h.kept w.fr
    have cd := hJ.ci (N := N) (k := k) (i := i) (by omega) k1 i0 (by omega)
    have co : X0_placeBehind N K F J (gp_cd A C lk U k (gp_p A C lk U k i)) = some (gp_O A C lk U k i) := cd.o K F J
    have ob : 0 ≤ gp_O A C lk U k i ∧ gp_O A C lk U k i < gp_top A lk t := cd.o0
    by_cases q : s ≤ gp_O A C lk U k i
    · obtain ⟨a1, a2, a3⟩ := lW_step h hD w k0 k1 i0 (by omega) q
      obtain ⟨J', e1, e2⟩ := ih f _ (i + 1) (by omega) (by omega) (by omega) a3
      refine ⟨J', ?_, e2⟩
      rw [← e1]
      have E1 := h.h.E1
      show X7_listLeaders_s130 N K F 72 kk (X7_listLeaders_h130 N K F 72 kk f) J s (gp_top A lk t) k _ = _
      unfold X7_listLeaders_s130 X7_listLeaders_b191 am_lt
      dsimp only
      rw [cwF_72_0 hc, cwK_63 hc, if_pos (show ((0, 0) : Nat × Int).1 = 0 from rfl), if_pos (nb_in (by omega)), h.h.k1, if_pos (show ((100, V + 1) : Nat × Int).1 = 100 from rfl), if_pos (show 0 ≤ k + 1 ∧ k + 1 < V + 1 by omega), hJ.nx (by omega) k1, if_pos (by omega), if_pos h.h.k2, if_pos (by omega), hJ.ed (by omega) k1 i0 (by omega), co, am_cq_s, if_pos q, h.k5, if_pos (show ((100, V + 1) : Nat × Int).1 = 100 from rfl), if_pos (show 0 ≤ gp_O A C lk U k i ∧ gp_O A C lk U k i < V + 1 by omega), if_pos (nb_in (by omega)), if_pos h.n5, h.k6, if_pos (show ((100, (K (F 63 2)).2) : Nat × Int).1 = 100 from rfl), if_pos h.n6, am_u2_s, if_pos (show 0 ≤ J (F 72 5) (gp_O A C lk U k i) - 1 ∧ J (F 72 5) (gp_O A C lk U k i) - 1 < (K (F 63 2)).2 from ⟨a1, a2⟩), if_pos (nb_in (by omega)), Int.add_assoc]
    · obtain ⟨J', e1, e2⟩ := ih f _ (i + 1) (by omega) (by omega) (by omega) (lW_skip h w k0 k1 i0 (by omega) q)
      refine ⟨J', ?_, e2⟩
      rw [← e1]
      show X7_listLeaders_s130 N K F 72 kk (X7_listLeaders_h130 N K F 72 kk f) J s (gp_top A lk t) k _ = _
      unfold X7_listLeaders_s130 X7_listLeaders_b191 am_lt
      dsimp only
      rw [cwF_72_0 hc, cwK_63 hc, if_pos (show ((0, 0) : Nat × Int).1 = 0 from rfl), if_pos (nb_in (by omega)), h.h.k1, if_pos (show ((100, V + 1) : Nat × Int).1 = 100 from rfl), if_pos (show 0 ≤ k + 1 ∧ k + 1 < V + 1 by omega), hJ.nx (by omega) k1, if_pos (by omega), if_pos h.h.k2, if_pos (by omega), hJ.ed (by omega) k1 i0 (by omega), co, am_cq_s, if_neg q, if_pos (nb_in (by omega)), Int.add_assoc]
theorem c_lead4 (h : lH K F I R C A lk U V t s) (hN : 2000000 < N) (hD : gp_cnt A C lk U (gp_top A lk t).toNat = gp_cnt A C lk U s.toNat + D) : ∀ (d f : Nat) (J : am_I) (k : Int), gp_top A lk t - k = d → d < f → s ≤ k → lW F I J A C lk U t s D (gp_cnt A C lk U k.toNat) →
    ∃ J', X7_listLeaders_h114 N K F 72 f J s (gp_top A lk t) k = some (0, J') ∧ lW F I J' A C lk U t s D (gp_cnt A C lk U (gp_top A lk t).toNat) := by
  have s0 := h.s0
  have s1 := h.s1
  have v0 := h.h.V0
  have v1 := h.h.V1
  have hA := h.h.g.A
  have hc := h.h.c
  intro d
  induction d with
  | zero =>
    intro f J k hd hf k0 w
    obtain ⟨f, rfl⟩ : ∃ g, f = g + 1 := ⟨f - 1, by omega⟩
    refine ⟨J, ?_, by rw [show gp_top A lk t = k by omega]; exact w⟩
    show X7_listLeaders_s114 N K F 72 (X7_listLeaders_h114 N K F 72 f) J s (gp_top A lk t) k = _
    unfold X7_listLeaders_s114
    rw [if_neg (by omega)]
  | succ d ih =>
    intro f J k hd hf k0 w
    obtain ⟨f, rfl⟩ : ∃ g, f = g + 1 := ⟨f - 1, by omega⟩
    have nb := h.h.nb (k := k) (by omega) (by omega)
    have hJ := h.kept w.fr
    obtain ⟨J1, a1, a2⟩ := c_lead4i (N := N) h hD (k := k) k0 (by omega) (X7_listLeaders_h114 N K F 72 f) (gp_N A C lk U k).toNat N J 0 (by omega) (by omega) (by omega) (by rw [Int.add_zero]; exact w)
    rw [← gR.cs (by omega) (by omega)] at a2
    obtain ⟨J', e1, e2⟩ := ih f J1 (k + 1) (by omega) (by omega) (by omega) a2
    refine ⟨J', ?_, e2⟩
    rw [← e1, ← a1, Int.add_zero]
    show X7_listLeaders_s114 N K F 72 (X7_listLeaders_h114 N K F 72 f) J s (gp_top A lk t) k = _
    unfold X7_listLeaders_s114 am_lt
    dsimp only
    rw [if_pos (by omega), cwF_72_0 hc, cwK_63 hc, if_pos (show ((0, 0) : Nat × Int).1 = 0 from rfl), h.h.k1, if_pos (show ((100, V + 1) : Nat × Int).1 = 100 from rfl), if_pos (show 0 ≤ k ∧ k < V + 1 by omega), hJ.st (by omega) (by omega)]
theorem c_listLeaders (h : lH K F I R C A lk U V t s) (hN : 2000000 < N) : ∃ J, X7_listLeaders N K F 72 I s (gp_top A lk t) = some (0, J) ∧ (∀ b, b ≠ F 72 5 → b ≠ F 72 6 → J b = I b) ∧ lD F J A C lk U t s (K (F 63 2)).2 := by
  have s0 := h.s0
  have s1 := h.s1
  have v0 := h.h.V0
  have v1 := h.h.V1
  have hA := h.h.g.A
  have c0 := h.h.cb (k := s) s0 (by omega)
  have c1 := h.h.cb (k := gp_top A lk t) (by omega) (by omega)
  have cl := gp_cnt_le (A := A) (C := C) (lk := lk) (U := U) (by omega) (a := s.toNat) (b := (gp_top A lk t).toNat) (by omega)
  obtain ⟨D, hD⟩ : ∃ D : Nat, gp_cnt A C lk U (gp_top A lk t).toNat = gp_cnt A C lk U s.toNat + D := ⟨(gp_cnt A C lk U (gp_top A lk t).toNat - gp_cnt A C lk U s.toNat).toNat, by omega⟩
  obtain ⟨J1, a1, a2, a3⟩ := c_lead1 (N := N) h (gp_top A lk t + 1 - s).toNat N I s (by omega) (by omega) (by omega) (fun _ _ => rfl) (fun p a b => by omega)
  obtain ⟨J2, b1, b2, b3⟩ := c_lead2 (N := N) h hD D N 0 J1 (by omega) (by omega) (by omega) a2 (fun p a b => by rw [a3 p a b]; rfl)
  obtain ⟨J3, d1, d2, d3⟩ := c_lead3 (N := N) h hD (gp_top A lk t + 1 - (s + 1)).toNat N J2 (s + 1) (by omega) (by omega) (by omega) b2 (fun p a b => by
    have : p = s := by omega
    subst this
    rw [b3 p a (by omega), show (p - p + 1).toNat = 0 + 1 by omega, gQ_s, show gQ (gqf F I) (gp_cnt A C lk U p.toNat) p D 0 = 0 from rfl, Int.zero_add, show p + ((0 : Nat) : Int) = p by omega]) (fun p a b => b3 p (by omega) b)
  obtain ⟨J, e1, e2⟩ := c_lead4 (N := N) h hN hD (gp_top A lk t - s).toNat N J3 s (by omega) (by omega) (by omega) ⟨fun b q5 q6 => d2 b q5, fun p a b => by rw [d3 p a b, Int.sub_self]; exact (Int.sub_zero _).symm, fun p j p0 p1 j0 j1 => by rw [d3 p p0 (by omega)] at j0; omega, fun p k i p0 p1 k0 k1 i0 i1 lt _ => by
    have := gp_cnt_le (A := A) (C := C) (lk := lk) (U := U) (by omega) (a := s.toNat) (b := k.toNat) (by omega)
    omega⟩
  have Lp : ∀ p, s ≤ p → p ≤ gp_top A lk t → J (F 72 5) p = gQ (gqf F I) (gp_cnt A C lk U s.toNat) s D (p - s).toNat := fun p a b => by
    have x1 := e2.L p a b
    rw [show (gp_cnt A C lk U (gp_top A lk t).toNat - gp_cnt A C lk U s.toNat).toNat = D by omega] at x1
    have x2 := gQ_at (gqf F I) (gp_cnt A C lk U s.toNat) D a
    omega
  have Lq : ∀ p, s ≤ p → p < gp_top A lk t → J (F 72 5) (p + 1) = gQ (gqf F I) (gp_cnt A C lk U s.toNat) s D (p - s + 1).toNat := fun p a b => by
    rw [Lp (p + 1) (by omega) (by omega), show p + 1 - s = p - s + 1 by omega]
  refine ⟨J, ?_, e2.fr, fun p a b => ?_, fun p j a b j0 j1 => ?_, fun p k i a b k0 k1 i0 i1 ho => ?_⟩
  · unfold X7_listLeaders
    rw [a1, show gp_cnt A C lk U s.toNat = gp_cnt A C lk U s.toNat + ((0 : Nat) : Int) by omega, b1, d1, e1]
  · rw [Lq p a b, Lp p a (by omega)]
    have x1 := gQ_nn (gqf F I) (gp_cnt A C lk U s.toNat) s D (p - s).toNat
    have x2 := gQ_mono (gqf F I) (gp_cnt A C lk U s.toNat) s D (w := (p - s).toNat) (w' := (p - s + 1).toNat) (by omega)
    have x3 := gQ_le (gqf F I) (gp_cnt A C lk U s.toNat) s (p - s + 1).toNat D
    omega
  · rw [Lq p a b] at j1
    exact e2.g p j a b j0 j1
  · rw [Lq p a b]
    have := h.h.nb (k := k) (by omega) k1
    have ck1 := gp_cnt_le (A := A) (C := C) (lk := lk) (U := U) (by omega) (a := (k + 1).toNat) (b := (gp_top A lk t).toNat) (by omega)
    rw [gR.cs (by omega) (by omega)] at ck1
    exact e2.c p k i a b k0 k1 i0 i1 (by omega) ho
end LEAD2
