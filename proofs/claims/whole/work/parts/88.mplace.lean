-- THE MODEL AT A PLACE
/-- what the model reads of ground and rules -/
def mB (K : am_K) (F : am_F) (I : am_I) (R C A : Int) (lk U : Int → Int) : Prop := (mw K F) ∧ (mg I R C A) ∧ (mW I C A) ∧ (I 86 = lk) ∧ (∀ j, 6 ≤ j → j ≤ 12 → I 85 j = U j) ∧ (gm_u U) ∧ (1 ≤ gm_L A lk)
theorem mB.m {K : am_K} {F : am_F} {I : am_I} {R C A : Int} {lk U : Int → Int} (h : mB K F I R C A lk U) : mw K F := h.1
theorem mB.g {K : am_K} {F : am_F} {I : am_I} {R C A : Int} {lk U : Int → Int} (h : mB K F I R C A lk U) : mg I R C A := h.2.1
theorem mB.w {K : am_K} {F : am_F} {I : am_I} {R C A : Int} {lk U : Int → Int} (h : mB K F I R C A lk U) : mW I C A := h.2.2.1
theorem mB.l {K : am_K} {F : am_F} {I : am_I} {R C A : Int} {lk U : Int → Int} (h : mB K F I R C A lk U) : I 86 = lk := h.2.2.2.1
theorem mB.u {K : am_K} {F : am_F} {I : am_I} {R C A : Int} {lk U : Int → Int} (h : mB K F I R C A lk U) : ∀ j, 6 ≤ j → j ≤ 12 → I 85 j = U j := h.2.2.2.2.1
theorem mB.uu {K : am_K} {F : am_F} {I : am_I} {R C A : Int} {lk U : Int → Int} (h : mB K F I R C A lk U) : gm_u U := h.2.2.2.2.2.1
theorem mB.L {K : am_K} {F : am_F} {I : am_I} {R C A : Int} {lk U : Int → Int} (h : mB K F I R C A lk U) : 1 ≤ gm_L A lk := h.2.2.2.2.2.2
/-- the board of place k is laid out -/
def mP (K : am_K) (F : am_F) (I : am_I) (R C A : Int) (lk U : Int → Int) (k : Int) : Prop := (mB K F I R C A lk U) ∧ (gm_eq A (I 92) (gp_b A lk k)) ∧ (0 ≤ k) ∧ (k < gp_top A lk 12)
theorem mP.b {K : am_K} {F : am_F} {I : am_I} {R C A : Int} {lk U : Int → Int} {k : Int} (h : mP K F I R C A lk U k) : mB K F I R C A lk U := h.1
theorem mP.e {K : am_K} {F : am_F} {I : am_I} {R C A : Int} {lk U : Int → Int} {k : Int} (h : mP K F I R C A lk U k) : gm_eq A (I 92) (gp_b A lk k) := h.2.1
theorem mP.k0 {K : am_K} {F : am_F} {I : am_I} {R C A : Int} {lk U : Int → Int} {k : Int} (h : mP K F I R C A lk U k) : 0 ≤ k := h.2.2.1
theorem mP.k1 {K : am_K} {F : am_F} {I : am_I} {R C A : Int} {lk U : Int → Int} {k : Int} (h : mP K F I R C A lk U k) : k < gp_top A lk 12 := h.2.2.2
section MPLACE
variable {N n : Nat} {K : am_K} {F : am_F} {I J J' : am_I} {R C A : Int} {lk U : Int → Int} {S x y k p : Int}
theorem rel.mB (h : rel n K F I R C A lk U S) : mB K F I R C A lk U := ⟨h.a.m, h.g.m, h.g.w, h.g.k, h.u.m, h.u.gm.1, h.g.n⟩
theorem mB.kept (h : mB K F I R C A lk U) (hb : ∀ b, b = 86 ∨ b = 89 ∨ b = 90 → J b = I b) (h85 : ∀ j, j < 13 → J 85 j = I 85 j) : mB K F J R C A lk U := by
  refine ⟨h.m, h.g.kept (h85 0 (by omega)) (h85 1 (by omega)), fun k a b => ?_, by rw [hb 86 (by omega)]; exact h.l, fun j a b => by rw [h85 j (by omega)]; exact h.u j a b, h.uu, h.L⟩
  rw [hb 89 (by omega), hb 90 (by omega)]; exact h.w k a b
theorem mB.sm (h : mB K F I R C A lk U) (hs : ms I J) : mB K F J R C A lk U := h.kept (fun b q => hs.row (by omega) (by omega) (by omega)) (fun j q => hs.fld (by omega))
theorem mB.kf {K' : am_K} {F' : am_F} (h : mB K F I R C A lk U) (hm : mw K' F') : mB K' F' I R C A lk U := ⟨hm, h.g, h.w, h.l, h.u, h.uu, h.L⟩
theorem mP.sm (h : mP K F I R C A lk U k) (hs : ms I J) : mP K F J R C A lk U k := ⟨h.b.sm hs, by rw [hs.row (by decide) (by decide) (by decide)]; exact h.e, h.k0, h.k1⟩
theorem m_lay (h : mB K F I R C A lk U) (hN : 100 < N) (k0 : 0 ≤ k) (k1 : k < gp_top A lk 12) : ∃ J, X12_layOut N K F 85 I k = some (k % 2, J) ∧ mP K F J R C A lk U k ∧ (∀ b, b ≠ 92 → J b = I b) := by
  have hk : k < 2 * gW (gm_L A (I 86) + 1) 12 := by rw [h.l]; exact k1
  refine ⟨_, m_layOut h.m h.g hN k0 hk, ⟨h.kept (fun b q => funext fun j => am_row_n (by omega)) (fun j q => am_row_n (by decide)), fun j j0 j1 => ?_, k0, k1⟩, fun b q => funext fun j => am_row_n q⟩
  rw [am_row_s]
  unfold gm_ld
  rw [if_pos ⟨j0, j1⟩, h.l]
  rfl
theorem mP.st (h : mP K F I R C A lk U k) : gm_st A lk (I 92) := h.e.symm.st (gp_b_ok (by have := h.b.g.A; omega) h.k0 h.k1).1
theorem mP.may (h : mP K F I R C A lk U k) (hN : 2000000 < N) : ∃ J, X12_mayMove N K F 85 I 92 (k % 2) 103 = some (gp_N A C lk U k, J) ∧ ms I J ∧ ∀ p, 0 ≤ p → p < A → J 103 p = gp_al A C lk U k p := by
  have hu : gm_u (I 85) := by
    have := h.b.uu
    unfold gm_u at *
    rw [h.b.u 7 (by decide) (by decide), h.b.u 8 (by decide) (by decide), h.b.u 10 (by decide) (by decide)]
    exact this
  obtain ⟨J, e1, e2, e3⟩ := m_mayMove (N := N) h.b.m h.b.g h.b.w hN hu (Or.inr rfl) (k % 2) (by rw [h.b.l]; exact h.st)
  rw [h.b.l, gm_al_u (u' := U) h.b.u] at e1 e3
  refine ⟨J, ?_, e2, fun p p0 p1 => ?_⟩
  · rw [e1, h.e.als h.b.g.g h.st]; rfl
  · rw [e3 p p0 p1, h.e.al h.b.g.g h.st p0 p1]; rfl
theorem mP.make (h : mP K F I R C A lk U k) (hN : 2000000 < N) (hJ : ms I J) (p0 : 0 ≤ p) (p1 : p < A) (al : gp_al A C lk U k p = 1) : ∃ J', X12_make N K F 85 J 92 (k % 2) p = some (0, J') ∧ ms I J' ∧ J' 103 = J 103 ∧ gm_eq A (J' 91) (gp_mv A C lk U k p) ∧ J' 85 17 = gp_tk A C lk U k p := by
  have hu : gm_u (I 85) := by
    have := h.b.uu
    unfold gm_u at *
    rw [h.b.u 7 (by decide) (by decide), h.b.u 8 (by decide) (by decide), h.b.u 10 (by decide) (by decide)]
    exact this
  have m := gp_move h.b.g.g h.k0 h.k1 p0 p1 al
  obtain ⟨J', e1, e2, e3, e4, e5, e6⟩ := m_make_s (N := N) h.b.m h.b.g h.b.w hN hu (Or.inr rfl) (who := k % 2) (p := p) (by rw [h.b.l]; exact h.st) p0 p1 (by rw [h.b.l]; exact m.l) m.sd hJ
  rw [h.b.l, h.b.u 6 (by decide) (by decide), h.b.u 7 (by decide) (by decide), h.b.u 8 (by decide) (by decide), h.b.u 9 (by decide) (by decide)] at e5 e6
  have v := (h.e.mv h.b.g.g (kd := U 6) (mr := U 7) (lo := U 8) (hi := U 9) h.st p0 p1 m.l m.sd).1
  refine ⟨J', e1, e2, e3, e5.trans v, ?_⟩
  rw [e6, h.e.tot, v.tot]; rfl
theorem mP.place (h : mP K F I R C A lk U k) (hN : 100 < N) (hJ : ms I J) (p0 : 0 ≤ p) (p1 : p < A) (al : gp_al A C lk U k p = 1) (he : gm_eq A (J 91) (gp_mv A C lk U k p)) : X12_placeOf N K F J 85 91 (1 - k % 2) = some (gp_to A C lk U k p) := by
  have hA := h.b.g.A
  have hL := h.b.L
  have m := gp_move h.b.g.g h.k0 h.k1 p0 p1 al
  have b2 := h.b.sm hJ
  have lb := gp_ly_b (A := A) (lk := lk) (by omega) h.k0 h.k1
  have t0 := m.t0
  have tt := m.tot
  rw [m_placeOf (N := N) h.b.m b2.g hN (mwK_91 h.b.m) (by rw [b2.l]; exact he.symm.st m.s) (by rw [he.tot]; omega) (by omega), b2.l, he.nu]
  rfl
theorem mP.counts (h : mP K F I R C A lk U k) (hN : 100 < N) (hJ : ms I J) (s : Int) : X12_counts N K F J 85 92 (k % 2) s = some (gm_sm (gm_ct A (U 12) (gp_b A lk k) (k % 2) s) A.toNat) := by
  have h2 := h.sm hJ
  rw [m_counts (N := N) h.b.m h2.b.g (by omega) (mwK_92 h.b.m) h2.st.bd (k % 2) s, h2.b.u 12 (by decide) (by decide), gm_ct_eq h2.e]
theorem mP.reached (h : mP K F I R C A lk U k) (hN : 100 < N) (hJ : ms I J) (p0 : 0 ≤ p) (p1 : p < A) (al : gp_al A C lk U k p = 1) (he : gm_eq A (J 91) (gp_mv A C lk U k p)) (ht : J 85 17 = gp_tk A C lk U k p) (ho : gp_to A C lk U k p < 40000) {a2 : Nat} (hk : K a2 = (100, 40000)) (hb : -1000 ≤ J a2 (gp_to A C lk U k p) ∧ J a2 (gp_to A C lk U k p) ≤ 1000) : X12_reached N K F J 85 (k % 2) a2 = some (gp_tk A C lk U k p - J a2 (gp_to A C lk U k p)) := by
  have hA := h.b.g.A
  have hL := h.b.L
  have m := gp_move h.b.g.g h.k0 h.k1 p0 p1 al
  have l := m.ly (by omega) h.k0 h.k1
  have lb := gp_ly_b (A := A) (lk := lk) (by omega) h.k0 h.k1
  have t0 := m.t0
  have t1 := m.t1
  unfold X12_reached
  rw [mwF_85_16 h.b.m, if_pos (nb_in (by omega)), h.place hN hJ p0 p1 al he, am_cq_s, if_pos (nb_in (by omega)), hk, if_pos (show ((100, 40000) : Nat × Int).1 = 100 from rfl), if_pos (show 0 ≤ gp_to A C lk U k p ∧ gp_to A C lk U k p < 40000 by omega), ht, if_pos (nb_in (by omega))]
/-- places behind moves are small -/
theorem gp_to_lt {t : Int} (hg : gm_g R C A) (hL : 0 ≤ gm_L A lk) (k0 : 0 ≤ k) (k1 : k < gp_top A lk t) (ht : t ≤ 12) (p0 : 0 ≤ p) (p1 : p < A) (al : gp_al A C lk U k p = 1) : 0 ≤ gp_to A C lk U k p ∧ gp_to A C lk U k p < gp_top A lk t := by
  have m12 := gp_top_mono hL ht
  have m := gp_move hg k0 (show k < gp_top A lk 12 by omega) p0 p1 al
  have l := m.ly hL k0 (by omega)
  have le := gp_ly_le hL k0 (by omega) k1
  have := gp_top_mono hL le
  omega
/-- the model's best move -/
theorem m_bestOf (h : mB K F I R C A lk U) (hN : 2000000 < N) {t : Int} (k0 : 0 ≤ k) (k1 : k < gp_top A lk t) (ht : t ≤ 12) (hV : gp_top A lk t ≤ 40000) (hb : ∀ j, 0 ≤ j → j < gp_top A lk t → -1000 ≤ I 93 j ∧ I 93 j ≤ 1000) :
    ∃ J, X12_bestOf N K F 85 I k = some (gp_bst A C lk U (I 93) (I 94) k, J) ∧ (∀ b, b ≠ 92 → b ≠ 91 → b ≠ 103 → b ≠ 85 → J b = I b) ∧ (∀ j, j < 17 ∨ 19 < j → J 85 j = I 85 j) := by
  have hA := h.g.A
  have hL := h.L
  have hm := h.m
  have hk12 : k < gp_top A lk 12 := by have := gp_top_mono (A := A) (lk := lk) (by omega) ht; omega
  obtain ⟨J1, e1, e2, e3⟩ := m_lay (N := N) h (by omega) k0 hk12
  obtain ⟨J2, f1, f2, f3⟩ := e2.may hN
  have r93 : ∀ J, ms J1 J → J 93 = I 93 ∧ J 94 = I 94 := fun J hs => ⟨by rw [hs.row (by decide) (by decide) (by decide), e3 93 (by decide)], by rw [hs.row (by decide) (by decide) (by decide), e3 94 (by decide)]⟩
  have key : ∀ (d f : Nat) (J : am_I) (p : Int), A - p = d → d < f → 0 ≤ p → ms J1 J → (∀ q, 0 ≤ q → q < A → J 103 q = gp_al A C lk U k q) → ∃ J', X12_bestOf_h23 N K F 85 f J k (k % 2) p = some (gs_f (gp_qb A C lk U (I 93) (I 94) k) d p, J') ∧ ms J1 J' := by
    intro d
    induction d with
    | zero =>
      intro f J p hd hf p0 hs hq
      obtain ⟨f, rfl⟩ : ∃ g, f = g + 1 := ⟨f - 1, by omega⟩
      refine ⟨J, ?_, hs⟩
      show X12_bestOf_s23 N K F 85 (X12_bestOf_h23 N K F 85 f) J k (k % 2) p = _
      unfold X12_bestOf_s23
      rw [m_all (e2.b.sm hs).g, am_cq_s, if_neg (by omega)]
      rfl
    | succ d ih =>
      intro f J p hd hf p0 hs hq
      obtain ⟨f, rfl⟩ : ∃ g, f = g + 1 := ⟨f - 1, by omega⟩
      have nxt : ∀ J', ms J1 J' → J' 103 = J 103 → ∃ J'', X12_bestOf_b118 N K F 85 (X12_bestOf_h23 N K F 85 f) J' k (k % 2) p = some (gs_f (gp_qb A C lk U (I 93) (I 94) k) d (p + 1), J'') ∧ ms J1 J'' := by
        intro J' hs' h3
        obtain ⟨J'', g1, g2⟩ := ih f J' (p + 1) (by omega) (by omega) (by omega) hs' (by rw [h3]; exact hq)
        refine ⟨J'', ?_, g2⟩
        unfold X12_bestOf_b118
        rw [if_pos (nb_in (by omega))]
        exact g1
      have hstep : ∀ (X : Option (Int × am_I)), X12_bestOf_h23 N K F 85 (f + 1) J k (k % 2) p = X → X = X12_bestOf_s23 N K F 85 (X12_bestOf_h23 N K F 85 f) J k (k % 2) p := fun X q => q.symm
      have e0 : X12_bestOf_h23 N K F 85 (f + 1) J k (k % 2) p = X12_bestOf_s23 N K F 85 (X12_bestOf_h23 N K F 85 f) J k (k % 2) p := rfl
      rw [e0]
      have gsd : gs_f (gp_qb A C lk U (I 93) (I 94) k) (d + 1) p = if gp_qb A C lk U (I 93) (I 94) k p = true then p else gs_f (gp_qb A C lk U (I 93) (I 94) k) d (p + 1) := rfl
      rw [gsd]
      unfold X12_bestOf_s23
      rw [m_all (e2.b.sm hs).g, am_cq_s, if_pos (by omega), mwF_85_35 hm, mwK_103 hm, if_pos (show ((101, 32) : Nat × Int).1 = 101 from rfl), if_pos (show (0 : Int) ≤ p ∧ p < 32 by omega), hq p p0 (by omega)]
      by_cases al : gp_al A C lk U k p = 1
      · obtain ⟨J', g1, g2, g3, g4, g5⟩ := e2.make hN hs p0 (by omega) al
        obtain ⟨v93, v94⟩ := r93 J' g2
        have o := gp_to_lt h.g.g (U := U) (by omega) k0 k1 ht p0 (by omega) al
        have ob := hb _ o.1 o.2
        have kb := hb k k0 k1
        have gr := e2.reached (N := N) (by omega) g2 p0 (by omega) al g4 g5 (by omega) (mwK_93 hm) (by rw [v93]; exact ob)
        have gp := e2.place (N := N) (by omega) g2 p0 (by omega) al g4
        rw [if_neg (by omega), mwF_85_20 hm, g1, am_cl_s, mwF_85_25 hm, gr, am_cq_s, mwK_93 hm, if_pos (show ((100, 40000) : Nat × Int).1 = 100 from rfl), if_pos (show 0 ≤ k ∧ k < 40000 by omega), mwF_85_16 hm, gp, am_cq_s, mwF_85_26 hm, mwK_94 hm, v93, v94, g5]
        have ei := gp_isb_iff A C lk U (I 93) (I 94) k p
        have eq : gp_qb A C lk U (I 93) (I 94) k p = gp_isb A C lk U (I 93) (I 94) k p := by unfold gp_qb; rw [decide_eq_true al, Bool.true_and]
        obtain ⟨J'', n1, n2⟩ := nxt J' g2 g3
        rw [eq]
        by_cases w1 : gp_tk A C lk U k p - I 93 (gp_to A C lk U k p) = I 93 k
        · rw [if_pos w1]
          by_cases w2 : 0 < I 93 k
          · rw [if_pos w2]
            by_cases w3 : gp_tk A C lk U k p ≤ 0
            · rw [if_pos w3, if_pos (nb_in (by omega)), if_pos (nb_in (by omega)), if_pos (show ((100, 40000) : Nat × Int).1 = 100 from rfl), if_pos (show 0 ≤ gp_to A C lk U k p ∧ gp_to A C lk U k p < 40000 by omega), if_pos (show 0 ≤ k ∧ k < 40000 by omega)]
              by_cases w4 : I 94 (gp_to A C lk U k p) < I 94 k
              · rw [if_pos w4, if_pos (ei.mpr ⟨w1, Or.inr (Or.inr w4)⟩)]
                exact ⟨J', rfl, g2⟩
              · rw [if_neg w4, if_neg (fun v => (ei.mp v).2.elim (fun a => by omega) (fun a => a.elim (fun b => by omega) w4))]
                exact ⟨J'', n1, n2⟩
            · rw [if_neg w3, if_pos (ei.mpr ⟨w1, Or.inr (Or.inl (by omega))⟩)]
              exact ⟨J', rfl, g2⟩
          · rw [if_neg w2, if_pos (ei.mpr ⟨w1, Or.inl (by omega)⟩)]
            exact ⟨J', rfl, g2⟩
        · rw [if_neg w1, if_neg (fun v => w1 (ei.mp v).1)]
          exact ⟨J'', n1, n2⟩
      · have al0 : gp_al A C lk U k p = 0 := (gp_al_01 A C lk U k p).resolve_right al
        have eq : gp_qb A C lk U (I 93) (I 94) k p = false := by unfold gp_qb; rw [decide_eq_false al, Bool.false_and]
        rw [if_pos al0, eq, if_neg (by decide)]
        exact nxt J hs rfl
  obtain ⟨J3, g1, g2⟩ := key A.toNat N J2 0 (by omega) (by omega) (by omega) f2 f3
  refine ⟨J3, ?_, fun b b1 b2 b3 b4 => by rw [g2.row b2 b3 b4, e3 b b1], fun j q => by rw [g2.fld q, e3 85 (by decide)]⟩
  unfold X12_bestOf
  rw [e1, am_cl_s, mwF_85_20 hm, mwF_85_35 hm, f1, am_cl_s, g1]
  rfl
end MPLACE
