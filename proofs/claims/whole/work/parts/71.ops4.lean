-- CALLS: score, ofPlace, store, side, seeds
section OPS4
variable {N n : Nat} {K : am_K} {F : am_F} {I J : am_I} {R C A : Int} {lk U : Int → Int} {S x y z : Int}
theorem gm_ct_b {e : Int} {c : Int → Int} {m s : Int} (hn : ∀ j, 0 ≤ j → j < A → 0 ≤ c j) : 0 ≤ gm_sm (gm_ct A e c m s) A.toNat ∧ gm_sm (gm_ct A e c m s) A.toNat ≤ gm_tot A c := by
  have h0 := gm_sm_le (g := fun _ => 0) (g' := gm_ct A e c m s) (d := A.toNat) (fun i a b => by unfold gm_ct; have := hn i a (by omega); split <;> omega)
  have h1 := gm_sm_le (g := gm_ct A e c m s) (g' := c) (d := A.toNat) (fun i a b => by unfold gm_ct; have := hn i a (by omega); split <;> omega)
  rw [gm_sm_z (fun _ _ _ => rfl)] at h0
  exact ⟨h0, h1⟩
theorem c_counts (hc : cw K F) (hg : cg I R C A lk) (hN : 100 < N) (hu : cr I U) {a2 : Nat} (hk : K a2 = (100, 32)) (hb : gm_bd A (I a2)) {s m : Int} (hs : s = 0 ∨ s = 1) : X8_countsFor N K F I 15 s m a2 3 = some (gm_sm (gm_ct A (U 12) (I a2) m s) A.toNat) := by
  obtain ⟨k0, k1, k2, k3, k4, k5, k6⟩ := hu
  unfold X8_countsFor X8_countsFor_b37 X8_countsFor_b38
  rw [k6, c_seedsOf hc hg hN hk hs hb, c_seedsIn hc hg hN hk hb, am_cq_s, am_cq_s, cwK_3 hc]
  by_cases e0 : U 12 = 0
  · rw [if_pos e0, if_pos (show ((1, 0) : Nat × Int).1 = 1 from rfl)]
    congr 1
    refine gm_sm_congr (fun i a b => ?_)
    unfold gm_ct
    by_cases g : gm_sd A i = s
    · rw [if_pos g, if_pos (Or.inl ⟨e0, g⟩)]
    · rw [if_neg g, if_neg (by omega)]
  · rw [if_neg e0]
    by_cases e1 : U 12 = 1
    · rw [if_pos e1]
      by_cases g : s = m
      · rw [if_pos g]
        congr 1
        refine (gm_sm_z (fun i a b => ?_)).symm
        unfold gm_ct
        rw [if_neg (by omega)]
      · rw [if_neg g, if_pos (show ((1, 0) : Nat × Int).1 = 1 from rfl)]
        congr 1
        refine gm_sm_congr (fun i a b => ?_)
        unfold gm_ct
        rw [if_pos (Or.inr ⟨e1, g⟩)]
    · rw [if_neg e1]
      congr 1
      refine (gm_sm_z (fun i a b => ?_)).symm
      unfold gm_ct
      rw [if_neg (by omega)]
theorem gm_ct_eq {e : Int} {c c' : Int → Int} (h : gm_eq A c c') (m s : Int) : gm_sm (gm_ct A e c m s) A.toNat = gm_sm (gm_ct A e c' m s) A.toNat := gm_sm_congr (fun i a b => by unfold gm_ct; rw [h i a (by omega)])
/-- what a side has, at the position -/
def gm_sco (A C : Int) (lk U : Int → Int) (I : am_I) (s : Int) : Int := I 88 s + (if gm_sm (gm_al A C lk U (I 87) (I 85 5)) A.toNat = 0 then gm_sm (gm_ct A (U 12) (I 87) (I 85 5) s) A.toNat else 0)
theorem gm_al_nn (c : Int → Int) (who : Int) : 0 ≤ gm_sm (gm_al A C lk U c who) A.toNat := by
  have := gm_sm_le (g := fun _ => 0) (g' := gm_al A C lk U c who) (d := A.toNat) (fun i a b => by rcases gm_al_01 A C lk U c who i with w | w <;> omega)
  rw [gm_sm_z (fun _ _ _ => rfl)] at this
  exact this
theorem rel.store (h : rel n K F I R C A lk U S) {s : Int} (hs : s = 0 ∨ s = 1) : I 18 s = I 88 s ∧ 0 ≤ I 88 s ∧ I 88 s + gm_tot A (I 87) ≤ 600000 := by
  have := h.p.s0; have := h.p.s1; have := h.p.t; have := h.p.B
  rcases hs with rfl | rfl <;> omega
theorem c_scoreOf (h : rel n K F I R C A lk U S) (hN : 2000000 < N) {s : Int} (hs : s = 0 ∨ s = 1) : ∃ J, X11_scoreOf N K F 2 I s = some (gm_sco A C lk U I s, J) ∧ cs I J := by
  have hc := h.a.c
  obtain ⟨J, e1, e2, -⟩ := c_countOpen h hN
  have h1 := h.sc e2.sc
  have hst := h.store hs
  have hcb := gm_ct_b (A := A) (e := U 12) (c := I 87) (m := I 85 5) (s := s) h.p.s.1
  refine ⟨J, ?_, e2⟩
  have hcf := c_counts (N := N) hc h1.g.c (by omega) h1.u.c (cwK_17 hc) h1.st17.bd (m := I 85 5) hs
  have r17 : J 17 = I 17 := e2.row (by omega)
  have r18 : J 18 = I 18 := e2.row (by omega)
  have r16 : J 16 = I 16 := e2.row (by omega)
  rw [r17, gm_ct_eq h.eq17] at hcf
  unfold X11_scoreOf gm_sco
  simp only [e1, am_cl_s, cwF_2_2 hc, cwK_16 hc, cwF_16_1 hc, cwK_18 hc, cwF_2_1 hc, cwK_15 hc, cwF_16_0 hc, cwF_2_0 hc, r16, r18, h.p.w, hcf, am_cq_s]
  have hnn := gm_al_nn (A := A) (C := C) (lk := lk) (U := U) (I 87) (I 85 5)
  by_cases g : gm_sm (gm_al A C lk U (I 87) (I 85 5)) A.toNat = 0
  · rw [if_neg (by omega), if_pos trivial, if_pos trivial, if_pos (by omega), if_pos trivial, if_pos (nb_in (by omega)), hst.1, if_pos g]
  · rw [if_pos (by omega), if_pos trivial, if_pos trivial, if_pos (by omega), hst.1, if_neg g, Int.add_zero]
theorem m_scored (h : rel n K F I R C A lk U S) (hN : 2000000 < N) {s : Int} (hs : s = 0 ∨ s = 1) : ∃ J, X12_scored N K F 85 I s = some (gm_sco A C lk U I s, J) ∧ ms I J := by
  have hm := h.a.m
  obtain ⟨J, e1, e2, -⟩ := m_allowed h hN
  have h1 := h.sc e2.sc
  have hst := h.store hs
  have hcb := gm_ct_b (A := A) (e := U 12) (c := I 87) (m := I 85 5) (s := s) h.p.s.1
  refine ⟨J, ?_, e2⟩
  have r87 : J 87 = I 87 := e2.sc.r87.1
  have r5 : J 85 5 = I 85 5 := e2.sc.r87.2.1
  have r12 : J 85 12 = U 12 := h1.u.m 12 (by omega) (by omega)
  have hcf := m_counts (N := N) hm h1.g.m (by omega) (mwK_87 hm) h1.p.s.bd (I 85 5) s
  rw [r87, r12] at hcf
  unfold X12_scored X12_over X12_allowed X12_over_b12 X12_scored_b31 gm_sco
  simp only [mwF_85_4 hm, mwK_88 hm, mwF_85_3 hm, mwF_85_35 hm, e1, am_cl_s]
  rw [if_pos trivial, if_pos (by omega)]
  by_cases g : gm_sm (gm_al A C lk U (I 87) (I 85 5)) A.toNat = 0
  · rw [if_pos g, if_pos g, am_cl_s, if_pos rfl, r5, hcf, am_cq_s, if_pos (nb_in (by omega))]
  · rw [if_neg g, if_neg g, am_cl_s, if_neg (by decide), if_pos (nb_in (by omega))]
theorem gm_sco_sc (hs : sc I J) (s : Int) : gm_sco A C lk U J s = gm_sco A C lk U I s := by
  obtain ⟨a, b, c⟩ := hs.r87
  unfold gm_sco
  rw [a, b, c]
theorem e_score (h : rel n K F I R C A lk U S) (hN : 2000000 < N) : eqv (fun J => rel n K F J R C A lk U S) (X11_score N K F 2 I x) (fun J => X12_score N K F 85 J x) := by
  by_cases w : x = 0 ∨ x = 1
  · obtain ⟨J, e1, e2⟩ := c_scoreOf h hN w
    have h1 : rel n K F (am_u2 J 2 9 0) R C A lk U S := h.sc (e2.sc.st2 0)
    obtain ⟨J', f1, f2⟩ := m_scored h1 hN w
    rw [gm_sco_sc (e2.sc.st2 0)] at f1
    refine eqv_mk (v := gm_sco A C lk U I x) (J := am_u2 J 2 9 0) (J' := am_u2 J' 85 15 0) ?_ ?_ (h1.sc (f2.sc.st85 0)) ?_
    · unfold X11_score
      rw [c_isSide, am_cq_s, if_pos w, if_neg (by decide), e1, am_cl_s]; rfl
    · show X12_score N K F 85 _ x = _
      unfold X12_score X12_score_b27
      rw [m_isIn, am_cq_s, if_pos (show 0 ≤ x ∧ x ≤ 1 by omega), if_neg (by decide), f1, am_cl_s]; rfl
    · rw [am_u2_s, am_u2_a (by decide), f2.row (b := 2) (by decide) (by decide) (by decide), am_u2_s]
  · refine e_no' h 3 ?_ ?_
    · unfold X11_score
      rw [c_isSide, am_cq_s, if_neg w, if_pos rfl]; rfl
    · show X12_score N K F 85 (am_u2 I 2 9 _) x = _
      unfold X12_score
      rw [m_isIn, am_cq_s, if_neg (show ¬ (0 ≤ x ∧ x ≤ 1) by omega), if_pos rfl]; rfl
theorem gm_lv_sur {lk : Int → Int} : ∀ (a : Nat) (i : Int), 0 ≤ i → i < gm_sm (gm_lv lk) a → ∃ k : Nat, k < a ∧ lk (k : Int) = 0 ∧ gm_sm (gm_lv lk) k = i := by
  intro a
  induction a with
  | zero => intro i h0 h1; rw [gm_sm_0] at h1; omega
  | succ a ih =>
    intro i h0 h1
    by_cases g : i < gm_sm (gm_lv lk) a
    · obtain ⟨k, k1, k2, k3⟩ := ih i h0 g
      exact ⟨k, by omega, k2, k3⟩
    · rw [gm_sm_s] at h1
      have h01 := gm_lv_01 lk (a : Int)
      refine ⟨a, by omega, ?_, by omega⟩
      by_cases w : lk (a : Int) = 0
      · exact w
      · have : gm_lv lk (a : Int) = 0 := by unfold gm_lv; rw [if_neg w]
        omega
theorem m_ofPlace_l (hm : mw K F) (h86 : I 86 = lk) {p : Nat} (hp : (p : Int) < 32) (hl : lk (p : Int) = 0) {k : Int} (hk : k = gm_sm (gm_lv lk) p) : ∀ (d f : Nat) (m : Nat), p + 1 - m = d → m ≤ p + 1 → d < f → X12_ofPlace_h71 N K F 85 f I k (gm_sm (gm_lv lk) m - 1) ((m : Int) - 1) = some (I 92 (p : Int), am_u2 I 85 15 0) := by
  intro d
  induction d with
  | zero =>
    intro f m hd hm2 hf
    obtain ⟨f, rfl⟩ : ∃ g, f = g + 1 := ⟨f - 1, by omega⟩
    have e : m = p + 1 := by omega
    subst e
    have e1 : gm_lv lk (p : Int) = 1 := by unfold gm_lv; rw [if_pos hl]
    show X12_ofPlace_s71 N K F 85 (X12_ofPlace_h71 N K F 85 f) I k _ _ = _
    unfold X12_ofPlace_s71
    rw [gm_sm_s, e1, if_neg (by omega), mwF_85_20 hm, mwK_92 hm, if_pos (show ((100, 32) : Nat × Int).1 = 100 from rfl), if_pos (show (0 : Int) ≤ ((p + 1 : Nat) : Int) - 1 ∧ ((p + 1 : Nat) : Int) - 1 < 32 by omega), m_okk, am_cl_s, show ((p + 1 : Nat) : Int) - 1 = (p : Int) by omega]
  | succ d ih =>
    intro f m hd hm2 hf
    obtain ⟨f, rfl⟩ : ∃ g, f = g + 1 := ⟨f - 1, by omega⟩
    have hr := ih f (m + 1) (by omega) (by omega) (by omega)
    have hmo := gm_smm (g := gm_lv lk) (fun i => (gm_lv_01 lk i).1) m (p - m)
    rw [show m + (p - m) = p by omega] at hmo
    have hmb := gm_sm_b (g := gm_lv lk) (B := 1) (d := m) (fun i _ _ => gm_lv_01 _ _)
    rw [gm_sm_s, show ((m + 1 : Nat) : Int) - 1 = (m : Int) by omega] at hr
    show X12_ofPlace_s71 N K F 85 (X12_ofPlace_h71 N K F 85 f) I k _ _ = _
    unfold X12_ofPlace_s71 X12_ofPlace_b97
    rw [if_pos (by omega), if_pos (nb_in (by omega)), mwF_85_2 hm, mwK_86 hm, h86, show (m : Int) - 1 + 1 = (m : Int) by omega]
    unfold am_lt
    dsimp only
    rw [if_pos (show (101 : Nat) = 101 from rfl), if_pos (show (0 : Int) ≤ (m : Int) ∧ (m : Int) < 32 by omega)]
    by_cases g : lk (m : Int) = 0
    · have e1 : gm_lv lk (m : Int) = 1 := by unfold gm_lv; rw [if_pos g]
      rw [e1] at hr
      rw [if_pos g, if_pos (nb_in (by omega)), ← hr]
      congr 1
      omega
    · have e1 : gm_lv lk (m : Int) = 0 := by unfold gm_lv; rw [if_neg g]
      rw [e1] at hr
      rw [if_neg g, if_pos (nb_in (by omega)), ← hr]
      congr 1
      omega
theorem e_ofPlace (h : rel n K F I R C A lk U S) (hN : 100 < N) (hx : am_inL x) : eqv (fun J => rel n K F J R C A lk U S) (X11_ofPlace N K F 2 I x y) (fun J => X12_ofPlace N K F 85 J x y) := by
  have hc := h.a.c
  have hm := h.a.m
  have hL := h.L
  have hA := h.g.m.A
  have b1 := gW_le (m := gm_L A lk + 1) (k := 12) (by omega) (by omega)
  have b2 := gW_nn (gm_L A lk + 1) 12
  have hup := c_boardsUpTo (N := N) (k := 12) hc h.g.t h.g.c (by omega)
  have mod : ∀ {J : am_I}, rel n K F J R C A lk U S → X12_ofPlace N K F 85 J x y = (if 0 ≤ x ∧ x ≤ 2 * gW (gm_L A lk + 1) 12 - 1 then (if -1 ≤ y ∧ y ≤ gm_L A lk - 1 then am_cl (X12_layOut N K F 85 J x) (fun v_6 I_7 => if y < 0 then (am_cl (X12_ok N K F 85 I_7 v_6) (fun v_8 I_9 => some (v_8, I_9))) else (X12_ofPlace_h71 N K F 85 N I_7 y (-1) (-1))) else some (-1, am_u2 J 85 15 7)) else some (-1, am_u2 J 85 15 3)) := by
    intro J hJ
    have hth : X12_there N K F J 85 = some (gm_L A lk) := by have := m_there (N := N) hm hJ.g.m (by omega); rw [hJ.g.k] at this; exact this
    unfold X12_ofPlace
    rw [hJ.pos hN (by omega), am_cq_s, m_isIn, am_cq_s, nb_wL (by omega)]
    by_cases w : 0 ≤ x ∧ x ≤ 2 * gW (gm_L A lk + 1) 12 - 1
    · rw [if_pos w, if_neg (by decide), hth, am_cq_s, if_pos (nb_in (by omega)), m_isIn, am_cq_s, if_pos w]
      by_cases w2 : -1 ≤ y ∧ y ≤ gm_L A lk - 1
      · rw [if_pos w2, if_neg (by decide), if_pos w2]
      · rw [if_neg w2, if_pos rfl, if_neg w2]; rfl
    · rw [if_neg w, if_pos rfl, if_neg w]; rfl
  by_cases w : 0 ≤ x ∧ x ≤ 2 * gW (gm_L A lk + 1) 12 - 1
  · by_cases w2 : -1 ≤ y ∧ y ≤ gm_L A lk - 1
    · by_cases w3 : y = -1
      · have h1 : rel n K F (am_u2 I 2 9 0) R C A lk U S := h.sc (sc.rfl.st2 0)
        have hlo := m_layOut (N := N) hm h1.g.m hN (pl := x) w.1 (by rw [h1.g.k]; omega)
        refine eqv_mk (v := x % 2) (J := am_u2 I 2 9 0) (J' := am_u2 (am_row (am_u2 I 2 9 0) 92 (gm_ld A (gm_bd2 A lk (x / 2)) (am_u2 I 2 9 0 92))) 85 15 0) ?_ ?_ (h1.sc ((sc.rfl.rd _).st85 0)) ?_
        · unfold X11_ofPlace
          simp only [cwF_2_4 hc, cwK_56 hc, hup, am_cq_s, nb_wL (show -9000000000000000000 ≤ 2 * gW (gm_L A lk + 1) 12 ∧ 2 * gW (gm_L A lk + 1) 12 ≤ 9000000000000000000 by omega), nb_cge, cwF_2_0 hc, cwK_3 hc, h.g.c.2.1.2.2.2, nb_land1 (show 0 ≤ x ∧ x < 9223372036854775808 by omega), c_acc, am_cl_s]
          rw [if_pos w.1, if_pos trivial, if_neg (by omega), if_pos w2.1, if_pos trivial, if_neg (by omega), if_pos w3, if_pos (nb_in (by omega))]
        · show X12_ofPlace N K F 85 _ x y = _
          rw [mod h1, if_pos w, if_pos w2, hlo, am_cl_s, if_pos (by omega), h1.g.k]; rfl
        · rw [am_u2_s, am_u2_a (by decide), am_row_n (by decide), am_u2_s]
      · obtain ⟨p, p1, p2, p3⟩ := gm_lv_sur (lk := lk) A.toNat y (by omega) (by show y < gm_L A lk; omega)
        have hsb := c_seedsOfBoard (N := N) hc h.g.t h.g.c h.g.l hN (b := x / 2) (k := y) (by omega) (by omega) (p := p) (by omega) p2 p3.symm
        have h1 : rel n K F (am_u2 (am_row I 58 (gm_ld 32 (gm_bd2 A lk (x / 2)) (I 58))) 2 9 0) R C A lk U S := h.sc ((sc.rfl.c58 _).st2 0)
        have hlo := m_layOut (N := N) hm h1.g.m hN (pl := x) w.1 (by rw [h1.g.k]; omega)
        rw [h1.g.k] at hlo
        generalize hJ : am_u2 (am_row I 58 (gm_ld 32 (gm_bd2 A lk (x / 2)) (I 58))) 2 9 0 = J at *
        have h2 : rel n K F (am_row J 92 (gm_ld A (gm_bd2 A lk (x / 2)) (J 92))) R C A lk U S := h1.sc (sc.rfl.rd _)
        have hl := m_ofPlace_l (N := N) (F := F) (K := K) hm h2.g.k (p := p) (by omega) p2 p3.symm (p + 1) N 0 (by omega) (by omega) (by omega)
        rw [gm_sm_0, am_row_s] at hl
        have e2 : gm_ld A (gm_bd2 A lk (x / 2)) (J 92) (p : Int) = gm_bd2 A lk (x / 2) (p : Int) := by unfold gm_ld; rw [if_pos (by omega)]
        rw [e2] at hl
        refine eqv_mk (v := gm_bd2 A lk (x / 2) (p : Int)) (J := J) (J' := am_u2 (am_row J 92 (gm_ld A (gm_bd2 A lk (x / 2)) (J 92))) 85 15 0) ?_ ?_ (h2.sc (sc.rfl.st85 0)) ?_
        · rw [← hJ]
          unfold X11_ofPlace
          simp only [cwF_2_4 hc, cwK_56 hc, hup, am_cq_s, nb_wL (show -9000000000000000000 ≤ 2 * gW (gm_L A lk + 1) 12 ∧ 2 * gW (gm_L A lk + 1) 12 ≤ 9000000000000000000 by omega), nb_cge, cwF_2_0 hc, cwK_3 hc, h.g.c.2.1.2.2.2, nb_lshr1 (show 0 ≤ x ∧ x < 9223372036854775808 by omega), c_acc, am_cl_s, hsb]
          rw [if_pos w.1, if_pos trivial, if_neg (by omega), if_pos w2.1, if_pos trivial, if_neg (by omega), if_neg w3]
        · show X12_ofPlace N K F 85 J x y = _
          rw [mod h1, if_pos w, if_pos w2, hlo, am_cl_s, if_neg (by omega)]
          exact hl
        · rw [am_u2_s, am_u2_a (by decide), am_row_n (by decide), ← hJ, am_u2_s]
    · refine e_no' h 7 ?_ ?_
      · unfold X11_ofPlace X11_ofPlace_b46
        simp only [cwF_2_4 hc, cwK_56 hc, hup, am_cq_s, nb_wL (show -9000000000000000000 ≤ 2 * gW (gm_L A lk + 1) 12 ∧ 2 * gW (gm_L A lk + 1) 12 ≤ 9000000000000000000 by omega), nb_cge, cwF_2_0 hc, cwK_3 hc, h.g.c.2.1.2.2.2]
        rw [if_pos w.1, if_pos trivial, if_neg (by omega)]
        by_cases g : -1 ≤ y
        · rw [if_pos g, if_pos trivial, if_pos (by omega)]; rfl
        · rw [if_neg g]; rfl
      · show X12_ofPlace N K F 85 _ x y = _
        rw [mod (h.sc (sc.rfl.st2 _)), if_pos w, if_neg w2]
  · refine e_no' h 3 ?_ ?_
    · unfold X11_ofPlace X11_ofPlace_b24
      simp only [cwF_2_4 hc, cwK_56 hc, hup, am_cq_s, nb_wL (show -9000000000000000000 ≤ 2 * gW (gm_L A lk + 1) 12 ∧ 2 * gW (gm_L A lk + 1) 12 ≤ 9000000000000000000 by omega), nb_cge]
      by_cases g : 0 ≤ x
      · rw [if_pos g, if_pos trivial, if_pos (by omega)]; rfl
      · rw [if_neg g]; rfl
    · show X12_ofPlace N K F 85 _ x y = _
      rw [mod (h.sc (sc.rfl.st2 _)), if_neg w]
end OPS4
