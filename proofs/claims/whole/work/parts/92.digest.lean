-- CALLS: digest
def gd (d x : Int) : Int := am_wL (am_wL (d * 31) + x)
def gdp (lk c : Int → Int) (p : Int) : Int := if lk p = 0 then c p else -1
/-- behind the pits -/
def gdt (A C : Int) (lk U : Int → Int) (I : am_I) (d : Int) : Int := gd (gd (gd (gd (gd (gd (gd (gd d (I 88 0)) (I 88 1)) (I 85 5)) (if gm_sm (gm_al A C lk U (I 87) (I 85 5)) A.toNat = 0 then 1 else 0)) (I 85 37)) (gm_sm (gm_al A C lk U (I 87) (I 85 5)) A.toNat)) (gm_sco A C lk U I 0)) (gm_sco A C lk U I 1)
def gdq (I : am_I) (k d : Int) : Int := gd (gd (gd (gd d (I 93 k)) (I 94 k)) (I 95 k)) (I 96 k)
def gda (A C : Int) (lk U : Int → Int) (I : am_I) (d : Int) : Int := if I 85 21 = 0 then gdt A C lk U I d else am_fr (gdq I) (gp_top A lk (I 85 23 - 1)).toNat 0 (gd (gdt A C lk U I d) (gp_top A lk (I 85 23 - 1)))
section DIGEST
variable {N n : Nat} {K : am_K} {F : am_F} {I J J' : am_I} {R C A : Int} {lk U : Int → Int} {S x y z k p : Int}
theorem c_digestFrom (h : rel n K F I R C A lk U S) (hN : 2000000 < N) (w : I 85 21 ≠ 0) (d : Int) : X9_digestFrom N K F I 62 d = some (am_fr (gdq I) (gp_top A lk (I 85 23 - 1)).toNat 0 (gd d (gp_top A lk (I 85 23 - 1)))) := by
  have q := h.on w
  have v := h.V q
  have nn := gp_top_nn (A := A) (lk := lk) (I 85 23 - 1)
  have hl := am_for (fun f s j => X9_digestFrom_h15 N K F I 62 f s j) (gp_top A lk (I 85 23 - 1)) (gdq I) (fun j _ => 0 ≤ j ∧ j ≤ gp_top A lk (I 85 23 - 1)) (fun _ s => some s) ?_ ?_ (gp_top A lk (I 85 23 - 1)).toNat N (gd d (gp_top A lk (I 85 23 - 1))) 0 (by omega) (by omega) ⟨by omega, nn⟩
  · unfold X9_digestFrom am_lt
    dsimp only
    rw [q.s]
    exact hl.1
  · intro f s j j1 hi
    refine ⟨?_, by omega, by omega⟩
    show X9_digestFrom_s15 N K F I 62 (X9_digestFrom_h15 N K F I 62 f) s j = X9_digestFrom_h15 N K F I 62 f _ _
    generalize X9_digestFrom_h15 N K F I 62 f = kk
    have e1 := q.v j hi.1 j1
    have e2 := q.cl j hi.1 (by omega)
    unfold X9_digestFrom_s15 am_lt
    dsimp only
    rw [q.s, if_pos j1, if_pos h.a.v1, if_pos (by omega), h.a.v2, if_pos (show ((100, (K (F 62 4)).2) : Nat × Int).1 = 100 from rfl), if_pos (show 0 ≤ j ∧ j < (K (F 62 4)).2 by omega), h.a.v3, if_pos (show ((100, (K (F 62 4)).2) : Nat × Int).1 = 100 from rfl), if_pos (show 0 ≤ j ∧ j < (K (F 62 4)).2 by omega), h.a.v4, if_pos (show ((100, (K (F 62 4)).2) : Nat × Int).1 = 100 from rfl), if_pos (show 0 ≤ j ∧ j < (K (F 62 4)).2 by omega), if_pos (nb_in (by omega)), e1.1, e1.2.1, e2.1, e2.2.1]
    rfl
  · intro f s j j1 hi
    show X9_digestFrom_s15 N K F I 62 _ s j = _
    unfold X9_digestFrom_s15
    rw [q.s, if_neg j1]
theorem m_digestFrom (h : rel n K F I R C A lk U S) (hN : 2000000 < N) (w : I 85 21 ≠ 0) (d : Int) : X12_digest_h164 N K F 85 N I d 0 = some (am_fr (gdq I) (gp_top A lk (I 85 23 - 1)).toNat 0 d, I) := by
  have hm := h.a.m
  have q := h.on w
  have v := h.V q
  have nn := gp_top_nn (A := A) (lk := lk) (I 85 23 - 1)
  have hl := am_for (fun f s j => X12_digest_h164 N K F 85 f I s j) (gp_top A lk (I 85 23 - 1)) (gdq I) (fun j _ => 0 ≤ j ∧ j ≤ gp_top A lk (I 85 23 - 1)) (fun _ s => some (s, I)) ?_ ?_ (gp_top A lk (I 85 23 - 1)).toNat N d 0 (by omega) (by omega) ⟨by omega, nn⟩
  · exact hl.1
  · intro f s j j1 hi
    refine ⟨?_, by omega, by omega⟩
    show X12_digest_s164 N K F 85 (X12_digest_h164 N K F 85 f) I s j = X12_digest_h164 N K F 85 f _ _ _
    generalize X12_digest_h164 N K F 85 f = kk
    unfold X12_digest_s164 am_lt
    dsimp only
    rw [q.s2, if_pos j1, mwF_85_25 hm, mwK_93 hm, if_pos (show ((100, 40000) : Nat × Int).1 = 100 from rfl), if_pos (show 0 ≤ j ∧ j < 40000 by omega), mwF_85_26 hm, mwK_94 hm, if_pos (show ((100, 40000) : Nat × Int).1 = 100 from rfl), if_pos (show 0 ≤ j ∧ j < 40000 by omega), mwF_85_27 hm, mwK_95 hm, if_pos (show ((100, 40000) : Nat × Int).1 = 100 from rfl), if_pos (show 0 ≤ j ∧ j < 40000 by omega), mwF_85_28 hm, mwK_96 hm, if_pos (show ((100, 40000) : Nat × Int).1 = 100 from rfl), if_pos (show 0 ≤ j ∧ j < 40000 by omega), if_pos (nb_in (by omega))]
    rfl
  · intro f s j j1 hi
    show X12_digest_s164 N K F 85 _ I s j = _
    unfold X12_digest_s164
    rw [q.s2, if_neg j1]
theorem gdt_sc (hs : sc I J) (d : Int) : gdt A C lk U J d = gdt A C lk U I d := by
  obtain ⟨r1, r2, r3⟩ := hs.r87
  unfold gdt
  rw [gm_sco_sc hs, gm_sco_sc hs, r1, r2, r3, hs.fld (j := 37) (by omega)]
theorem gda_sc (hs : sc I J) (d : Int) : gda A C lk U J d = gda A C lk U I d := by
  have e : gdq J = gdq I := by funext k d; unfold gdq; rw [hs.row (b := 93) (by decide), hs.row (b := 94) (by decide), hs.row (b := 95) (by decide), hs.row (b := 96) (by decide)]
  unfold gda
  rw [gdt_sc hs, e, hs.fld (j := 21) (by omega), hs.fld (j := 23) (by omega)]
theorem c_digest (h : rel n K F I R C A lk U S) (hN : 2000000 < N) : ∃ J, X11_digest N K F 2 I = some (gda A C lk U I (am_fr (fun p d => gd d (gdp lk (I 87) p)) A.toNat 0 7), J) ∧ cs I J := by
  have hc := h.a.c
  have hA := h.g.m.A
  obtain ⟨J1, e1, e2, -, -⟩ := c_countOpen h hN
  have h1 := h.sc e2.sc
  obtain ⟨J2, f1, f2⟩ := c_scoreOf h1 hN (Or.inl rfl)
  have h2 := h1.sc f2.sc
  obtain ⟨J3, g1, g2⟩ := c_scoreOf h2 hN (Or.inr rfl)
  have h3 := h2.sc g2.sc
  have s12 := e2.sc.trans f2.sc
  have s13 := s12.trans g2.sc
  rw [gm_sco_sc e2.sc] at f1
  rw [gm_sco_sc s12] at g1
  have w0 := h1.p.w
  rw [e2.sc.r87.2.1] at w0
  have a0 := h1.h.a
  have e37 : J1 85 37 = I 85 37 := e2.sc.fld (by omega)
  rw [e37] at a0
  have e21 : J3 85 21 = I 85 21 := s13.fld (by omega)
  have b3 := h3.q.b
  rw [e21] at b3
  have hp := h.p
  have tail : ∀ (kk : am_I → Int → Int → Option (Int × am_I)) (d : Int), X11_digest_s6 N K F 2 kk I d A = some (gda A C lk U I d, J3) := by
    intro kk d
    have b124 : ∀ ov : Int, X11_digest_b124 N K F 2 J1 (gm_sm (gm_al A C lk U (I 87) (I 85 5)) A.toNat) ov (am_wL (gd (gd (gd d (I 88 0)) (I 88 1)) (I 85 5) * 31)) = some (if I 85 21 = 0 then gd (gd (gd (gd (gd (gd (gd (gd d (I 88 0)) (I 88 1)) (I 85 5)) ov) (I 85 37)) (gm_sm (gm_al A C lk U (I 87) (I 85 5)) A.toNat)) (gm_sco A C lk U I 0)) (gm_sco A C lk U I 1) else am_fr (gdq I) (gp_top A lk (I 85 23 - 1)).toNat 0 (gd (gd (gd (gd (gd (gd (gd (gd (gd d (I 88 0)) (I 88 1)) (I 85 5)) ov) (I 85 37)) (gm_sm (gm_al A C lk U (I 87) (I 85 5)) A.toNat)) (gm_sco A C lk U I 0)) (gm_sco A C lk U I 1)) (gp_top A lk (I 85 23 - 1))), J3) := by
      intro ov
      unfold X11_digest_b124 X11_digest_b199 am_lt
      dsimp only
      rw [cwF_2_5 hc, cwK_59 hc, if_pos (show ((4, 0) : Nat × Int).1 = 4 from rfl), a0, f1, am_cl_s, g1, am_cl_s, cwF_2_6 hc, cwK_62 hc, if_pos (show ((9, 0) : Nat × Int).1 = 9 from rfl)]
      by_cases w : I 85 21 = 0
      · rw [if_pos (by omega), if_pos w]; rfl
      · have e := c_digestFrom h3 hN (by rw [e21]; exact w)
        have eq : gdq J3 = gdq I := by funext k d; unfold gdq; rw [s13.row (b := 93) (by decide), s13.row (b := 94) (by decide), s13.row (b := 95) (by decide), s13.row (b := 96) (by decide)]
        rw [if_neg (by omega), if_neg w, e, am_cq_s, eq, s13.fld (j := 23) (by omega)]; rfl
    unfold X11_digest_s6 am_lt
    dsimp only
    rw [cwF_2_0 hc, cwK_3 hc, if_pos (show ((1, 0) : Nat × Int).1 = 1 from rfl), h.g.c.2.1.2.2.1, if_neg (by omega), cwF_2_2 hc, cwK_16 hc, if_pos (show ((6, 0) : Nat × Int).1 = 6 from rfl), cwF_16_1 hc, cwK_18 hc, if_pos (show ((100, 2) : Nat × Int).1 = 100 from rfl), if_pos (by decide), if_pos (by decide), hp.s0.1, hp.s1.1, e1, am_cl_s, w0]
    unfold gda gdt
    by_cases g : gm_sm (gm_al A C lk U (I 87) (I 85 5)) A.toNat = 0
    · rw [if_pos g]
      refine (b124 1).trans ?_
      rw [if_pos g]
    · rw [if_neg g]
      refine (b124 0).trans ?_
      rw [if_neg g]
  have hl := am_for (fun f s j => X11_digest_h6 N K F 2 f I s j) A (fun p d => gd d (gdp lk (I 87) p)) (fun j _ => 0 ≤ j ∧ j ≤ A) (fun j s => some (gda A C lk U I s, J3)) ?_ ?_ A.toNat N 7 0 (by omega) (by omega) ⟨by omega, by omega⟩
  · exact ⟨J3, hl.1, (e2.trans f2).trans g2⟩
  · intro f s j j1 hi
    refine ⟨?_, by omega, by omega⟩
    show X11_digest_s6 N K F 2 (X11_digest_h6 N K F 2 f) I s j = X11_digest_h6 N K F 2 f _ _ _
    generalize X11_digest_h6 N K F 2 f = kk
    unfold X11_digest_s6 X11_digest_b47 am_lt gdp
    dsimp only
    rw [cwF_2_0 hc, cwK_3 hc, if_pos (show ((1, 0) : Nat × Int).1 = 1 from rfl), h.g.c.2.1.2.2.1, if_pos j1, cwF_3_4 hc, cwK_4 hc, if_pos (show ((101, 32) : Nat × Int).1 = 101 from rfl), if_pos (show 0 ≤ j ∧ j < 32 by omega), (h.g.c.2.2.1 j hi.1 j1).1, if_pos (nb_in (by omega))]
    by_cases g : lk j = 0
    · rw [if_pos g, if_pos g, cwF_2_2 hc, cwK_16 hc, if_pos (show ((6, 0) : Nat × Int).1 = 6 from rfl), cwF_16_0 hc, cwK_17 hc, if_pos (show ((100, 32) : Nat × Int).1 = 100 from rfl), if_pos (show 0 ≤ j ∧ j < 32 by omega), hp.e j hi.1 (by omega)]
      rfl
    · rw [if_neg g, if_neg g, if_pos (nb_in (by omega))]; rfl
  · intro f s j j1 hi
    have e : j = A := by omega
    subst e
    exact tail _ s
theorem m_over (h : rel n K F I R C A lk U S) (hN : 2000000 < N) : ∃ J, X12_over N K F 85 I = some (if gm_sm (gm_al A C lk U (I 87) (I 85 5)) A.toNat = 0 then 1 else 0, J) ∧ ms I J := by
  have hm := h.a.m
  obtain ⟨J, f1, f2, -⟩ := m_allowed h hN
  refine ⟨J, ?_, f2⟩
  unfold X12_over X12_allowed X12_over_b12
  rw [mwF_85_3 hm, mwF_85_35 hm, f1, am_cl_s, am_cl_s]
  by_cases g : gm_sm (gm_al A C lk U (I 87) (I 85 5)) A.toNat = 0
  · rw [if_pos g, if_pos g]
  · rw [if_neg g, if_neg g]
theorem m_digest (h : rel n K F I R C A lk U S) (hN : 2000000 < N) : ∃ J, X12_digest N K F 85 I = some (gda A C lk U I (am_fr (fun p d => gd d (gdp lk (I 87) p)) A.toNat 0 7), J) ∧ ms I J := by
  have hm := h.a.m
  have hA := h.g.m.A
  obtain ⟨J1, e1, e2⟩ := m_over h hN
  have h1 := h.sc e2.sc
  obtain ⟨J2, f1, f2, -⟩ := m_allowed h1 hN
  have h2 := h1.sc f2.sc
  obtain ⟨J3, g1, g2⟩ := m_scored h2 hN (Or.inl rfl)
  have h3 := h2.sc g2.sc
  obtain ⟨J4, k1, k2⟩ := m_scored h3 hN (Or.inr rfl)
  have h4 := h3.sc k2.sc
  have s12 := e2.sc.trans f2.sc
  have s13 := s12.trans g2.sc
  have s14 := s13.trans k2.sc
  rw [gm_sco_sc s12] at g1
  rw [gm_sco_sc s13] at k1
  obtain ⟨r1, r2, -⟩ := e2.sc.r87
  rw [r1, r2] at f1
  have e37 : J1 85 37 = I 85 37 := e2.sc.fld (by omega)
  have e21 : J4 85 21 = I 85 21 := s14.fld (by omega)
  have tail : ∀ (kk : am_I → Int → Int → Option (Int × am_I)) (d : Int), X12_digest_s6 N K F 85 kk I d A = some (gda A C lk U I d, J4) := by
    intro kk d
    unfold X12_digest_s6 am_lt
    dsimp only
    have eT : X12_turn N K F I 85 = some (I 85 5) := rfl
    have eM : X12_moves N K F J1 85 = some (I 85 37) := by rw [← e37]; rfl
    have eA : X12_allowed N K F 85 J1 = some (gm_sm (gm_al A C lk U (I 87) (I 85 5)) A.toNat, J2) := by
      unfold X12_allowed
      rw [mwF_85_3 hm, mwF_85_35 hm, r2, f1, am_cl_s]
    rw [m_all h.g.m, am_cq_s, if_neg (by omega), mwF_85_4 hm, mwK_88 hm, if_pos (show ((100, 2) : Nat × Int).1 = 100 from rfl), if_pos (by decide), if_pos (by decide), eT, am_cq_s, e1, am_cl_s, eM, am_cq_s, eA, am_cl_s, g1, am_cl_s, k1, am_cl_s, e21]
    unfold gda
    by_cases w : I 85 21 = 0
    · rw [if_pos w, if_pos w]; rfl
    · have e := m_digestFrom h4 hN (by rw [e21]; exact w)
      have eq : gdq J4 = gdq I := by funext k d; unfold gdq; rw [s14.row (b := 93) (by decide), s14.row (b := 94) (by decide), s14.row (b := 95) (by decide), s14.row (b := 96) (by decide)]
      have q4 := h4.on (by rw [e21]; exact w)
      have e23 : J4 85 23 = I 85 23 := s14.fld (by omega)
      rw [if_neg w, if_neg w, e, eq, q4.s2, e23]; rfl
  have hl := am_for (fun f s j => X12_digest_h6 N K F 85 f I s j) A (fun p d => gd d (gdp lk (I 87) p)) (fun j _ => 0 ≤ j ∧ j ≤ A) (fun j s => some (gda A C lk U I s, J4)) ?_ ?_ A.toNat N 7 0 (by omega) (by omega) ⟨by omega, by omega⟩
  · exact ⟨J4, hl.1, ((e2.trans f2).trans g2).trans k2⟩
  · intro f s j j1 hi
    refine ⟨?_, by omega, by omega⟩
    show X12_digest_s6 N K F 85 (X12_digest_h6 N K F 85 f) I s j = X12_digest_h6 N K F 85 f _ _ _
    generalize X12_digest_h6 N K F 85 f = kk
    unfold X12_digest_s6 X12_digest_b38 am_lt gdp
    dsimp only
    rw [m_all h.g.m, am_cq_s, if_pos j1, mwF_85_2 hm, mwK_86 hm, if_pos (show ((101, 32) : Nat × Int).1 = 101 from rfl), if_pos (show 0 ≤ j ∧ j < 32 by omega), h.g.k, if_pos (nb_in (by omega))]
    by_cases g : lk j = 0
    · rw [if_pos g, if_pos g, mwF_85_3 hm, mwK_87 hm, if_pos (show ((100, 32) : Nat × Int).1 = 100 from rfl), if_pos (show 0 ≤ j ∧ j < 32 by omega)]
      rfl
    · rw [if_neg g, if_neg g, if_pos (nb_in (by omega))]; rfl
  · intro f s j j1 hi
    have e : j = A := by omega
    subst e
    exact tail _ s
theorem e_digest (h : rel n K F I R C A lk U S) (hN : 2000000 < N) (hst : I 2 9 = I 85 15) : eqv (fun J => rel n K F J R C A lk U S) (X11_digest N K F 2 I) (fun J => X12_digest N K F 85 J) := by
  obtain ⟨J1, e1, e2⟩ := c_digest h hN
  have h1 := h.sc e2.sc
  obtain ⟨J2, f1, f2⟩ := m_digest h1 hN
  rw [gda_sc e2.sc, e2.sc.r87.1] at f1
  refine eqv_mk e1 f1 (h1.sc f2.sc) ?_
  rw [f2.row (b := 2) (by decide) (by decide) (by decide), e2.row (b := 2) (by decide), f2.fld (by omega), e2.row (b := 85) (by decide), hst]
end DIGEST
