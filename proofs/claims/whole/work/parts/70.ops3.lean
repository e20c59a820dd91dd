-- CALLS: positions, place, ofPlace, allowed, over, score
theorem nb_toNatL {x : Int} (h0 : 0 ≤ x) (h1 : x < 9223372036854775808) : (Int64.ofInt x).toBitVec.toNat = x.toNat := by
  rw [Int64.toBitVec_ofInt, BitVec.toNat_ofInt]
  omega
theorem nb_ofNatL {b : Int64} {n : Nat} (h : b.toBitVec.toNat = n) (h1 : n < 9223372036854775808) : b.toInt = (n : Int) := by
  show b.toBitVec.toInt = _
  rw [BitVec.toInt_eq_toNat_cond, h]
  rw [if_pos (by omega)]
theorem nb_land1 {x : Int} (hx : 0 ≤ x ∧ x < 9223372036854775808) : am_land x 1 = x % 2 := by
  unfold am_land
  rw [nb_ofNatL (n := x.toNat % 2) ?_ (by omega)]
  · omega
  · rw [Int64.toBitVec_and, BitVec.toNat_and, nb_toNatL hx.1 hx.2, nb_toNatL (by decide) (by decide)]
    exact Nat.and_one_is_mod _
theorem nb_shL : ((Int32.ofInt 1).toInt64 &&& 63).toBitVec.smod 64 = 1#64 := by decide +kernel
theorem nb_lshr1 {x : Int} (hx : 0 ≤ x ∧ x < 9223372036854775808) : am_lshr x 1 = x / 2 := by
  have hm : (Int64.ofInt x).toBitVec.msb = false := by
    rw [BitVec.msb_eq_false_iff_two_mul_lt, nb_toNatL hx.1 hx.2]; omega
  unfold am_lshr
  rw [nb_ofNatL (n := x.toNat / 2) ?_ (by omega)]
  · omega
  · rw [Int64.toBitVec_shiftRight, BitVec.sshiftRight_eq', nb_shL, BitVec.sshiftRight_eq_of_msb_false hm, BitVec.toNat_ushiftRight, nb_toNatL hx.1 hx.2, Nat.shiftRight_eq_div_pow]
    rfl
section OPS3
variable {N n : Nat} {K : am_K} {F : am_F} {I J : am_I} {R C A : Int} {lk U : Int → Int} {S x y z : Int}
theorem e_no' (h : rel n K F I R C A lk U S) (w : Int) {X : Option (Int × am_I)} {Y : am_I → Option (Int × am_I)} (hx : X = some (-1, am_u2 I 2 9 w)) (hy : Y (am_u2 I 2 9 w) = some (-1, am_u2 (am_u2 I 2 9 w) 85 15 w)) : eqv (fun J => rel n K F J R C A lk U S) X Y :=
  eqv_mk hx hy ((h.sc (sc.rfl.st2 w)).sc (sc.rfl.st85 w)) (u29 w 0)
theorem rel.L (h : rel n K F I R C A lk U S) : 1 ≤ gm_L A lk ∧ gm_L A lk ≤ 32 := by
  have := h.g.m.A
  have := gm_L_b (A := A) (by omega) lk
  have := h.g.n
  omega
theorem rel.pos (h : rel n K F I R C A lk U S) (hN : 100 < N) {k : Int} (hk : -1 ≤ k ∧ k ≤ 12) : X12_placesTo N K F I 85 k = some (2 * gW (gm_L A lk + 1) k) := by
  have := m_placesTo (N := N) h.a.m h.g.m hN hk
  rw [h.g.k] at this
  exact this
theorem e_positions (h : rel n K F I R C A lk U S) (hN : 100 < N) : eqv (fun J => rel n K F J R C A lk U S) (X11_positions N K F 2 I x) (fun J => X12_positions N K F 85 J x) := by
  have hc := h.a.c
  have hL := h.L
  by_cases w : 0 ≤ x ∧ x ≤ 12
  · have h1 : rel n K F (am_u2 I 2 9 0) R C A lk U S := h.sc (sc.rfl.st2 0)
    have h2 := h1.sc (sc.rfl.st85 0)
    have b1 := gW_le (m := gm_L A lk + 1) (k := x) (by omega) (by omega)
    have b2 := gW_nn (gm_L A lk + 1) x
    refine eqv_mk (v := 2 * gW (gm_L A lk + 1) x) (J := am_u2 I 2 9 0) (J' := am_u2 (am_u2 I 2 9 0) 85 15 0) ?_ ?_ h2 (u29 0 0)
    · unfold X11_positions
      simp only [cwF_2_4 hc, cwK_56 hc, c_boardsUpTo hc h.g.t h.g.c w.2, am_cq_s, c_accL, am_cl_s]
      rw [if_pos w.1, if_neg (by omega), if_pos trivial, nb_wL (by omega)]
    · show X12_positions N K F 85 (am_u2 I 2 9 0) x = _
      unfold X12_positions
      rw [m_isIn, am_cq_s, if_pos w, if_neg (by decide)]
      show am_cq (X12_placesTo N K F (am_u2 (am_u2 I 2 9 0) 85 15 0) 85 x) _ = _
      rw [h2.pos hN (by omega), am_cq_s]
  · refine e_no' h 7 ?_ ?_
    · unfold X11_positions X11_positions_b10
      by_cases g : 0 ≤ x
      · rw [if_pos g, if_pos (by omega)]; rfl
      · rw [if_neg g]; rfl
    · show X12_positions N K F 85 _ x = _
      unfold X12_positions
      rw [m_isIn, am_cq_s, if_neg w, if_pos rfl]; rfl
theorem rel.eq17 (h : rel n K F I R C A lk U S) : gm_eq A (I 17) (I 87) := fun p a b => h.p.e p a (by have := h.g.m.A; omega)
theorem rel.st17 (h : rel n K F I R C A lk U S) : gm_st A lk (I 17) := h.eq17.symm.st h.p.s
theorem rel.zb17 (h : rel n K F I R C A lk U S) : gm_zb A (I 17) := fun j a b => by rw [h.p.e j (by have := h.g.m.A; omega) b]; exact h.p.z j a b
theorem gm_eq.en {A : Int} {lk c c' : Int → Int} (h : gm_eq A c c') (m n : Int) : gm_en lk c A.toNat 0 m n = gm_en lk c' A.toNat 0 m n := gm_en_congr _ _ _ _ (fun j a b => h j a (by omega))
theorem gm_eq.nu {A : Int} {lk c c' : Int → Int} (h : gm_eq A c c') : gm_nu A lk c = gm_nu A lk c' := by unfold gm_nu; rw [h.tot, h.en]
theorem e_place (h : rel n K F I R C A lk U S) (hN : 100 < N) : eqv (fun J => rel n K F J R C A lk U S) (X11_place N K F 2 I) (fun J => X12_place N K F 85 J) := by
  have hc := h.a.c
  have hm := h.a.m
  have hL := h.L
  have hA := h.g.m.A
  have t0 := h.eq17.tot
  have hin := c_seedsIn (N := N) hc h.g.c hN (cwK_17 hc) h.st17.bd
  by_cases w : 12 < gm_tot A (I 87)
  · refine e_no' h 10 ?_ ?_
    · unfold X11_place
      simp only [cwF_2_2 hc, cwK_16 hc, cwF_2_0 hc, cwK_3 hc, cwF_16_0 hc, hin, am_cq_s]
      rw [if_pos trivial, if_pos trivial, if_pos (by omega)]; rfl
    · show X12_place N K F 85 _ = _
      have h1 : rel n K F (am_u2 I 2 9 10) R C A lk U S := h.sc (sc.rfl.st2 10)
      have hse : X12_seedsOf N K F (am_u2 I 2 9 10) 85 87 = some (gm_tot A (am_u2 I 2 9 10 87)) := m_seedsOf h1.g.m (mwK_87 hm) h1.p.s.bd (by omega)
      have e : am_u2 I 2 9 10 87 = I 87 := by funext j; rw [am_u2_a (by decide)]
      rw [e] at hse
      unfold X12_place
      rw [mwF_85_3 hm, hse, am_cq_s, if_pos w]; rfl
  · have h1 : rel n K F (am_u2 I 2 9 0) R C A lk U S := h.sc (sc.rfl.st2 0)
    have h2 := h1.sc (sc.rfl.st85 0)
    have hnu := gm_nu_b (A := A) (by omega) h.p.s
    have b1 := gW_le (m := gm_L A lk + 1) (k := gm_tot A (I 87)) (by omega) (by omega)
    have b2 := gW_nn (gm_L A lk + 1) (gm_tot A (I 87) - 1)
    have w1 := h.p.w1
    refine eqv_mk (v := 2 * gm_nu A lk (I 87) + I 85 5) (J := am_u2 I 2 9 0) (J' := am_u2 (am_u2 I 2 9 0) 85 15 0) ?_ ?_ h2 (u29 0 0)
    · unfold X11_place
      simp only [cwF_2_2 hc, cwK_16 hc, cwF_2_0 hc, cwK_3 hc, cwF_16_0 hc, hin, am_cq_s, cwF_2_4 hc, cwK_56 hc, c_numberOf hc h.g.t h.g.c h.g.l hN (cwK_17 hc) h.st17 (by omega), c_accL, am_cl_s]
      rw [if_pos trivial, if_pos trivial, if_neg (by omega), if_pos trivial, h.eq17.nu, nb_wL (x := 2 * gm_nu A lk (I 87)) (by omega), h.p.w, nb_wL (by omega)]
    · show X12_place N K F 85 _ = _
      have hse : X12_seedsOf N K F (am_u2 I 2 9 0) 85 87 = some (gm_tot A (am_u2 I 2 9 0 87)) := m_seedsOf h1.g.m (mwK_87 hm) h1.p.s.bd (by omega)
      have e : am_u2 I 2 9 0 87 = I 87 := by funext j; rw [am_u2_a (by decide)]
      rw [e] at hse
      have e2 : am_u2 (am_u2 I 2 9 0) 85 15 0 87 = I 87 := by funext j; rw [am_u2_a (by decide), am_u2_a (by decide)]
      have e3 : am_u2 (am_u2 I 2 9 0) 85 15 0 85 5 = I 85 5 := by rw [am_u2_k (by decide), am_u2_a (by decide)]
      have hs2 : gm_st A (am_u2 (am_u2 I 2 9 0) 85 15 0 86) (am_u2 (am_u2 I 2 9 0) 85 15 0 87) := by rw [h2.g.k]; exact h2.p.s
      have hpl := m_placeOf (N := N) hm h2.g.m hN (mwK_87 hm) hs2 (by rw [e2]; omega) (who := I 85 5) w1
      rw [h2.g.k, e2] at hpl
      unfold X12_place
      rw [mwF_85_3 hm, hse, am_cq_s, if_neg w]
      show am_cq (X12_placeOf N K F (am_u2 (am_u2 I 2 9 0) 85 15 0) 85 87 (am_u2 (am_u2 I 2 9 0) 85 15 0 85 5)) _ = _
      rw [e3, hpl, am_cq_s]
/-- what is allowed does not ask of the rules but seven numbers -/
theorem gm_fc_u {u u' : Int → Int} (h : ∀ j, 6 ≤ j → j ≤ 12 → u j = u' j) (c : Int → Int) (who p : Int) : gm_fc A C lk u c who p = gm_fc A C lk u' c who p := by
  unfold gm_fc
  rw [h 6 (by omega) (by omega), h 7 (by omega) (by omega), h 8 (by omega) (by omega), h 9 (by omega) (by omega), h 10 (by omega) (by omega)]
theorem gm_any_u {u u' : Int → Int} (h : ∀ j, 6 ≤ j → j ≤ 12 → u j = u' j) (c : Int → Int) (who : Int) : ∀ d, gm_any A C lk u c who d = gm_any A C lk u' c who d
  | 0 => rfl
  | d + 1 => by unfold gm_any; rw [gm_any_u h c who d, gm_fc_u h]
theorem gm_al_u {u u' : Int → Int} (h : ∀ j, 6 ≤ j → j ≤ 12 → u j = u' j) (c : Int → Int) (who : Int) : gm_al A C lk u c who = gm_al A C lk u' c who := by
  funext p
  unfold gm_al
  rw [gm_fc_u h, gm_any_u h, h 11 (by omega) (by omega)]
theorem rU.gm (h : rU I U) : gm_u U ∧ gm_u (I 85) := by
  obtain ⟨a, b, c, d, e, f, g⟩ := h.i85
  have := h.u7; have := h.u8; have := h.u10
  unfold gm_u
  omega
theorem gm_eq.als {R C A : Int} (hg : gm_g R C A) {lk u c c' : Int → Int} (h : gm_eq A c c') (hs : gm_st A lk c) (who : Int) : gm_sm (gm_al A C lk u c who) A.toNat = gm_sm (gm_al A C lk u c' who) A.toNat := by
  have := hg.A
  exact gm_sm_congr (fun i a b => h.al hg hs a (by omega))
/-- the survey of the position -/
theorem c_countOpen (h : rel n K F I R C A lk U S) (hN : 2000000 < N) : ∃ J, X11_countOpen N K F 2 I = some (gm_sm (gm_al A C lk U (I 87) (I 85 5)) A.toNat, J) ∧ cs I J ∧ (∀ p, 0 ≤ p → p < A → J 20 p = gm_al A C lk U (I 17) (I 85 5) p ∧ J 55 p = gm_fd A C lk U (I 17) (I 85 5) p ∧ gm_kp A C lk U (I 17) (I 85 5) J p) ∧ J 19 3 = gm_sm (gm_al A C lk U (I 87) (I 85 5)) A.toNat := by
  have hc := h.a.c
  obtain ⟨J, e1, e2, e3, e4⟩ := c_survey (N := N) hc h.g.c hN h.u.c h.u.gm.1 (Or.inl rfl) h.p.w1 h.st17 h.zb17
  have eq := h.eq17.als h.g.m.g (u := U) h.st17 (I 85 5)
  rw [eq] at e1 e4
  refine ⟨J, ?_, e2, e3, e4⟩
  unfold X11_countOpen
  simp only [cwF_2_2 hc, cwK_16 hc, cwF_2_3 hc, cwK_19 hc, cwF_16_0 hc, h.p.w, e1, am_cl_s]
  rw [if_pos trivial, if_pos trivial]
theorem m_allowed (h : rel n K F I R C A lk U S) (hN : 2000000 < N) : ∃ J, X12_mayMove N K F 85 I 87 (I 85 5) 103 = some (gm_sm (gm_al A C lk U (I 87) (I 85 5)) A.toNat, J) ∧ ms I J ∧ ∀ p, 0 ≤ p → p < A → J 103 p = gm_al A C lk U (I 87) (I 85 5) p := by
  have hs : gm_st A (I 86) (I 87) := by rw [h.g.k]; exact h.p.s
  have := m_mayMove (N := N) h.a.m h.g.m h.g.w hN h.u.gm.2 (Or.inl rfl) (I 85 5) hs
  rw [h.g.k, gm_al_u (u' := U) h.u.m] at this
  exact this
theorem sc.r87 (h : sc I J) : J 87 = I 87 ∧ J 85 5 = I 85 5 ∧ J 88 = I 88 := ⟨h.row (by decide), h.fld (by omega), h.row (by decide)⟩
theorem e_allowed (h : rel n K F I R C A lk U S) (hN : 2000000 < N) (hst : I 2 9 = I 85 15) : eqv (fun J => rel n K F J R C A lk U S) (X11_allowed N K F 2 I) (fun J => X12_allowed N K F 85 J) := by
  have hm := h.a.m
  obtain ⟨J, e1, e2, -⟩ := c_countOpen h hN
  have h1 := h.sc e2.sc
  obtain ⟨J', f1, f2, -⟩ := m_allowed h1 hN
  obtain ⟨r1, r2, -⟩ := e2.sc.r87
  rw [r1, r2] at f1
  refine eqv_mk (J := J) (J' := J') (v := gm_sm (gm_al A C lk U (I 87) (I 85 5)) A.toNat) ?_ ?_ (h1.sc f2.sc) ?_
  · unfold X11_allowed; rw [e1, am_cl_s]
  · show X12_allowed N K F 85 J = _
    unfold X12_allowed; rw [mwF_85_3 hm, mwF_85_35 hm, r2, f1, am_cl_s]
  · rw [f2.row (b := 2) (by decide) (by decide) (by decide), f2.fld (by omega), e2.row (b := 2) (by omega), e2.row (b := 85) (by omega)]; exact hst
theorem e_over (h : rel n K F I R C A lk U S) (hN : 2000000 < N) (hst : I 2 9 = I 85 15) : eqv (fun J => rel n K F J R C A lk U S) (X11_over N K F 2 I) (fun J => X12_over N K F 85 J) := by
  have hm := h.a.m
  obtain ⟨J, e1, e2, -⟩ := c_countOpen h hN
  have h1 := h.sc e2.sc
  obtain ⟨J', f1, f2, -⟩ := m_allowed h1 hN
  obtain ⟨r1, r2, -⟩ := e2.sc.r87
  rw [r1, r2] at f1
  refine eqv_mk (J := J) (J' := J') (v := if gm_sm (gm_al A C lk U (I 87) (I 85 5)) A.toNat = 0 then 1 else 0) ?_ ?_ (h1.sc f2.sc) ?_
  · unfold X11_over X11_over_b12; rw [e1, am_cl_s]
    by_cases g : gm_sm (gm_al A C lk U (I 87) (I 85 5)) A.toNat = 0
    · rw [if_pos g, if_pos g]
    · rw [if_neg g, if_neg g]
  · show X12_over N K F 85 J = _
    unfold X12_over X12_allowed X12_over_b12; rw [mwF_85_3 hm, mwF_85_35 hm, r2, f1, am_cl_s, am_cl_s]
    by_cases g : gm_sm (gm_al A C lk U (I 87) (I 85 5)) A.toNat = 0
    · rw [if_pos g, if_pos g]
    · rw [if_neg g, if_neg g]
  · rw [f2.row (b := 2) (by decide) (by decide) (by decide), f2.fld (by omega), e2.row (b := 2) (by omega), e2.row (b := 85) (by omega)]; exact hst
end OPS3
