-- THE MODEL: a move
section MOD4
variable {N : Nat} {K : am_K} {F : am_F} {I : am_I} {R C A : Int}
theorem m_take (hm : mw K F) {c : Int → Int} {t l la p : Int} (h0 : 0 ≤ p) (h1 : p < 32) (hi : am_inI (t + c p)) : X12_take N K F 85 (am_mk I c t l la) p = some (0, am_mk I (gm_up c p 0) (t + c p) l la) := by
  unfold X12_take
  simp only [am_lt, mwF_85_16 hm, mwK_91 hm, am_mk_17, am_mk_91, am_mk_u17, am_mk_u91]
  rw [if_pos trivial, if_pos (by omega), if_pos hi, if_pos (by decide)]
/-- the column emptied up to q -/
def gm_tcp (A C who p q : Int) (c : Int → Int) : Int → Int := fun j => if ((0 ≤ j ∧ j < A) ∧ j % C = p % C ∧ gm_sd A j ≠ who) ∧ j < q then 0 else c j
theorem gm_tcp_s {A C who p q : Int} {c : Int → Int} (hC : 0 < C) (h0 : 0 ≤ q) (h1 : q < A) (hq : q % C = p % C) : gm_tcp A C who p (q + C) c = if gm_sd A q ≠ who then gm_up (gm_tcp A C who p q c) q 0 else gm_tcp A C who p q c := by
  have key : ∀ j, j % C = p % C → q ≤ j → j < q + C → j = q := by
    intro j hj a b
    rw [← hq, Int.emod_eq_emod_iff_emod_sub_eq_zero, Int.emod_eq_of_lt (by omega) (by omega)] at hj
    omega
  by_cases hs : gm_sd A q ≠ who
  · rw [if_pos hs]
    funext j
    unfold gm_up
    by_cases e : j = q
    · subst e
      rw [if_pos rfl]
      unfold gm_tcp
      rw [if_pos ⟨⟨⟨h0, h1⟩, hq, hs⟩, by omega⟩]
    · rw [if_neg e]
      unfold gm_tcp
      by_cases h : ((0 ≤ j ∧ j < A) ∧ j % C = p % C ∧ gm_sd A j ≠ who) ∧ j < q
      · rw [if_pos h, if_pos ⟨h.1, by omega⟩]
      · rw [if_neg h, if_neg]
        rintro ⟨w, w2⟩
        refine h ⟨w, ?_⟩
        by_cases g : j < q
        · exact g
        · exact absurd (key j w.2.1 (by omega) w2) e
  · rw [if_neg hs]
    funext j
    unfold gm_tcp
    by_cases h : ((0 ≤ j ∧ j < A) ∧ j % C = p % C ∧ gm_sd A j ≠ who) ∧ j < q
    · rw [if_pos h, if_pos ⟨h.1, by omega⟩]
    · rw [if_neg h, if_neg]
      rintro ⟨w, w2⟩
      refine h ⟨w, ?_⟩
      by_cases g : j < q
      · exact g
      · have := key j w.2.1 (by omega) w2
        subst this
        exact absurd w.2.2 hs
theorem gm_tcp_0 {A C who p q : Int} {c : Int → Int} (hC : 0 < C) (h : q < C) (h0 : 0 ≤ q) (hq : q % C = p % C) : gm_tcp A C who p q c = c := by
  funext j
  unfold gm_tcp
  rw [if_neg]
  rintro ⟨⟨⟨w1, w2⟩, w3, w4⟩, w5⟩
  rw [← hq, Int.emod_eq_of_lt w1 (by omega), Int.emod_eq_of_lt h0 h] at w3
  omega
theorem gm_tcp_A {A C who p q : Int} {c : Int → Int} (h : A ≤ q) : gm_tcp A C who p q c = gm_tc A C who p c := by
  funext j
  unfold gm_tcp gm_tc
  by_cases hh : (0 ≤ j ∧ j < A) ∧ j % C = p % C ∧ gm_sd A j ≠ who
  · rw [if_pos hh, if_pos ⟨hh, by omega⟩]
  · rw [if_neg hh, if_neg (fun w => hh w.1)]
theorem m_takeColumn_l (hm : mw K F) (h : mg I R C A) {c : Int → Int} {t l la p who : Int} (hc : gm_st A (I 86) c) (ht : 0 ≤ t ∧ t ≤ 100000000) : ∀ (d f : Nat) (q : Int), d < f → A - q ≤ d → 0 ≤ q → q ≤ 1000 → q % C = p % C → 
    X12_takeColumn_h7 N K F 85 f (am_mk I (gm_tcp A C who p q c) (t + gm_tot A c - gm_tot A (gm_tcp A C who p q c)) l la) who q = some (0, am_mk I (gm_tc A C who p c) (t + gm_tot A c - gm_tot A (gm_tc A C who p c)) l la) := by
  have hA := h.A
  have hC := h.2.2.2
  intro d
  induction d with
  | zero =>
    intro f q hf hq h0 h1 he
    obtain ⟨f, rfl⟩ : ∃ g, f = g + 1 := ⟨f - 1, by omega⟩
    rw [gm_tcp_A (by omega : A ≤ q)]
    show X12_takeColumn_s7 N K F 85 (X12_takeColumn_h7 N K F 85 f) _ who q = _
    generalize X12_takeColumn_h7 N K F 85 f = kk
    unfold X12_takeColumn_s7
    simp only [m_all (h.mk _ _ _ _), am_cq_s]
    rw [if_neg (by omega)]
  | succ d ih =>
    intro f q hf hq h0 h1 he
    obtain ⟨f, rfl⟩ : ∃ g, f = g + 1 := ⟨f - 1, by omega⟩
    by_cases hqA : q < A
    · have hr := ih f (q + C) (by omega) (by omega) (by omega) (by omega) (by rw [Int.add_emod_right]; exact he)
      rw [← hr]
      have hP := gm_tcp_s (who := who) (c := c) (by omega : 0 < C) h0 hqA he
      show X12_takeColumn_s7 N K F 85 (X12_takeColumn_h7 N K F 85 f) _ who q = _
      generalize X12_takeColumn_h7 N K F 85 f = kk
      have hcq := hc.bd q h0 hqA
      have hcv : gm_tcp A C who p q c q = c q := by
        unfold gm_tcp; rw [if_neg (fun w => by have := w.2; omega)]
      have htn := gm_tot_nn (c := gm_tcp A C who p q c) (A := A) (fun j a b => by unfold gm_tcp; have := hc.1 j a b; split <;> omega)
      have htl : gm_tot A (gm_tcp A C who p q c) ≤ gm_tot A c := by
        unfold gm_tot
        refine gm_sm_le (fun i a b => ?_)
        have := hc.1 i a (by omega)
        unfold gm_tcp; split <;> omega
      have ht2 := hc.2.2
      have htu := gm_tot_up (c := gm_tcp A C who p q c) (v := 0) h0 hqA
      rw [hcv] at htu
      unfold X12_takeColumn_s7 X12_takeColumn_b38
      simp only [m_all (h.mk _ _ _ _), m_sideOf (h.mk _ _ _ _) h0 (by omega : q ≤ 1000), am_cq_s, am_lt, mwF_85_2 hm, mwK_86 hm, am_mk_85 (show (1 : Int) < 17 ∨ 19 < (1 : Int) by omega), h.2.1, am_mk_b (show (86 : Nat) ≠ 91 by decide) (show (86 : Nat) ≠ 85 by decide)]
      rw [if_pos hqA]
      by_cases hs : gm_sd A q = who
      · rw [if_pos hs, if_pos (nb_in (by omega))]
        rw [if_neg (fun w => w hs)] at hP
        rw [hP]
      · rw [if_neg hs, if_pos trivial, if_pos (by omega)]
        rw [if_pos hs] at hP
        by_cases hl : I 86 q = 0
        · rw [if_pos hl, m_take hm h0 (by omega) (nb_in (by rw [hcv]; omega)), am_cl_s, am_mk_85 (show (1 : Int) < 17 ∨ 19 < (1 : Int) by omega), h.2.1, if_pos (nb_in (by omega)), hP, htu, hcv]
          congr 2
          omega
        · rw [if_neg hl, if_pos (nb_in (by omega))]
          have hz := hc.2.1 q h0 hqA hl
          have e : gm_up (gm_tcp A C who p q c) q 0 = gm_tcp A C who p q c := by
            funext j
            by_cases e : j = q
            · subst e; rw [gm_up_s, hcv, hz]
            · rw [gm_up_n e]
          rw [hP, e]
    · have := ih (f + 1) q (by omega) (by omega) h0 h1 he
      exact this
theorem m_takeColumn (hm : mw K F) (h : mg I R C A) (hN : 40 < N) {c : Int → Int} {t l la p who : Int} (hc : gm_st A (I 86) c) (ht : 0 ≤ t ∧ t ≤ 100000000) (h0 : 0 ≤ p) (h1 : p < A) : X12_takeColumn N K F 85 (am_mk I c t l la) p who = some (0, am_mk I (gm_tc A C who p c) (t + gm_tot A c - gm_tot A (gm_tc A C who p c)) l la) := by
  have hA := h.A
  have hC := h.2.2.2
  have m0 := Int.emod_nonneg p (show C ≠ 0 by omega)
  have m1 := Int.emod_lt_of_pos p (show 0 < C by omega)
  have hl := m_takeColumn_l (N := N) (l := l) (la := la) (p := p) (who := who) hm h hc ht 34 N (p % C) (by omega) (by omega) m0 (by omega) (Int.emod_emod_of_dvd p (Int.dvd_refl C))
  rw [gm_tcp_0 (by omega) m1 m0 (Int.emod_emod_of_dvd p (Int.dvd_refl C))] at hl
  rw [show t + gm_tot A c - gm_tot A c = t by omega] at hl
  unfold X12_takeColumn
  simp only [am_lt, am_mk_85 (show (1 : Int) < 17 ∨ 19 < (1 : Int) by omega), h.2.1]
  rw [if_pos (by omega), nb_irem (nb_in (by omega)) (nb_in (by omega)) h0 (by omega)]
  exact hl
theorem gm_go_nx (hg : gm_g R C A) {lk : Int → Int} {st own : Int} (hst : st = 1 ∨ st = -1) (hex : gm_ex A C lk own) : gm_go A lk (gm_nx A C lk st own) := by
  intro p _ _ _
  obtain ⟨h1, h2, h3⟩ := gm_nx_ok (p := p) hg hst hex
  exact ⟨h2, h3, h1.1⟩
/-- a live pit: there is one to sow into -/
theorem gm_ex_live (hg : gm_g R C A) {lk : Int → Int} {p : Int} (h0 : 0 ≤ p) (h1 : p < A) (hl : lk p = 0) : gm_ex A C lk (-1) ∧ gm_ex A C lk (gm_sd A p) := by
  obtain ⟨w0, w1, -⟩ := gm_wy_b hg h0 h1
  have hC : 0 < C := by have := hg.2; omega
  refine ⟨⟨gm_wy C p, w0, w1, ?_⟩, ⟨gm_wy C p, w0, w1, ?_⟩⟩
  · rw [gm_wy_wy hC]; exact ⟨hl, fun h => absurd h (by decide)⟩
  · rw [gm_wy_wy hC]; exact ⟨hl, fun _ => rfl⟩
theorem m_chain_l (hm : mw K F) (h : mg I R C A) (hw : mW I C A) (hN : 40 < N) (hex : gm_ex A C (I 86) (-1)) {l la who : Int} (hlow : 1 ≤ I 85 8) : ∀ (d f : Nat) (c : Int → Int) (t p : Int), d < f → gm_nz A c ≤ d → 0 ≤ p → p < A → gm_st A (I 86) c → (0 ≤ t ∧ t + gm_tot A c ≤ 100000000) → 
    X12_make_h201 N K F 85 f (am_mk I c t l la) who p = some (0, am_mk I (gm_ch A who (I 85 8) (I 85 9) (gm_nx A C (I 86) (-1) (-1)) d c p) (t + gm_tot A c - gm_tot A (gm_ch A who (I 85 8) (I 85 9) (gm_nx A C (I 86) (-1) (-1)) d c p)) l la) := by
  have hA := h.A
  have go := gm_go_nx h.g (st := -1) (Or.inr rfl) hex
  intro d
  induction d with
  | zero =>
    intro f c t p hf hz h0 h1 hc ht
    obtain ⟨f, rfl⟩ : ∃ g, f = g + 1 := ⟨f - 1, by omega⟩
    have hp : c p = 0 := by
      by_cases e : c p = 0
      · exact e
      · have := gm_nz_pos h0 h1 e; omega
    show X12_make_s201 N K F 85 (X12_make_h201 N K F 85 f) _ who p = _
    generalize X12_make_h201 N K F 85 f = kk
    unfold X12_make_s201 X12_make_b254
    simp only [m_sideOf (h.mk _ _ _ _) h0 (by omega : p ≤ 1000), am_cq_s, mwF_85_16 hm, mwK_91 hm, m_isIn, am_mk_91, am_mk_85 (show (8 : Int) < 17 ∨ 19 < (8 : Int) by omega), am_mk_85 (show (9 : Int) < 17 ∨ 19 < (9 : Int) by omega), hp]
    rw [show t + gm_tot A c - gm_tot A (gm_ch A who (I 85 8) (I 85 9) (gm_nx A C (I 86) (-1) (-1)) 0 c p) = t by unfold gm_ch; omega]
    unfold gm_ch
    by_cases hs : gm_sd A p = who
    · rw [if_pos hs]
    · rw [if_neg hs, if_pos trivial, if_pos (by omega), if_neg (show ¬ (I 85 8 ≤ 0 ∧ 0 ≤ I 85 9) by omega), if_pos rfl]
  | succ d ih =>
    intro f c t p hf hz h0 h1 hc ht
    obtain ⟨f, rfl⟩ : ∃ g, f = g + 1 := ⟨f - 1, by omega⟩
    have hcp := hc.bd p h0 h1
    have htn := gm_tot_nn hc.1
    show X12_make_s201 N K F 85 (X12_make_h201 N K F 85 f) _ who p = _
    by_cases hgo : gm_sd A p ≠ who ∧ I 85 8 ≤ c p ∧ c p ≤ I 85 9
    · have hl : I 86 p = 0 := by
        by_cases e : I 86 p = 0
        · exact e
        · have := hc.2.1 p h0 h1 e; omega
      obtain ⟨q0, q1, q2⟩ := go p h0 h1 hl
      have hzz := gm_nz_up h0 h1 (show c p ≠ 0 by omega)
      have htt := gm_tot_up (c := c) (v := 0) h0 h1
      have hc2 : gm_st A (I 86) (gm_up c p 0) := ⟨fun j a b => by
        by_cases e : j = p
        · subst e; rw [gm_up_s]; omega
        · rw [gm_up_n e]; exact hc.1 j a b, fun j a b w => by
        by_cases e : j = p
        · subst e; rw [gm_up_s]
        · rw [gm_up_n e]; exact hc.2.1 j a b w, by have := hc.2.2; omega⟩
      have hr := ih f (gm_up c p 0) (t + c p) _ (by omega) (by omega) q0 q1 hc2 (by omega)
      have hb := m_beside (I := am_mk I (gm_up c p 0) (t + c p) l la) (p := p) (st := -1) (own := -1) hm (h.mk _ _ _ _) (hw.mk _ _ _ _) (by omega : 33 < N) (Or.inr rfl) (by rw [am_mk_br (by decide) (by decide)]; exact hex) h0 h1
      rw [am_mk_br (by decide) (by decide)] at hb
      have e : gm_ch A who (I 85 8) (I 85 9) (gm_nx A C (I 86) (-1) (-1)) (d + 1) c p = gm_ch A who (I 85 8) (I 85 9) (gm_nx A C (I 86) (-1) (-1)) d (gm_up c p 0) (gm_nx A C (I 86) (-1) (-1) p) := by
        conv => lhs; unfold gm_ch
        rw [if_pos hgo]
      rw [e]
      rw [show t + gm_tot A c = t + c p + gm_tot A (gm_up c p 0) by omega]
      rw [← hr]
      generalize X12_make_h201 N K F 85 f = kk
      unfold X12_make_s201 X12_make_b254
      simp only [m_sideOf (h.mk _ _ _ _) h0 (by omega : p ≤ 1000), am_cq_s, mwF_85_16 hm, mwK_91 hm, m_isIn, am_mk_91, am_mk_85 (show (8 : Int) < 17 ∨ 19 < (8 : Int) by omega), am_mk_85 (show (9 : Int) < 17 ∨ 19 < (9 : Int) by omega)]
      rw [if_neg hgo.1, if_pos trivial, if_pos (by omega), if_pos hgo.2, if_neg (by decide), m_take hm h0 (by omega) (nb_in (by omega)), am_cl_s, hb, am_cq_s]
    · have e : gm_ch A who (I 85 8) (I 85 9) (gm_nx A C (I 86) (-1) (-1)) (d + 1) c p = c := by
        unfold gm_ch; rw [if_neg hgo]
      rw [e]
      generalize X12_make_h201 N K F 85 f = kk
      unfold X12_make_s201 X12_make_b254
      simp only [m_sideOf (h.mk _ _ _ _) h0 (by omega : p ≤ 1000), am_cq_s, mwF_85_16 hm, mwK_91 hm, m_isIn, am_mk_91, am_mk_85 (show (8 : Int) < 17 ∨ 19 < (8 : Int) by omega), am_mk_85 (show (9 : Int) < 17 ∨ 19 < (9 : Int) by omega)]
      rw [show t + gm_tot A c - gm_tot A c = t by omega]
      by_cases hs : gm_sd A p = who
      · rw [if_pos hs]
      · rw [if_neg hs, if_pos trivial, if_pos (by omega), if_neg (fun w => hgo ⟨hs, w⟩), if_pos rfl]
end MOD4
