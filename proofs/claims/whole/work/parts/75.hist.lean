-- MOVES: the model's keep, bring, moveFrom
def hk (H : Int → Int) (k : Int) (c : Int → Int) (s0 s1 w : Int) : Int → Int := fun j => if k * 35 ≤ j ∧ j < k * 35 + 32 then c (j - k * 35) else if j = k * 35 + 32 then s0 else if j = k * 35 + 33 then s1 else if j = k * 35 + 34 then w else H j
section HIST
variable {N n : Nat} {K : am_K} {F : am_F} {I J : am_I} {R C A : Int} {lk U : Int → Int} {S x y z : Int}
theorem hk_c {H : Int → Int} {k : Int} {c : Int → Int} {s0 s1 w p : Int} (h0 : 0 ≤ p) (h1 : p < 32) : hk H k c s0 s1 w (k * 35 + p) = c p := by
  unfold hk; rw [if_pos (by omega)]; congr 1; omega
theorem hk_0 {H : Int → Int} {k : Int} {c : Int → Int} {s0 s1 w : Int} : hk H k c s0 s1 w (k * 35 + 32) = s0 := by
  unfold hk; rw [if_neg (by omega), if_pos rfl]
theorem hk_1 {H : Int → Int} {k : Int} {c : Int → Int} {s0 s1 w : Int} : hk H k c s0 s1 w (k * 35 + 33) = s1 := by
  unfold hk; rw [if_neg (by omega), if_neg (by omega), if_pos rfl]
theorem hk_w {H : Int → Int} {k : Int} {c : Int → Int} {s0 s1 w : Int} : hk H k c s0 s1 w (k * 35 + 34) = w := by
  unfold hk; rw [if_neg (by omega), if_neg (by omega), if_neg (by omega), if_pos rfl]
theorem hk_n {H : Int → Int} {k i : Int} {c : Int → Int} {s0 s1 w p : Int} (h0 : 0 ≤ p) (h1 : p < 35) (hi : i ≠ k) : hk H k c s0 s1 w (i * 35 + p) = H (i * 35 + p) := by
  have : i * 35 + p < k * 35 ∨ k * 35 + 34 < i * 35 + p := by omega
  unfold hk; rw [if_neg (by omega), if_neg (by omega), if_neg (by omega), if_neg (by omega)]
theorem m_keep_s (hm : mw K F) (kk : am_I → Int → Int → Option (Int × am_I)) {x2 x3 : Int} (h2 : 0 ≤ x2 ∧ x2 ≤ 35000) (h3 : 0 ≤ x3 ∧ x3 < 32) : X12_keep_s7 N K F 85 kk I x2 x3 = kk (am_u2 I 104 (x2 + x3) (I 87 x3)) x2 (x3 + 1) := by
  unfold X12_keep_s7
  simp only [mwF_85_3 hm, mwK_87 hm, mwF_85_36 hm, mwK_104 hm, am_lt]
  rw [if_pos (by omega), if_pos (nb_in (by omega)), if_pos trivial, if_pos (by omega), if_pos trivial, if_pos (by decide), if_pos (by omega), if_pos (nb_in (by omega))]
theorem m_keep_e (hm : mw K F) (kk : am_I → Int → Int → Option (Int × am_I)) {x2 : Int} (h2 : 0 ≤ x2 ∧ x2 ≤ 35000) : X12_keep_s7 N K F 85 kk I x2 32 = some (0, am_u2 (am_u2 (am_u2 I 104 (x2 + 32) (I 88 0)) 104 (x2 + 32 + 1) (I 88 1)) 104 (x2 + 32 + 2) (I 85 5)) := by
  unfold X12_keep_s7
  simp only [mwF_85_4 hm, mwK_88 hm, mwF_85_36 hm, mwK_104 hm, am_lt, am_u2_a (show (88 : Nat) ≠ 104 by decide), am_u2_a (show (85 : Nat) ≠ 104 by decide)]
  rw [if_neg (by decide), if_pos (nb_in (by omega)), if_pos trivial, if_pos (by decide), if_pos trivial, if_pos (by decide), if_pos (by omega), if_pos (nb_in (by omega)), if_pos (by decide), if_pos (by omega), if_pos (nb_in (by omega)), if_pos (by omega)]
theorem m_keep (hm : mw K F) (hN : 100 < N) {k : Int} (hk0 : 0 ≤ k ∧ k ≤ 1000) : X12_keep N K F 85 I k = some (0, am_row I 104 (hk (I 104) k (I 87) (I 88 0) (I 88 1) (I 85 5))) := by
  have loop : ∀ (d f : Nat) (J : am_I) (x3 : Int), 32 - x3 = d → d < f → 0 ≤ x3 → (∀ b, b ≠ 104 → J b = I b) → (∀ j, J 104 j = if k * 35 ≤ j ∧ j < k * 35 + x3 then I 87 (j - k * 35) else I 104 j) → X12_keep_h7 N K F 85 f J (k * 35) x3 = some (0, am_row I 104 (hk (I 104) k (I 87) (I 88 0) (I 88 1) (I 85 5))) := by
    intro d
    induction d with
    | zero =>
      intro f J x3 hd hf h0 hb hj
      obtain ⟨f, rfl⟩ : ∃ g, f = g + 1 := ⟨f - 1, by omega⟩
      have e : x3 = 32 := by omega
      subst e
      show X12_keep_s7 N K F 85 (X12_keep_h7 N K F 85 f) J (k * 35) 32 = _
      rw [m_keep_e hm _ (by omega), hb 88 (by decide), hb 85 (by decide)]
      congr 2
      funext b j
      unfold am_u2 am_row hk
      by_cases g : b = 104
      · subst g
        rw [if_pos rfl, hj j]
        by_cases c1 : k * 35 ≤ j ∧ j < k * 35 + 32
        · rw [if_pos c1, if_pos c1, if_neg (by omega), if_neg (by omega), if_neg (by omega)]
        · rw [if_neg c1, if_neg c1]
          by_cases c2 : j = k * 35 + 32
          · rw [if_neg (by omega), if_neg (by omega), if_pos ⟨rfl, c2⟩, if_pos c2]
          · by_cases c3 : j = k * 35 + 33
            · rw [if_neg (by omega), if_pos (by omega), if_neg c2, if_pos c3]
            · by_cases c4 : j = k * 35 + 34
              · rw [if_pos (by omega), if_neg c2, if_neg c3, if_pos c4]
              · rw [if_neg (by omega), if_neg (by omega), if_neg (by omega), if_neg c2, if_neg c3, if_neg c4]
      · rw [if_neg (by omega), if_neg (by omega), if_neg (by omega), if_neg g, hb b g]
    | succ d ih =>
      intro f J x3 hd hf h0 hb hj
      obtain ⟨f, rfl⟩ : ∃ g, f = g + 1 := ⟨f - 1, by omega⟩
      show X12_keep_s7 N K F 85 (X12_keep_h7 N K F 85 f) J (k * 35) x3 = _
      rw [m_keep_s hm _ (by omega) (by omega)]
      refine ih f _ (x3 + 1) (by omega) (by omega) (by omega) (fun b q => by funext j; rw [am_u2_a q, hb b q]) (fun j => ?_)
      by_cases g : j = k * 35 + x3
      · subst g
        rw [am_u2_s, if_pos (by omega), hb 87 (by decide)]
        congr 1
        omega
      · rw [am_u2_k g, hj j]
        by_cases c1 : k * 35 ≤ j ∧ j < k * 35 + x3
        · rw [if_pos c1, if_pos (by omega)]
        · rw [if_neg c1, if_neg (by omega)]
  unfold X12_keep
  rw [if_pos (nb_in (by omega))]
  exact loop 32 N I 0 (by omega) (by omega) (by omega) (fun _ _ => rfl) (fun j => by rw [if_neg (by omega)])
theorem m_bring_s (hm : mw K F) (kk : am_I → Int → Int → Option (Int × am_I)) {x2 x3 : Int} (h2 : 0 ≤ x2 ∧ x2 ≤ 35000) (h3 : 0 ≤ x3 ∧ x3 < 32) : X12_bring_s7 N K F 85 kk I x2 x3 = kk (am_u2 I 87 x3 (I 104 (x2 + x3))) x2 (x3 + 1) := by
  unfold X12_bring_s7
  simp only [mwF_85_3 hm, mwK_87 hm, mwF_85_36 hm, mwK_104 hm, am_lt]
  rw [if_pos (by omega), if_pos (nb_in (by omega)), if_pos trivial, if_pos (by omega), if_pos trivial, if_pos (by decide), if_pos (by omega), if_pos (nb_in (by omega))]
theorem m_bring_e (hm : mw K F) (kk : am_I → Int → Int → Option (Int × am_I)) {x2 : Int} (h2 : 0 ≤ x2 ∧ x2 ≤ 35000) : X12_bring_s7 N K F 85 kk I x2 32 = some (0, am_u2 (am_u2 (am_u2 I 88 0 (I 104 (x2 + 32))) 88 1 (I 104 (x2 + 32 + 1))) 85 5 (I 104 (x2 + 32 + 2))) := by
  unfold X12_bring_s7
  simp only [mwF_85_4 hm, mwK_88 hm, mwF_85_36 hm, mwK_104 hm, am_lt, am_u2_a (show (104 : Nat) ≠ 88 by decide)]
  rw [if_neg (by decide), if_pos (nb_in (by omega)), if_pos trivial, if_pos (by omega), if_pos trivial, if_pos (by decide), if_pos (by decide), if_pos (nb_in (by omega)), if_pos (by omega), if_pos (by decide), if_pos (nb_in (by omega)), if_pos (by omega)]
theorem m_bring (hm : mw K F) (hN : 100 < N) {k : Int} (hk0 : 0 ≤ k ∧ k ≤ 1000) : ∃ J, X12_bring N K F 85 I k = some (0, J) ∧ (∀ b, b ≠ 87 → b ≠ 88 → b ≠ 85 → J b = I b) ∧ (∀ j, j ≠ 5 → J 85 j = I 85 j) ∧ (∀ p, 0 ≤ p → p < 32 → J 87 p = I 104 (k * 35 + p)) ∧ J 88 0 = I 104 (k * 35 + 32) ∧ J 88 1 = I 104 (k * 35 + 33) ∧ J 85 5 = I 104 (k * 35 + 34) := by
  have loop : ∀ (d f : Nat) (J : am_I) (x3 : Int), 32 - x3 = d → d < f → 0 ≤ x3 → (∀ b, b ≠ 87 → J b = I b) → (∀ p, 0 ≤ p → p < x3 → J 87 p = I 104 (k * 35 + p)) → ∃ J', X12_bring_h7 N K F 85 f J (k * 35) x3 = some (0, J') ∧ (∀ b, b ≠ 87 → b ≠ 88 → b ≠ 85 → J' b = I b) ∧ (∀ j, j ≠ 5 → J' 85 j = I 85 j) ∧ (∀ p, 0 ≤ p → p < 32 → J' 87 p = I 104 (k * 35 + p)) ∧ J' 88 0 = I 104 (k * 35 + 32) ∧ J' 88 1 = I 104 (k * 35 + 33) ∧ J' 85 5 = I 104 (k * 35 + 34) := by
    intro d
    induction d with
    | zero =>
      intro f J x3 hd hf h0 hb hj
      obtain ⟨f, rfl⟩ : ∃ g, f = g + 1 := ⟨f - 1, by omega⟩
      have e : x3 = 32 := by omega
      subst e
      refine ⟨_, m_bring_e (N := N) hm (X12_bring_h7 N K F 85 f) (by omega), fun b q1 q2 q3 => ?_, fun j q => ?_, fun p a b => ?_, ?_, ?_, ?_⟩
      · funext j; rw [am_u2_a q3, am_u2_a q2, am_u2_a q2, hb b q1]
      · rw [am_u2_k q, am_u2_a (by decide), am_u2_a (by decide), hb 85 (by decide)]
      · rw [am_u2_a (by decide), am_u2_a (by decide), am_u2_a (by decide)]; exact hj p a b
      · rw [am_u2_a (by decide), am_u2_k (by decide), am_u2_s, hb 104 (by decide)]
      · rw [am_u2_a (by decide), am_u2_s, hb 104 (by decide)]; congr 1; omega
      · rw [am_u2_s, hb 104 (by decide)]; congr 1; omega
    | succ d ih =>
      intro f J x3 hd hf h0 hb hj
      obtain ⟨f, rfl⟩ : ∃ g, f = g + 1 := ⟨f - 1, by omega⟩
      obtain ⟨J', w1, w2⟩ := ih f (am_u2 J 87 x3 (J 104 (k * 35 + x3))) (x3 + 1) (by omega) (by omega) (by omega) (fun b q => by funext j; rw [am_u2_a q, hb b q]) (fun p a b => by
        by_cases g : p = x3
        · subst g; rw [am_u2_s, hb 104 (by decide)]
        · rw [am_u2_k g]; exact hj p a (by omega))
      refine ⟨J', ?_, w2⟩
      rw [← w1]
      exact m_bring_s (N := N) hm _ (by omega) (by omega)
  unfold X12_bring
  rw [if_pos (nb_in (by omega))]
  exact loop 32 N I 0 (by omega) (by omega) (by omega) (fun _ _ => rfl) (fun p a b => by omega)
/-- what is read of the model's own side -/
def mR (I : am_I) (R C A : Int) (lk U : Int → Int) : Prop := mg I R C A ∧ mW I C A ∧ I 86 = lk ∧ (∀ j, 6 ≤ j → j ≤ 12 → I 85 j = U j) ∧ gm_u U ∧ gm_st A lk (I 87) ∧ (I 85 5 = 0 ∨ I 85 5 = 1)
theorem mR.u (h : mR I R C A lk U) : gm_u (I 85) := by
  have := h.2.2.2.1
  have := h.2.2.2.2.1
  unfold gm_u at *
  rw [h.2.2.2.1 7 (by omega) (by omega), h.2.2.2.1 8 (by omega) (by omega), h.2.2.2.1 10 (by omega) (by omega)]
  exact this
theorem mR.kept (h : mR I R C A lk U) (hb : ∀ b, b = 86 ∨ b = 87 ∨ b = 89 ∨ b = 90 → J b = I b) (h85 : ∀ j, j < 13 → J 85 j = I 85 j) : mR J R C A lk U := by
  obtain ⟨a, b, c, d, e, f, g⟩ := h
  refine ⟨a.kept (h85 0 (by omega)) (h85 1 (by omega)), fun k x y => by rw [hb 89 (by omega), hb 90 (by omega)]; exact b k x y, (hb 86 (by omega)).trans c, fun j x y => (h85 j (by omega)).trans (d j x y), e, by rw [hb 87 (by omega)]; exact f, by rw [h85 5 (by omega)]; exact g⟩
theorem rel.mR (h : rel n K F I R C A lk U S) : mR I R C A lk U := ⟨h.g.m, h.g.w, h.g.k, h.u.m, h.u.gm.1, h.p.s, h.p.w1⟩
theorem mR.sc (h : mR I R C A lk U) (hs : sc I J) : mR J R C A lk U := h.kept (fun b q => hs.row (by omega)) (fun j q => hs.fld (by omega))
theorem m_make_R (hm : mw K F) (hR : mR I R C A lk U) (hN : 2000000 < N) {p : Int} (h0 : 0 ≤ p) (h1 : p < A) (hl : lk p = 0) (hsd : gm_sd A p = I 85 5) :
    ∃ J', X12_make N K F 85 I 87 (I 85 5) p = some (0, J') ∧ ms I J' ∧ J' 85 18 = (gm_mv A C lk (U 6) (U 7) (U 8) (U 9) (I 87) (I 85 5) p).2.2 ∧ gm_eq A (J' 91) (gm_mv A C lk (U 6) (U 7) (U 8) (U 9) (I 87) (I 85 5) p).1 ∧ J' 85 17 = gm_tot A (I 87) - gm_tot A (gm_mv A C lk (U 6) (U 7) (U 8) (U 9) (I 87) (I 85 5) p).1 := by
  have hu := hR.u
  obtain ⟨a, b, c, d, e, f, g⟩ := hR
  obtain ⟨J', w1, w2, -, w3, w4, w5⟩ := m_make_s (N := N) hm a b hN hu (Or.inl rfl) (who := I 85 5) (p := p) (by rw [c]; exact f) h0 h1 (by rw [c]; exact hl) hsd ms.rfl
  rw [c, d 6 (by omega) (by omega), d 7 (by omega) (by omega), d 8 (by omega) (by omega), d 9 (by omega) (by omega)] at w3 w4 w5
  exact ⟨J', w1, w2, w3, w4, w5⟩
theorem m_mfs (hm : mw K F) (h : mg I R C A) (kk : am_I → Int → Option (Int × am_I)) {x2 : Int} (h3 : 0 ≤ x2 ∧ x2 < A) : X12_moveFrom_s23 N K F 85 kk I x2 = kk (am_u2 I 87 x2 (I 91 x2)) (x2 + 1) := by
  have hA := h.A
  unfold X12_moveFrom_s23
  simp only [m_all h, am_cq_s, mwF_85_16 hm, mwK_91 hm, mwF_85_3 hm, mwK_87 hm, am_lt]
  rw [if_pos (by omega), if_pos trivial, if_pos (by omega), if_pos trivial, if_pos (by decide), if_pos (by omega), if_pos (nb_in (by omega))]
theorem m_mfe (hm : mw K F) (hN : 100 < N) (h : mg I R C A) (kk : am_I → Int → Option (Int × am_I)) (hw : I 85 5 = 0 ∨ I 85 5 = 1) (hm1 : 0 ≤ I 85 37 ∧ I 85 37 < 1000) (hin : am_inI (I 88 (I 85 5) + I 85 17)) : ∃ J, X12_moveFrom_s23 N K F 85 kk I A = some (I 85 17, J) ∧ (∀ b, b ≠ 85 → b ≠ 88 → b ≠ 104 → J b = I b) ∧ (∀ j, j ≠ 5 → j ≠ 37 → j ≠ 38 → J 85 j = I 85 j) ∧ J 85 5 = 1 - I 85 5 ∧ J 85 37 = I 85 37 + 1 ∧ J 85 38 = 0 ∧ J 88 = gm_up (I 88) (I 85 5) (I 88 (I 85 5) + I 85 17) ∧ J 104 = hk (I 104) (I 85 37 + 1) (I 87) (J 88 0) (J 88 1) (1 - I 85 5) := by
  have hA := h.A
  generalize hJ1 : am_u2 (am_u2 (am_u2 (am_u2 I 88 (I 85 5) (I 88 (I 85 5) + I 85 17)) 85 5 (1 - I 85 5)) 85 37 (I 85 37 + 1)) 85 38 0 = J1
  have hk1 := m_keep (N := N) (I := J1) hm hN (k := I 85 37 + 1) (by omega)
  have f : ∀ b, b ≠ 85 → b ≠ 88 → J1 b = I b := fun b q1 q2 => by rw [← hJ1]; funext j; rw [am_u2_a q1, am_u2_a q1, am_u2_a q1, am_u2_a q2]
  have f85 : ∀ j, j ≠ 5 → j ≠ 37 → j ≠ 38 → J1 85 j = I 85 j := fun j q1 q2 q3 => by rw [← hJ1, am_u2_k q3, am_u2_k q2, am_u2_k q1, am_u2_a (by decide)]
  have e5 : J1 85 5 = 1 - I 85 5 := by rw [← hJ1, am_u2_k (by decide), am_u2_k (by decide), am_u2_s]
  have e37 : J1 85 37 = I 85 37 + 1 := by rw [← hJ1, am_u2_k (by decide), am_u2_s]
  have e38 : J1 85 38 = 0 := by rw [← hJ1, am_u2_s]
  have e88 : J1 88 = gm_up (I 88) (I 85 5) (I 88 (I 85 5) + I 85 17) := by
    rw [← hJ1]; funext j; rw [am_u2_a (by decide), am_u2_a (by decide), am_u2_a (by decide)]
    unfold am_u2 gm_up
    by_cases g : j = I 85 5
    · rw [if_pos ⟨rfl, g⟩, if_pos g]
    · rw [if_neg (fun w => g w.2), if_neg g]
  refine ⟨am_row J1 104 (hk (J1 104) (I 85 37 + 1) (J1 87) (J1 88 0) (J1 88 1) (J1 85 5)), ?_, fun b q1 q2 q3 => by funext j; rw [am_row_n q3, f b q1 q2], fun j q1 q2 q3 => by rw [am_row_n (by decide), f85 j q1 q2 q3], by rw [am_row_n (by decide), e5], by rw [am_row_n (by decide), e37], by rw [am_row_n (by decide), e38], by rw [← e88]; funext j; rw [am_row_n (by decide)], by funext j; rw [am_row_s, am_row_n (by decide), am_row_n (by decide), f 104 (by decide) (by decide), f 87 (by decide) (by decide), e5]⟩
  unfold X12_moveFrom_s23
  simp only [m_all h, am_cq_s, mwF_85_4 hm, mwK_88 hm, am_lt, am_u2_a (show (85 : Nat) ≠ 88 by decide), am_u2_s, am_u2_k (show (37 : Int) ≠ 5 by decide), am_u2_k (show (37 : Int) ≠ 38 by decide)]
  rw [if_neg (by omega), if_pos trivial, if_pos (by omega), if_pos hin, if_pos (by decide), if_pos (nb_in (by omega)), if_pos (nb_in (by omega)), hJ1, hk1, am_cl_s, am_row_n (by decide), f85 17 (by decide) (by decide) (by decide)]
/-- the model's move -/
theorem m_moveFrom (hm : mw K F) (hR : mR I R C A lk U) (hN : 2000000 < N) {p : Int} (h0 : 0 ≤ p) (h1 : p < A) (hl : lk p = 0) (hsd : gm_sd A p = I 85 5) (hm1 : 0 ≤ I 85 37 ∧ I 85 37 < 1000) (hst : 0 ≤ I 88 (I 85 5) ∧ I 88 (I 85 5) ≤ 1000000) :
    ∃ J, X12_moveFrom N K F 85 I p = some (gm_tot A (I 87) - gm_tot A (gm_mv A C lk (U 6) (U 7) (U 8) (U 9) (I 87) (I 85 5) p).1, J) ∧
      (∀ b, b ≠ 85 → b ≠ 87 → b ≠ 88 → b ≠ 91 → b ≠ 103 → b ≠ 104 → J b = I b) ∧ (∀ j, (j < 17 ∨ 19 < j) → j ≠ 5 → j ≠ 37 → j ≠ 38 → J 85 j = I 85 j) ∧ J 85 5 = 1 - I 85 5 ∧ J 85 37 = I 85 37 + 1 ∧ J 85 38 = 0 ∧
      J 88 = gm_up (I 88) (I 85 5) (I 88 (I 85 5) + (gm_tot A (I 87) - gm_tot A (gm_mv A C lk (U 6) (U 7) (U 8) (U 9) (I 87) (I 85 5) p).1)) ∧
      (∀ q, 0 ≤ q → q < A → J 87 q = (gm_mv A C lk (U 6) (U 7) (U 8) (U 9) (I 87) (I 85 5) p).1 q) ∧ (∀ q, A ≤ q → J 87 q = I 87 q) ∧
      J 104 = hk (hk (I 104) (I 85 37) (I 87) (I 88 0) (I 88 1) (I 85 5)) (I 85 37 + 1) (J 87) (J 88 0) (J 88 1) (1 - I 85 5) := by
  have hA := hR.1.A
  obtain ⟨J1, w1, w2, w3, w4, w5⟩ := m_make_R hm hR hN h0 h1 hl hsd
  obtain ⟨mst, mle, -⟩ := gm_mv_st hR.1.g (kd := U 6) (mr := U 7) (lo := U 8) (hi := U 9) hR.2.2.2.2.2.1 h0 h1 hl hsd
  have mtn := gm_tot_nn mst.1
  have mt := hR.2.2.2.2.2.1.2.2
  generalize gm_mv A C lk (U 6) (U 7) (U 8) (U 9) (I 87) (I 85 5) p = mv at *
  have e37 : J1 85 37 = I 85 37 := w2.fld (by omega)
  have e5 : J1 85 5 = I 85 5 := w2.fld (by omega)
  have e87 : J1 87 = I 87 := w2.row (by decide) (by decide) (by decide)
  have e88 : J1 88 = I 88 := w2.row (by decide) (by decide) (by decide)
  have e104 : J1 104 = I 104 := w2.row (by decide) (by decide) (by decide)
  have hk1 := m_keep (N := N) (I := J1) hm (by omega) (k := I 85 37) (by omega)
  rw [e104, e87, e88, e5] at hk1
  generalize hJ2 : am_row J1 104 (hk (I 104) (I 85 37) (I 87) (I 88 0) (I 88 1) (I 85 5)) = J2 at hk1
  have g2 : ∀ b, b ≠ 104 → J2 b = J1 b := fun b q => by rw [← hJ2]; funext j; rw [am_row_n q]
  have loop : ∀ (d f : Nat) (J : am_I) (x : Int), A - x = d → d < f → 0 ≤ x → (∀ b, b ≠ 87 → J b = J2 b) → (∀ q, 0 ≤ q → q < x → J 87 q = J1 91 q) → (∀ q, x ≤ q → J 87 q = I 87 q) → ∃ (J3 J4 : am_I), X12_moveFrom_h23 N K F 85 f J x = some (J1 85 17, J4) ∧ (∀ b, b ≠ 87 → J3 b = J2 b) ∧ (∀ q, 0 ≤ q → q < A → J3 87 q = J1 91 q) ∧ (∀ q, A ≤ q → J3 87 q = I 87 q) ∧ (∀ b, b ≠ 85 → b ≠ 88 → b ≠ 104 → J4 b = J3 b) ∧ (∀ j, j ≠ 5 → j ≠ 37 → j ≠ 38 → J4 85 j = J3 85 j) ∧ J4 85 5 = 1 - I 85 5 ∧ J4 85 37 = I 85 37 + 1 ∧ J4 85 38 = 0 ∧ J4 88 = gm_up (I 88) (I 85 5) (I 88 (I 85 5) + J1 85 17) ∧ J4 104 = hk (J3 104) (I 85 37 + 1) (J3 87) (J4 88 0) (J4 88 1) (1 - I 85 5) := by
    intro d
    induction d with
    | zero =>
      intro f J x hd hf hx hb h87 h87b
      obtain ⟨f, rfl⟩ : ∃ g, f = g + 1 := ⟨f - 1, by omega⟩
      have e : x = A := by omega
      have hJmg : mg J R C A := hR.1.kept (by rw [hb 85 (by decide), g2 85 (by decide)]; exact w2.fld (by omega)) (by rw [hb 85 (by decide), g2 85 (by decide)]; exact w2.fld (by omega))
      have j5 : J 85 5 = I 85 5 := by rw [hb 85 (by decide), g2 85 (by decide), e5]
      have j37 : J 85 37 = I 85 37 := by rw [hb 85 (by decide), g2 85 (by decide), e37]
      have j17 : J 85 17 = J1 85 17 := by rw [hb 85 (by decide), g2 85 (by decide)]
      have j88 : J 88 = I 88 := by rw [hb 88 (by decide), g2 88 (by decide), e88]
      obtain ⟨J4, v1, v2, v3, v4, v5, v6, v7, v8⟩ := m_mfe (N := N) hm (by omega) hJmg (X12_moveFrom_h23 N K F 85 f) (by rw [j5]; exact hR.2.2.2.2.2.2) (by rw [j37]; exact hm1) (by rw [j88, j5, j17, w5]; exact nb_in (by omega))
      rw [j5, j88, j17] at v7
      rw [j5] at v4
      rw [j37] at v5
      rw [j5, j37] at v8
      refine ⟨J, J4, ?_, hb, fun q a b => h87 q a (by omega), fun q a => h87b q (by omega), v2, v3, v4, v5, v6, v7, v8⟩
      rw [e, ← j17]
      exact v1
    | succ d ih =>
      intro f J x hd hf hx hb h87 h87b
      obtain ⟨f, rfl⟩ : ∃ g, f = g + 1 := ⟨f - 1, by omega⟩
      have hJmg : mg J R C A := hR.1.kept (by rw [hb 85 (by decide), g2 85 (by decide)]; exact w2.fld (by omega)) (by rw [hb 85 (by decide), g2 85 (by decide)]; exact w2.fld (by omega))
      have j91 : J 91 = J1 91 := by rw [hb 91 (by decide), g2 91 (by decide)]
      obtain ⟨J3, J4, v1, v2⟩ := ih f (am_u2 J 87 x (J 91 x)) (x + 1) (by omega) (by omega) (by omega) (fun b q => by funext j; rw [am_u2_a q, hb b q]) (fun q a b => by
        by_cases g : q = x
        · subst g; rw [am_u2_s, j91]
        · rw [am_u2_k g]; exact h87 q a (by omega)) (fun q a => by rw [am_u2_k (by omega)]; exact h87b q (by omega))
      refine ⟨J3, J4, ?_, v2⟩
      rw [← v1]
      exact m_mfs (N := N) hm hJmg _ (by omega)
  obtain ⟨J3, J4, v1, v2, v3, v4, v5, v6, v7, v8, v9, v10, v11⟩ := loop A.toNat N J2 0 (by omega) (by omega) (by omega) (fun _ _ => rfl) (fun q a b => by omega) (fun q a => by rw [g2 87 (by decide), e87])
  have r87 : J4 87 = J3 87 := v5 87 (by decide) (by decide) (by decide)
  refine ⟨J4, ?_, fun b q1 q2 q3 q4 q5 q6 => ?_, fun j q1 q2 q3 q4 => ?_, v7, v8, v9, ?_, fun q a b => ?_, fun q a => ?_, ?_⟩
  · unfold X12_moveFrom
    rw [mwF_85_3 hm, w1, am_cl_s, e37, hk1, am_cl_s, v1, w5]
  · rw [v5 b q1 q3 q6, v2 b q2, g2 b q6]; exact w2.row q4 q5 q1
  · rw [v6 j q2 q3 q4, v2 85 (by decide), g2 85 (by decide)]; exact w2.fld q1
  · rw [v10, w5]
  · rw [r87, v3 q a b]; exact w4 q a b
  · rw [r87]; exact v4 q a
  · rw [v11, r87, v2 104 (by decide), ← hJ2]
    congr 1
end HIST
