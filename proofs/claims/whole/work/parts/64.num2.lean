-- BOARDS BY NUMBER: the model's side
section NUM2
variable {N : Nat} {K : am_K} {F : am_F} {I : am_I} {R C A : Int} {lk : Int → Int}
theorem m_place_in (hN : 100 < N) {a1 : Nat} (hk : K a1 = (100, 32)) (k36 : Nat → Int → Int → Int → Int → Int → Option Int) {who left m p : Int} (hm : 0 ≤ m ∧ m ≤ 32) (hp : 0 ≤ p ∧ p < 32) (hb : 0 ≤ I a1 p ∧ I a1 p ≤ left) (hl : left ≤ 12) : ∀ (d f : Nat) (n v : Int), I a1 p - n = d → d < f → 0 ≤ n → 0 ≤ v → v + gW (m + 1) (left - n) ≤ 10000000000000000 →
    X12_placeOf_h64 N K F I 85 k36 f a1 who left m v p n = X12_placeOf_b100 N K F I 85 k36 a1 who (left - I a1 p) m (v + gW (m + 1) (left - n) - gW (m + 1) (left - I a1 p)) p := by
  intro d
  induction d with
  | zero =>
    intro f n v hd hf n0 v0 v1
    obtain ⟨f, rfl⟩ : ∃ g, f = g + 1 := ⟨f - 1, by omega⟩
    have e : n = I a1 p := by omega
    subst e
    show X12_placeOf_s64 N K F I 85 k36 (X12_placeOf_h64 N K F I 85 k36 f) a1 who left m v p _ = _
    unfold X12_placeOf_s64
    rw [hk, if_pos (show ((100, 32) : Nat × Int).1 = 100 from rfl), if_pos (show (0 : Int) ≤ p ∧ p < 32 from hp), if_neg (by omega), if_pos (nb_in (by omega))]
    unfold am_lt
    dsimp only
    congr 1
    omega
  | succ d ih =>
    intro f n v hd hf n0 v0 v1
    obtain ⟨f, rfl⟩ : ∃ g, f = g + 1 := ⟨f - 1, by omega⟩
    have hs := gW_s (m := m) (k := left - n) (by omega) (by omega)
    have h1 := gW_nn (m + 1) (left - n - 1)
    have h2 := gW_nn m (left - n)
    have hr := ih f (n + 1) (v + gW m (left - n)) (by omega) (by omega) (by omega) (by omega) (by rw [show left - (n + 1) = left - n - 1 by omega]; omega)
    show X12_placeOf_s64 N K F I 85 k36 (X12_placeOf_h64 N K F I 85 k36 f) a1 who left m v p n = _
    unfold X12_placeOf_s64
    rw [hk, if_pos (show ((100, 32) : Nat × Int).1 = 100 from rfl), if_pos (show (0 : Int) ≤ p ∧ p < 32 from hp), if_pos (by omega), if_pos (nb_in (by omega)), m_ways hN (by omega) (by omega), am_cq_s]
    unfold am_lt
    dsimp only
    rw [nb_wL (by omega), if_pos (nb_in (by omega)), hr, show left - (n + 1) = left - n - 1 by omega]
    congr 1
    omega
theorem m_placeOf (hm : mw K F) (h : mg I R C A) (hN : 100 < N) {a1 : Nat} (hk : K a1 = (100, 32)) (hs : gm_st A (I 86) (I a1)) (h12 : gm_tot A (I a1) ≤ 12) {who : Int} (hw : who = 0 ∨ who = 1) : X12_placeOf N K F I 85 a1 who = some (2 * gm_nu A (I 86) (I a1) + who) := by
  have hA := h.A
  have hLb := gm_L_b (A := A) (by omega) (I 86)
  have hth : X12_there N K F I 85 = some (gm_L A (I 86)) := m_there hm h (by omega)
  have hse : X12_seedsOf N K F I 85 a1 = some (gm_tot A (I a1)) := m_seedsOf h hk hs.bd (by omega)
  have ht := gm_tot_nn hs.1
  have loop : ∀ (d f p : Nat) (m n v : Int), p + d = A.toNat → d < f → m = gm_sl (gm_lv (I 86)) d (p : Int) → n = gm_sl (I a1) d (p : Int) → 0 ≤ m → m ≤ 32 → n ≤ 12 → 0 ≤ v → v + gW m n ≤ 1000000000000000 → X12_placeOf_h36 N K F I 85 f a1 who n m v (p : Int) = some (2 * (v + gm_en (I 86) (I a1) d (p : Int) m n) + who) := by
    intro d
    induction d with
    | zero =>
      intro f p m n v hp hf hm1 hn1 m0 m1 n1 v0 v1
      obtain ⟨f, rfl⟩ : ∃ g, f = g + 1 := ⟨f - 1, by omega⟩
      have g0 := gW_nn m n
      show X12_placeOf_s36 N K F I 85 (X12_placeOf_h36 N K F I 85 f) a1 who n m v _ = _
      unfold X12_placeOf_s36
      rw [m_all h, am_cq_s, if_neg (by omega), nb_wL (x := 2 * v) (by omega), nb_wL (by omega)]
      unfold gm_en
      congr 1
      omega
    | succ d ih =>
      intro f p m n v hp hf hm1 hn1 m0 m1 n1 v0 v1
      obtain ⟨f, rfl⟩ : ∃ g, f = g + 1 := ⟨f - 1, by omega⟩
      have hpA : (p : Int) < A := by omega
      have hc0 := hs.1 (p : Int) (by omega) hpA
      have hsm : m = gm_lv (I 86) (p : Int) + gm_sl (gm_lv (I 86)) d ((p : Int) + 1) := hm1
      have hsn : n = I a1 (p : Int) + gm_sl (I a1) d ((p : Int) + 1) := hn1
      have hnn := gm_sl_nn (g := I a1) d ((p : Int) + 1) (fun j a b => hs.1 j (by omega) (by omega))
      have hmn := gm_sl_nn (g := gm_lv (I 86)) d ((p : Int) + 1) (fun j _ _ => (gm_lv_01 _ j).1)
      have ep : ((p + 1 : Nat) : Int) = (p : Int) + 1 := by omega
      show X12_placeOf_s36 N K F I 85 (X12_placeOf_h36 N K F I 85 f) a1 who n m v _ = _
      unfold X12_placeOf_s36
      rw [m_all h, am_cq_s, if_pos hpA, mwF_85_2 hm, mwK_86 hm, if_pos (show ((101, 32) : Nat × Int).1 = 101 from rfl), if_pos (show (0 : Int) ≤ (p : Int) ∧ (p : Int) < 32 by omega)]
      by_cases hl : I 86 (p : Int) = 0
      · have e1 : gm_lv (I 86) (p : Int) = 1 := by unfold gm_lv; rw [if_pos hl]
        rw [if_pos hl, if_pos (nb_in (by omega))]
        unfold am_lt
        dsimp only
        obtain ⟨m', rfl⟩ : ∃ m', m = m' + 1 := ⟨m - 1, by omega⟩
        have g1 := gW_s (m := m') (k := n - I a1 (p : Int)) (by omega) (by omega)
        have g2 := gW_nn (m' + 1) (n - I a1 (p : Int) - 1)
        have g3 := gW_nn (m' + 1) (n - I a1 (p : Int))
        have g4 := gW_mono (m := m' + 1) (k := n - I a1 (p : Int)) (k' := n) (by omega) (by omega)
        rw [show m' + 1 + -1 = m' by omega, m_place_in hN hk _ (by omega) (by omega) (by omega) (by omega) (I a1 (p : Int)).toNat N 0 v (by omega) (by omega) (by omega) v0 (by rw [Int.sub_zero]; omega)]
        rw [Int.sub_zero]
        unfold X12_placeOf_b100
        rw [if_pos (nb_in (by omega))]
        unfold am_lt
        dsimp only
        rw [← ep, ih f (p + 1) m' (n - I a1 (p : Int)) _ (by omega) (by omega) (by rw [ep]; omega) (by rw [ep]; omega) (by omega) (by omega) (by omega) (by omega) (by omega)]
        have hen : gm_en (I 86) (I a1) (d + 1) (p : Int) (m' + 1) n = gW (m' + 1) n - gW (m' + 1) (n - I a1 (p : Int)) + gm_en (I 86) (I a1) d ((p : Int) + 1) (m' + 1 - 1) (n - I a1 (p : Int)) := by
          conv => lhs; unfold gm_en
          rw [if_pos hl]
        rw [hen, ep, show m' + 1 - 1 = m' by omega]
        congr 1
        omega
      · have e1 : gm_lv (I 86) (p : Int) = 0 := by unfold gm_lv; rw [if_neg hl]
        have e2 := hs.2.1 (p : Int) (by omega) hpA hl
        rw [if_neg hl]
        unfold X12_placeOf_b100
        rw [if_pos (nb_in (by omega))]
        unfold am_lt
        dsimp only
        rw [← ep, ih f (p + 1) m n v (by omega) (by omega) (by rw [ep]; omega) (by rw [ep]; omega) m0 m1 n1 v0 v1]
        have hen : gm_en (I 86) (I a1) (d + 1) (p : Int) m n = gm_en (I 86) (I a1) d ((p : Int) + 1) m n := by
          conv => lhs; unfold gm_en
          rw [if_neg hl]
        rw [hen, ep]
  have g1 := gW_le (m := gm_L A (I 86) + 1) (k := gm_tot A (I a1) - 1) (by omega) (by omega)
  have g2 := gW_nn (gm_L A (I 86) + 1) (gm_tot A (I a1) - 1)
  have g3 := gW_le (m := gm_L A (I 86)) (k := gm_tot A (I a1)) (by omega) (by omega)
  have hl := loop A.toNat N 0 (gm_L A (I 86)) (gm_tot A (I a1)) (gW (gm_L A (I 86) + 1) (gm_tot A (I a1) - 1)) (by omega) (by omega) (gm_sl_tot A _) (gm_sl_tot A _) (by omega) (by omega) (by omega) g2 (by omega)
  unfold X12_placeOf X12_placeOf_b31
  rw [hse, am_cq_s, hth, am_cq_s]
  by_cases g : gm_tot A (I a1) = 0
  · rw [if_pos g]
    have e : gW (gm_L A (I 86) + 1) (gm_tot A (I a1) - 1) = 0 := gW_neg (by omega)
    unfold gm_nu
    rw [e] at hl ⊢
    exact hl
  · rw [if_neg g, if_pos (nb_in (by omega)), m_placesTo hm h hN (by omega), am_cq_s, if_pos (by decide), nb_ldiv ⟨by omega, by omega⟩ (by decide) (by omega) (by decide), Int.mul_comm 2, Int.mul_ediv_cancel _ (by decide)]
    exact hl
end NUM2
