-- BOARDS OF NUMBERS: the model's layOut
section LAYM
variable {N : Nat} {K : am_K} {F : am_F} {I : am_I} {R C A : Int} {lk : Int → Int}
theorem m_lay_in (hm' : mw K F) (hN : 100 < N) {m : Int} (hm : 0 ≤ m ∧ m ≤ 32) (k50 : am_I → Int → Int → Int → Int → Int → Option (Int × am_I)) {pl p : Int} (hp : 0 ≤ p ∧ p < 32) : ∀ (b n f : Nat) (e : Int) (c : Int → Int), b ≤ n → b < f → n ≤ 12 → 0 ≤ e → e < gW m ((n - b : Nat) : Int) → 0 ≤ c p → c p + b ≤ 1000 →
    X12_layOut_h83 N K F 85 k50 f (am_row I 92 c) pl (n : Int) (gW (m + 1) (n : Int) - gW (m + 1) ((n - b : Nat) : Int) + e) m p = X12_layOut_b123 N K F 85 k50 (am_row I 92 (gm_up c p (c p + b))) pl ((n - b : Nat) : Int) e m p := by
  intro b
  induction b with
  | zero =>
    intro n f e c hb hf hn e0 e1 c0 c1
    obtain ⟨f, rfl⟩ : ∃ g, f = g + 1 := ⟨f - 1, by omega⟩
    rw [Nat.sub_zero] at e1 ⊢
    rw [show gW (m + 1) (n : Int) - gW (m + 1) (n : Int) + e = e by omega, show c p + ((0 : Nat) : Int) = c p by omega]
    have ec : gm_up c p (c p) = c := by funext j; unfold gm_up; by_cases g : j = p; rw [if_pos g, g]; rw [if_neg g]
    rw [ec]
    show X12_layOut_s83 N K F 85 k50 (X12_layOut_h83 N K F 85 k50 f) _ pl _ _ m p = _
    unfold X12_layOut_s83
    rw [m_ways hN (by omega) (by omega), am_cq_s, if_neg (by rw [nb_cge]; omega)]
  | succ b ih =>
    intro n f e c hb hf hn e0 e1 c0 c1
    obtain ⟨f, rfl⟩ : ∃ g, f = g + 1 := ⟨f - 1, by omega⟩
    obtain ⟨n, rfl⟩ : ∃ g, n = g + 1 := ⟨n - 1, by omega⟩
    rw [show n + 1 - (b + 1) = n - b by omega] at e1 ⊢
    have hr := ih n f e (gm_up c p (c p + 1)) (by omega) (by omega) (by omega) e0 e1 (by rw [gm_up_s]; omega) (by rw [gm_up_s]; omega)
    have hs := gW_s (m := m) (k := ((n + 1 : Nat) : Int)) hm.1 (by omega)
    rw [show ((n + 1 : Nat) : Int) - 1 = (n : Int) by omega] at hs
    have hmo := gW_mono (m := m + 1) (k := ((n - b : Nat) : Int)) (k' := (n : Int)) (by omega) (by omega)
    have hle := gW_le (m := m + 1) (k := ((n + 1 : Nat) : Int)) (by omega) (by omega)
    have hle2 := gW_le (m := m) (k := ((n - b : Nat) : Int)) (by omega) (by omega)
    have hn0 := gW_nn (m + 1) ((n - b : Nat) : Int)
    have hn1 := gW_nn m ((n + 1 : Nat) : Int)
    show X12_layOut_s83 N K F 85 k50 (X12_layOut_h83 N K F 85 k50 f) _ pl _ _ m p = _
    unfold X12_layOut_s83
    rw [m_ways hN (by omega) (by omega), am_cq_s, if_pos (by rw [nb_cge]; omega), am_cq_s, mwF_85_20 hm', mwK_92 hm', am_row_s]
    unfold am_lt
    dsimp only
    rw [if_pos (show (100 : Nat) = 100 from rfl), if_pos hp, if_pos (nb_in (by omega)), if_pos (by decide), if_pos (nb_in (by omega)), nb_wL (by omega), am_row_u]
    rw [show ((n + 1 : Nat) : Int) + -1 = (n : Int) by omega, show gW (m + 1) ((n + 1 : Nat) : Int) - gW (m + 1) ((n - b : Nat) : Int) + e - gW m ((n + 1 : Nat) : Int) = gW (m + 1) (n : Int) - gW (m + 1) ((n - b : Nat) : Int) + e by omega]
    rw [hr, gm_up_s]
    congr 2
    funext j
    unfold gm_up
    by_cases g : j = p
    · rw [if_pos g, if_pos g]; omega
    · rw [if_neg g, if_neg g, if_neg g]
theorem m_layOut (hm : mw K F) (h : mg I R C A) (hN : 100 < N) {pl : Int} (h0 : 0 ≤ pl) (h1 : pl < 2 * gW (gm_L A (I 86) + 1) 12) : X12_layOut N K F 85 I pl = some (pl % 2, am_row I 92 (gm_ld A (gm_bd2 A (I 86) (pl / 2)) (I 92))) := by
  have hA := h.A
  have hLb := gm_L_b (A := A) (by omega) (I 86)
  have hB := gW_le (m := gm_L A (I 86) + 1) (k := 12) (by omega) (by omega)
  have hmg : ∀ c, mg (am_row I 92 c) R C A := fun c => h.kept (am_row_n (by decide)) (am_row_n (by decide))
  have h86 : ∀ c j, am_row I 92 c 86 j = I 86 j := fun c j => am_row_n (by decide)
  have hth : X12_there N K F I 85 = some (gm_L A (I 86)) := m_there hm h (by omega)
  obtain ⟨l1, l2, l3, l4⟩ := gm_lay_b (L := gm_L A (I 86)) (b := pl / 2) (by omega) (by omega) (by omega)
  have loop : ∀ (d f p : Nat) (m n v : Int) (c : Int → Int), p + d = A.toNat → d < f → m = gm_sl (gm_lv (I 86)) d (p : Int) → m ≤ 32 → 0 ≤ n → n ≤ 12 → 0 ≤ v → v < gW m n →
      X12_layOut_h50 N K F 85 f (am_row I 92 c) pl n v m (p : Int) = some (pl % 2, am_row I 92 (fun j => if (p : Int) ≤ j ∧ j < (p : Int) + d then gm_de (I 86) d (p : Int) m n v j else c j)) := by
    intro d
    induction d with
    | zero =>
      intro f p m n v c hp hf hm1 m1 n0 n1 v0 v1
      obtain ⟨f, rfl⟩ : ∃ g, f = g + 1 := ⟨f - 1, by omega⟩
      show X12_layOut_s50 N K F 85 (X12_layOut_h50 N K F 85 f) _ pl n v m _ = _
      unfold X12_layOut_s50
      rw [m_all (hmg c), am_cq_s, if_neg (by omega), if_pos (by decide), nb_lrem ⟨by omega, by omega⟩ (by decide) h0 (by decide), if_pos (nb_in (by omega))]
      congr 3
      funext j
      rw [if_neg (by omega)]
    | succ d ih =>
      intro f p m n v c hp hf hm1 m1 n0 n1 v0 v1
      obtain ⟨f, rfl⟩ : ∃ g, f = g + 1 := ⟨f - 1, by omega⟩
      have hpA : (p : Int) < A := by omega
      have hsm : m = gm_lv (I 86) (p : Int) + gm_sl (gm_lv (I 86)) d ((p : Int) + 1) := hm1
      have hmn := gm_sl_nn (g := gm_lv (I 86)) d ((p : Int) + 1) (fun j _ _ => (gm_lv_01 _ j).1)
      have ep : ((p + 1 : Nat) : Int) = (p : Int) + 1 := by omega
      show X12_layOut_s50 N K F 85 (X12_layOut_h50 N K F 85 f) _ pl n v m _ = _
      unfold X12_layOut_s50
      rw [m_all (hmg c), am_cq_s, if_pos hpA, mwF_85_20 hm, mwK_92 hm, mwF_85_2 hm, mwK_86 hm, if_pos (show ((100, 32) : Nat × Int).1 = 100 from rfl), if_pos (by decide), if_pos (show (0 : Int) ≤ (p : Int) ∧ (p : Int) < 32 by omega), am_row_u]
      unfold am_lt
      dsimp only
      rw [h86, if_pos (show (101 : Nat) = 101 from rfl), if_pos (show (0 : Int) ≤ (p : Int) ∧ (p : Int) < 32 by omega)]
      by_cases hl : I 86 (p : Int) = 0
      · have e1 : gm_lv (I 86) (p : Int) = 1 := by unfold gm_lv; rw [if_pos hl]
        obtain ⟨m', rfl⟩ : ∃ m', m = m' + 1 := ⟨m - 1, by omega⟩
        obtain ⟨bb, ev, b1, b2, b3, b4⟩ := gm_dh_ex (m := m') (by omega) n.toNat v v0 (by rw [show ((n.toNat : Nat) : Int) = n by omega]; exact v1)
        have hdh := gm_dh_eq (m := m') (by omega) bb n.toNat ev b1 b2 b3
        rw [← b4] at hdh
        have hin := m_lay_in (N := N) (K := K) (F := F) (I := I) hm hN (m := m') (by omega) (X12_layOut_h50 N K F 85 f) (pl := pl) (p := (p : Int)) (by omega) bb n.toNat N ev (gm_up c (p : Int) 0) b1 (by omega) (by omega) b2 b3 (by rw [gm_up_s]; omega) (by rw [gm_up_s]; omega)
        rw [← b4, show ((n.toNat : Nat) : Int) = n by omega, show ((n.toNat - bb : Nat) : Int) = n - (bb : Int) by omega, gm_up_s, Int.zero_add] at hin
        rw [show ((n.toNat - bb : Nat) : Int) = n - (bb : Int) by omega] at b3
        rw [if_pos hl, if_pos (nb_in (by omega)), show m' + 1 + -1 = m' by omega, hin]
        unfold X12_layOut_b123
        rw [if_pos (nb_in (by omega))]
        unfold am_lt
        dsimp only
        rw [← ep, ih f (p + 1) m' (n - (bb : Int)) ev _ (by omega) (by omega) (by rw [ep]; omega) (by omega) (by omega) (by omega) b2 b3, ep]
        congr 3
        funext j
        have hde : gm_de (I 86) (d + 1) (p : Int) (m' + 1) n v = gm_up (gm_de (I 86) d ((p : Int) + 1) m' (n - (bb : Int)) ev) (p : Int) (bb : Int) := by
          conv => lhs; unfold gm_de
          rw [if_pos hl, show m' + 1 - 1 = m' by omega, hdh]
        rw [hde]
        unfold gm_up
        by_cases g : j = (p : Int)
        · rw [if_neg (by omega), if_pos g, if_pos (by omega), if_pos g]
        · rw [if_neg g, if_neg g, if_neg g]
          by_cases g2 : (p : Int) + 1 ≤ j ∧ j < (p : Int) + 1 + d
          · rw [if_pos g2, if_pos (by omega)]
          · rw [if_neg g2, if_neg (by omega)]
      · have e1 : gm_lv (I 86) (p : Int) = 0 := by unfold gm_lv; rw [if_neg hl]
        rw [if_neg hl]
        unfold X12_layOut_b123
        rw [if_pos (nb_in (by omega))]
        unfold am_lt
        dsimp only
        rw [← ep, ih f (p + 1) m n v _ (by omega) (by omega) (by rw [ep]; omega) m1 n0 n1 v0 v1, ep]
        congr 3
        funext j
        have hde : gm_de (I 86) (d + 1) (p : Int) m n v = gm_de (I 86) d ((p : Int) + 1) m n v := by
          conv => lhs; unfold gm_de
          rw [if_neg hl]
        rw [hde]
        unfold gm_up
        by_cases g : j = (p : Int)
        · rw [if_neg (by omega), if_pos g, if_pos (by omega), gm_de_out _ _ _ _ _ _ (by omega)]
        · rw [if_neg g]
          by_cases g2 : (p : Int) + 1 ≤ j ∧ j < (p : Int) + 1 + d
          · rw [if_pos g2, if_pos (by omega)]
          · rw [if_neg g2, if_neg (by omega)]
  have hfin : ∀ s0, s0 = 2 * gW (gm_L A (I 86) + 1) (gm_lay (gm_L A (I 86)) (pl / 2) - 1) → X12_layOut_b34 N K F 85 I pl (gm_lay (gm_L A (I 86)) (pl / 2)) s0 pl = some (pl % 2, am_row I 92 (gm_ld A (gm_bd2 A (I 86) (pl / 2)) (I 92))) := by
    intro s0 hs0
    have hsw := gW_s (m := gm_L A (I 86)) (k := gm_lay (gm_L A (I 86)) (pl / 2)) (by omega) l1
    have g0 := gW_nn (gm_L A (I 86) + 1) (gm_lay (gm_L A (I 86)) (pl / 2) - 1)
    have hl := loop A.toNat N 0 (gm_L A (I 86)) (gm_lay (gm_L A (I 86)) (pl / 2)) (pl / 2 - gW (gm_L A (I 86) + 1) (gm_lay (gm_L A (I 86)) (pl / 2) - 1)) (I 92) (by omega) (by omega) (gm_sl_tot A _) (by omega) l1 l2 (by omega) (by omega)
    rw [am_row_id] at hl
    unfold X12_layOut_b34
    rw [if_pos (by decide), nb_wL (by omega), nb_ldiv ⟨by omega, by omega⟩ (by decide) (by omega) (by decide), hth]
    unfold am_lt
    dsimp only
    rw [am_cq_s, show (pl - s0) / 2 = pl / 2 - gW (gm_L A (I 86) + 1) (gm_lay (gm_L A (I 86)) (pl / 2) - 1) by omega]
    refine hl.trans ?_
    congr 3
    funext j
    unfold gm_ld gm_bd2
    by_cases g : 0 ≤ j ∧ j < A
    · rw [if_pos (show ((0 : Nat) : Int) ≤ j ∧ j < ((0 : Nat) : Int) + ((A.toNat : Nat) : Int) by omega), if_pos g]
      rfl
    · rw [if_neg (show ¬ (((0 : Nat) : Int) ≤ j ∧ j < ((0 : Nat) : Int) + ((A.toNat : Nat) : Int)) by omega), if_neg g]
  have hlay : ∀ (d f : Nat) (n : Int), 12 - n = d → d < f → 0 ≤ n → gm_ln (gm_L A (I 86)) (pl / 2) d n = gm_lay (gm_L A (I 86)) (pl / 2) → X12_layOut_h2 N K F 85 f I pl n = some (pl % 2, am_row I 92 (gm_ld A (gm_bd2 A (I 86) (pl / 2)) (I 92))) := by
    have hstop : ∀ (f : Nat) (n : Int), n = gm_lay (gm_L A (I 86)) (pl / 2) → X12_layOut_h2 N K F 85 (f + 1) I pl n = some (pl % 2, am_row I 92 (gm_ld A (gm_bd2 A (I 86) (pl / 2)) (I 92))) := by
      intro f n hn
      show X12_layOut_s2 N K F 85 (X12_layOut_h2 N K F 85 f) I pl n = _
      unfold X12_layOut_s2
      rw [m_placesTo hm h hN (by omega), am_cq_s, if_neg (by rw [nb_cle, hn]; omega)]
      by_cases g : n = 0
      · rw [if_pos g, hn]
        exact hfin 0 (by rw [gW_neg (by omega)]; rfl)
      · rw [if_neg g, if_pos (nb_in (by omega)), m_placesTo hm h hN (by omega), am_cq_s, hn]
        exact hfin _ rfl
    intro d
    induction d with
    | zero =>
      intro f n hd hf n0 he
      obtain ⟨f, rfl⟩ : ∃ g, f = g + 1 := ⟨f - 1, by omega⟩
      exact hstop f n he
    | succ d ih =>
      intro f n hd hf n0 he
      obtain ⟨f, rfl⟩ : ∃ g, f = g + 1 := ⟨f - 1, by omega⟩
      unfold gm_ln at he
      by_cases g : gW (gm_L A (I 86) + 1) n ≤ pl / 2
      · rw [if_pos g] at he
        show X12_layOut_s2 N K F 85 (X12_layOut_h2 N K F 85 f) I pl n = _
        unfold X12_layOut_s2
        rw [m_placesTo hm h hN (by omega), am_cq_s, if_pos (by rw [nb_cle]; omega), if_pos (nb_in (by omega))]
        exact ih f (n + 1) (by omega) (by omega) (by omega) he
      · rw [if_neg g] at he
        exact hstop f n he
  unfold X12_layOut
  exact hlay 12 N 0 (by omega) (by omega) (by omega) rfl
theorem c_seedsOfBoard (hc : cw K F) (hw : cW I) (hg : cg I R C A lk) (hL : gm_isL A lk (I 5)) (hN : 100 < N) {b k : Int} (hb : 0 ≤ b) (hb2 : b < gW (gm_L A lk + 1) 12) {p : Nat} (hp : (p : Int) < A) (hl : lk (p : Int) = 0) (hk : k = gm_sm (gm_lv lk) p) :
    X3_seedsOfBoard N K F 56 I b k = some (gm_bd2 A lk b (p : Int), am_row I 58 (gm_ld 32 (gm_bd2 A lk b) (I 58))) := by
  have hA := hg.A
  have hlb := gm_sm_b (g := gm_lv lk) (B := 1) (d := p) (fun i _ _ => gm_lv_01 _ _)
  unfold X3_seedsOfBoard
  rw [cwF_56_2 hc, c_fill hc hw hg hL hN (Or.inl rfl) hb hb2, am_cl_s]
  simp only [cwF_56_0 hc, cwF_56_2 hc, cwK_3 hc, cwF_3_5 hc, cwK_5 hc, cwK_58 hc]
  rw [if_pos trivial, if_pos trivial, if_pos (by omega), if_pos trivial, am_row_n (by decide), hk, hL p hp hl, if_pos (by omega), am_row_s]
  unfold gm_ld
  rw [if_pos (by omega)]
end LAYM
