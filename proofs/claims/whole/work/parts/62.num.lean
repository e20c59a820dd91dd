-- NUMBERS OF BOARDS: the class's
theorem gm_en_0 {lk c : Int → Int} : ∀ (d : Nat) (p m : Int), (∀ j, p ≤ j → j < p + d → c j = 0) → gm_en lk c d p m 0 = 0
  | 0, _, _, _ => rfl
  | d + 1, p, m, h => by
    have e := h p (by omega) (by omega)
    unfold gm_en
    rw [e, gm_en_0 d (p + 1) m (fun j a b => h j (by omega) (by omega)), show (0 : Int) - 0 = 0 by omega, gm_en_0 d (p + 1) (m - 1) (fun j a b => h j (by omega) (by omega))]
    split <;> omega
theorem gm_sl_z {c : Int → Int} : ∀ (d : Nat) (p : Int), (∀ j, p ≤ j → j < p + d → 0 ≤ c j) → gm_sl c d p = 0 → ∀ j, p ≤ j → j < p + d → c j = 0
  | 0, _, _, _, j, a, b => by omega
  | d + 1, p, h, hs, j, a, b => by
    have h1 := h p (by omega) (by omega)
    have h2 := gm_sl_nn (g := c) d (p + 1) (fun j a b => h j (by omega) (by omega))
    unfold gm_sl at hs
    by_cases g : j = p
    · subst g; omega
    · exact gm_sl_z d (p + 1) (fun j a b => h j (by omega) (by omega)) (by omega) j (by omega) (by omega)
section NUM
variable {N : Nat} {K : am_K} {F : am_F} {I : am_I} {R C A : Int} {lk : Int → Int}
theorem c_numberOf (hc : cw K F) (hw : cW I) (hg : cg I R C A lk) (hL : gm_isL A lk (I 5)) (hN : 100 < N) {a1 : Nat} (hk : K a1 = (100, 32)) (hs : gm_st A lk (I a1)) (h12 : gm_tot A (I a1) ≤ 12) : X3_numberOf N K F I 56 a1 = some (gm_nu A lk (I a1)) := by
  have hA := hg.A
  have hLb := gm_L_b (A := A) (by omega) lk
  have hn := gm_tot_nn hs.1
  have h33 : I 3 3 = gm_L A lk := hg.2.1.2.2.2
  have loop : ∀ (d f p : Nat) (left num : Int), p + d = A.toNat → d < f → left = gm_sl (I a1) d (p : Int) → left ≤ 12 → 0 ≤ num → num + gm_en lk (I a1) d (p : Int) (gm_L A lk - gm_sm (gm_lv lk) p) left ≤ 200000000000 →
      X3_numberOf_h20 N K F I 56 f a1 left num (gm_sm (gm_lv lk) p) = some (num + gm_en lk (I a1) d (p : Int) (gm_L A lk - gm_sm (gm_lv lk) p) left) := by
    intro d
    induction d with
    | zero =>
      intro f p left num hp hf hl l12 n0 hb
      obtain ⟨f, rfl⟩ : ∃ g, f = g + 1 := ⟨f - 1, by omega⟩
      have e : gm_sm (gm_lv lk) p = gm_L A lk := by rw [show p = A.toNat by omega]; rfl
      show X3_numberOf_s20 N K F I 56 (X3_numberOf_h20 N K F I 56 f) a1 left num _ = _
      unfold X3_numberOf_s20 X3_numberOf_b92
      simp only [cwF_56_0 hc, cwK_3 hc, h33, e]
      rw [if_pos trivial, if_neg (by omega)]
      unfold gm_en
      rw [Int.add_zero]
    | succ d ih =>
      intro f p left num hp hf hl l12 n0 hb
      have hpA : (p : Int) < A := by omega
      have hcp := hs.1 (p : Int) (by omega) hpA
      have hrest : ∀ j, (p : Int) + 1 ≤ j → j < (p : Int) + 1 + d → 0 ≤ I a1 j ∧ (lk j ≠ 0 → I a1 j = 0) := fun j a b => ⟨hs.1 j (by omega) (by omega), hs.2.1 j (by omega) (by omega)⟩
      have hcn := gm_sl_nn (g := I a1) d ((p : Int) + 1) (fun j a b => (hrest j a b).1)
      have hlsum : gm_sl (gm_lv lk) (d + 1) (p : Int) = gm_L A lk - gm_sm (gm_lv lk) p := by
        have := gm_sl_sm (gm_lv lk) (d + 1) p
        rw [hp] at this
        have e : gm_sm (gm_lv lk) A.toNat = gm_L A lk := rfl
        omega
      have hlb := gm_sm_b (g := gm_lv lk) (B := 1) (d := p) (fun i _ _ => gm_lv_01 _ _)
      have hsl1 : gm_sl (gm_lv lk) (d + 1) (p : Int) = gm_lv lk (p : Int) + gm_sl (gm_lv lk) d ((p : Int) + 1) := rfl
      have hsn := gm_sl_nn (g := gm_lv lk) d ((p : Int) + 1) (fun j _ _ => (gm_lv_01 lk j).1)
      have hl2 : left = I a1 (p : Int) + gm_sl (I a1) d ((p : Int) + 1) := hl
      have ep : ((p + 1 : Nat) : Int) = (p : Int) + 1 := by omega
      by_cases hlv : lk (p : Int) = 0
      · have e1 : gm_lv lk (p : Int) = 1 := by unfold gm_lv; rw [if_pos hlv]
        have e2 : gm_sm (gm_lv lk) (p + 1) = gm_sm (gm_lv lk) p + 1 := by rw [gm_sm_s, e1]
        have hen : gm_en lk (I a1) (d + 1) (p : Int) (gm_L A lk - gm_sm (gm_lv lk) p) left = gW (gm_L A lk - gm_sm (gm_lv lk) p) left - gW (gm_L A lk - gm_sm (gm_lv lk) p) (left - I a1 (p : Int)) + gm_en lk (I a1) d ((p : Int) + 1) (gm_L A lk - gm_sm (gm_lv lk) p - 1) (left - I a1 (p : Int)) := by
          conv => lhs; unfold gm_en
          rw [if_pos hlv]
        obtain ⟨f, rfl⟩ : ∃ g, f = g + 1 := ⟨f - 1, by omega⟩
        by_cases hz : 0 < left
        · obtain ⟨i1, i2⟩ := gm_en_b d ((p : Int) + 1) (gm_L A lk - gm_sm (gm_lv lk) p - 1) (left - I a1 (p : Int)) hrest (by omega) (by omega)
          have hmo := gW_mono (m := gm_L A lk - gm_sm (gm_lv lk) p) (k := left - I a1 (p : Int)) (k' := left) (by omega) (by omega)
          have hb1 := gW_le (m := gm_L A lk - gm_sm (gm_lv lk) p) (k := left) (by omega) (by omega)
          have hb0 := gW_nn (gm_L A lk - gm_sm (gm_lv lk) p) (left - I a1 (p : Int))
          have hr := ih f (p + 1) (left - I a1 (p : Int)) (num + (gW (gm_L A lk - gm_sm (gm_lv lk) p) left - gW (gm_L A lk - gm_sm (gm_lv lk) p) (left - I a1 (p : Int)))) (by omega) (by omega) (by rw [ep]; omega) (by omega) (by omega) (by rw [ep, e2, show gm_L A lk - (gm_sm (gm_lv lk) p + 1) = gm_L A lk - gm_sm (gm_lv lk) p - 1 by omega]; omega)
          rw [ep, e2, show gm_L A lk - (gm_sm (gm_lv lk) p + 1) = gm_L A lk - gm_sm (gm_lv lk) p - 1 by omega] at hr
          rw [hen, show num + (gW (gm_L A lk - gm_sm (gm_lv lk) p) left - gW (gm_L A lk - gm_sm (gm_lv lk) p) (left - I a1 (p : Int)) + gm_en lk (I a1) d ((p : Int) + 1) (gm_L A lk - gm_sm (gm_lv lk) p - 1) (left - I a1 (p : Int))) = num + (gW (gm_L A lk - gm_sm (gm_lv lk) p) left - gW (gm_L A lk - gm_sm (gm_lv lk) p) (left - I a1 (p : Int))) + gm_en lk (I a1) d ((p : Int) + 1) (gm_L A lk - gm_sm (gm_lv lk) p - 1) (left - I a1 (p : Int)) by omega, ← hr]
          show X3_numberOf_s20 N K F I 56 (X3_numberOf_h20 N K F I 56 f) a1 left num _ = _
          generalize X3_numberOf_h20 N K F I 56 f = kk
          have h5 : I 5 (gm_sm (gm_lv lk) p) = (p : Int) := hL p hpA hlv
          unfold X3_numberOf_s20 X3_numberOf_b92
          rw [cwF_56_0 hc, cwK_3 hc, h33, cwF_3_5 hc, cwK_5 hc, h5, hk]
          rw [if_pos (show ((1, 0) : Nat × Int).1 = 1 from rfl), if_pos (by omega), if_pos hz, if_pos (show ((100, 32) : Nat × Int).1 = 100 from rfl), if_pos (show 0 ≤ gm_sm (gm_lv lk) p ∧ gm_sm (gm_lv lk) p < 32 by omega), if_pos (show ((100, 32) : Nat × Int).1 = 100 from rfl), if_pos (show (0 : Int) ≤ (p : Int) ∧ (p : Int) < 32 by omega), if_pos (nb_in (by omega))]
          unfold am_lt
          dsimp only
          rw [if_pos (nb_in (by omega)), c_waysOf hc hw (by omega) l12, am_cq_s, c_waysOf hc hw (by omega) (by omega), am_cq_s, if_pos (nb_in (by omega)), nb_wL (x := gW (gm_L A lk - gm_sm (gm_lv lk) p) left - gW (gm_L A lk - gm_sm (gm_lv lk) p) (left - I a1 (p : Int))) (by omega), nb_wL (by omega)]
        · have hz0 : left = 0 := by omega
          have hall : ∀ j, (p : Int) ≤ j → j < (p : Int) + ((d + 1 : Nat) : Int) → I a1 j = 0 := gm_sl_z (d + 1) (p : Int) (fun j a b => hs.1 j (by omega) (by omega)) (by omega)
          rw [hz0, gm_en_0 (d + 1) (p : Int) _ hall, Int.add_zero]
          show X3_numberOf_s20 N K F I 56 (X3_numberOf_h20 N K F I 56 f) a1 0 num _ = _
          unfold X3_numberOf_s20 X3_numberOf_b92
          simp only [cwF_56_0 hc, cwK_3 hc, h33]
          rw [if_pos trivial, if_pos (by omega), if_neg (by omega)]
      · have e1 : gm_lv lk (p : Int) = 0 := by unfold gm_lv; rw [if_neg hlv]
        have e2 : gm_sm (gm_lv lk) (p + 1) = gm_sm (gm_lv lk) p := by rw [gm_sm_s, e1]; omega
        have hc0 := hs.2.1 (p : Int) (by omega) hpA hlv
        have hen : gm_en lk (I a1) (d + 1) (p : Int) (gm_L A lk - gm_sm (gm_lv lk) p) left = gm_en lk (I a1) d ((p : Int) + 1) (gm_L A lk - gm_sm (gm_lv lk) p) left := by
          conv => lhs; unfold gm_en
          rw [if_neg hlv]
        have hr := ih f (p + 1) left num (by omega) (by omega) (by rw [ep]; omega) l12 n0 (by rw [ep, e2, ← hen]; exact hb)
        rw [ep, e2] at hr
        rw [hen]; exact hr
  obtain ⟨e1, e2⟩ := gm_nu_b (A := A) (by omega) hs
  have hgb := gW_le (m := gm_L A lk + 1) (k := gm_tot A (I a1)) (by omega) (by omega)
  have hg0 := gW_nn (gm_L A lk + 1) (gm_tot A (I a1) - 1)
  have hl := loop A.toNat N 0 (gm_tot A (I a1)) (gW (gm_L A lk + 1) (gm_tot A (I a1) - 1)) (by omega) (by omega) (gm_sl_tot A (I a1)) h12 hg0 (by
    rw [gm_sm_0, Int.sub_zero]
    unfold gm_nu at e2
    show gW (gm_L A lk + 1) (gm_tot A (I a1) - 1) + gm_en lk (I a1) A.toNat 0 (gm_L A lk) (gm_tot A (I a1)) ≤ _
    omega)
  rw [gm_sm_0, Int.sub_zero] at hl
  unfold X3_numberOf
  simp only [cwF_56_0 hc, cwK_3 hc, c_seedsIn hc hg (by omega) hk hs.bd, am_cq_s]
  rw [if_pos trivial, if_pos (nb_in (by omega)), c_boardsUpTo hc hw hg (by omega), am_cq_s, hl]
  rfl
theorem c_fillA (hN : 100 < N) {a1 : Nat} {n v : Int} (hk : K a1 = (100, n)) (hn : 0 ≤ n ∧ n ≤ 64) (h1 : a1 ≠ 1) : J7_fill_53178 N K F I a1 v = some (0, am_row I a1 (gm_ld n (fun _ => v) (I a1))) := by
  unfold J7_fill_53178
  simp only [hk, am_lt]
  rw [if_pos trivial, if_pos (nb_in (by omega))]
  have hl := am_for (fun f (c : Int → Int) x => J7_fill_53178_h5 N K F f (am_row I a1 c) a1 v x n) n (fun x c => gm_up c x v) (fun x c => 0 ≤ x ∧ x ≤ n ∧ c = gm_ld x (fun _ => v) (I a1)) (fun _ c => some (0, am_row I a1 c)) ?_ ?_ n.toNat N (I a1) 0 (by omega) (by omega) ⟨by omega, by omega, by funext j; unfold gm_ld; rw [if_neg (by omega)]⟩
  · rw [am_row_id] at hl
    rw [hl.1, hl.2.2.2, show (0 : Int) + (n.toNat : Int) = n by omega]
  · intro f c x hx hi
    obtain ⟨x0, x1, hc⟩ := hi
    refine ⟨?_, by omega, by omega, ?_⟩
    · show J7_fill_53178_s5 N K F (J7_fill_53178_h5 N K F f) _ a1 v x n = J7_fill_53178_h5 N K F f _ a1 v _ n
      generalize J7_fill_53178_h5 N K F f = kk
      unfold J7_fill_53178_s5
      simp only [hk, am_lt, am_row_u]
      rw [if_pos hx, if_pos trivial, if_pos h1, if_pos (by omega), if_pos (nb_in (by omega))]
    · subst hc
      funext j
      unfold gm_up gm_ld
      by_cases e : j = x
      · rw [if_pos e, if_pos (by omega)]
      · rw [if_neg e]
        by_cases g : 0 ≤ j ∧ j < x
        · rw [if_pos g, if_pos (by omega)]
        · rw [if_neg g, if_neg (by omega)]
  · intro f c x hx hi
    show J7_fill_53178_s5 N K F (J7_fill_53178_h5 N K F f) _ a1 v x n = _
    unfold J7_fill_53178_s5
    rw [if_neg hx]
theorem c_fill_in (hc : cw K F) {m : Int} (hm : 0 ≤ m ∧ m ≤ 32) (k47 : am_I → Nat → Int → Int → Int → Option (Int × am_I)) {a1 : Nat} {i : Int} {J : am_I} (hw : cW J) : ∀ (b n f : Nat) (x9 e : Int), b ≤ n → b < f → x9 + n ≤ 12 → 0 ≤ x9 → 0 ≤ e → e < gW m ((n - b : Nat) : Int) →
    X3_fill_h76 N K F 56 k47 f J a1 (x9 + n) (gW (m + 1) (n : Int) - gW (m + 1) ((n - b : Nat) : Int) + e) i m x9 = X3_fill_b122 N K F 56 k47 J a1 (x9 + n) e i (x9 + b) := by
  intro b
  induction b with
  | zero =>
    intro n f x9 e hb hf hn h9 e0 e1
    obtain ⟨f, rfl⟩ : ∃ g, f = g + 1 := ⟨f - 1, by omega⟩
    rw [Nat.sub_zero] at e1 ⊢
    rw [show gW (m + 1) (n : Int) - gW (m + 1) (n : Int) + e = e by omega, show x9 + ((0 : Nat) : Int) = x9 by omega]
    show X3_fill_s76 N K F 56 k47 (X3_fill_h76 N K F 56 k47 f) J a1 _ _ i m x9 = _
    unfold X3_fill_s76
    by_cases g : x9 < x9 + (n : Int)
    · rw [if_pos g, if_pos (nb_in (by omega)), c_waysOf hc hw (by omega) (by omega), am_cq_s]
      rw [show x9 + (n : Int) - x9 = (n : Int) by omega, if_neg (by rw [nb_cge]; omega)]
    · rw [if_neg g]
  | succ b ih =>
    intro n f x9 e hb hf hn h9 e0 e1
    obtain ⟨f, rfl⟩ : ∃ g, f = g + 1 := ⟨f - 1, by omega⟩
    obtain ⟨n, rfl⟩ : ∃ g, n = g + 1 := ⟨n - 1, by omega⟩
    rw [show n + 1 - (b + 1) = n - b by omega] at e1 ⊢
    have hr := ih n f (x9 + 1) e (by omega) (by omega) (by omega) (by omega) e0 e1
    have hs := gW_s (m := m) (k := ((n + 1 : Nat) : Int)) hm.1 (by omega)
    rw [show ((n + 1 : Nat) : Int) - 1 = (n : Int) by omega] at hs
    have hmo := gW_mono (m := m + 1) (k := ((n - b : Nat) : Int)) (k' := (n : Int)) (by omega) (by omega)
    have hle := gW_le (m := m + 1) (k := ((n + 1 : Nat) : Int)) (by omega) (by omega)
    have hle2 := gW_le (m := m) (k := ((n - b : Nat) : Int)) (by omega) (by omega)
    have hn0 := gW_nn (m + 1) ((n - b : Nat) : Int)
    have hn1 := gW_nn m ((n + 1 : Nat) : Int)
    show X3_fill_s76 N K F 56 k47 (X3_fill_h76 N K F 56 k47 f) J a1 _ _ i m x9 = _
    rw [show x9 + ((b + 1 : Nat) : Int) = x9 + 1 + (b : Int) by omega, show x9 + ((n + 1 : Nat) : Int) = x9 + 1 + (n : Int) by omega]
    unfold X3_fill_s76
    rw [if_pos (by omega), if_pos (nb_in (by omega)), show x9 + 1 + (n : Int) - x9 = ((n + 1 : Nat) : Int) by omega, c_waysOf hc hw (by omega) (by omega), am_cq_s, if_pos (by rw [nb_cge]; omega), am_cq_s]
    unfold am_lt
    dsimp only
    rw [if_pos (nb_in (by omega)), nb_wL (by omega), show gW (m + 1) ((n + 1 : Nat) : Int) - gW (m + 1) ((n - b : Nat) : Int) + e - gW m ((n + 1 : Nat) : Int) = gW (m + 1) (n : Int) - gW (m + 1) ((n - b : Nat) : Int) + e by omega]
    exact hr
end NUM
