-- BOARDS BY NUMBER
/-- d places from p on -/
def gm_sl (g : Int → Int) : Nat → Int → Int
  | 0, _ => 0
  | d + 1, p => g p + gm_sl g d (p + 1)
theorem gm_sl_sm (g : Int → Int) : ∀ (d a : Nat), gm_sm g (a + d) = gm_sm g a + gm_sl g d (a : Int)
  | 0, a => by simp [gm_sl]
  | d + 1, a => by
    have := gm_sl_sm g d (a + 1)
    have e : gm_sl g (d + 1) (a : Int) = g (a : Int) + gm_sl g d ((a : Int) + 1) := rfl
    rw [show a + (d + 1) = (a + 1) + d by omega, this, gm_sm_s, e, show ((a + 1 : Nat) : Int) = (a : Int) + 1 by omega]
    omega
theorem gm_sl_nn {g : Int → Int} : ∀ (d : Nat) (p : Int), (∀ j, p ≤ j → j < p + d → 0 ≤ g j) → 0 ≤ gm_sl g d p
  | 0, _, _ => Int.le_refl _
  | d + 1, p, h => by
    have := gm_sl_nn d (p + 1) (fun j a b => h j (by omega) (by omega))
    have := h p (by omega) (by omega)
    unfold gm_sl; omega
theorem gm_sl_congr {g g' : Int → Int} : ∀ (d : Nat) (p : Int), (∀ j, p ≤ j → j < p + d → g j = g' j) → gm_sl g d p = gm_sl g' d p
  | 0, _, _ => rfl
  | d + 1, p, h => by
    unfold gm_sl
    rw [h p (by omega) (by omega), gm_sl_congr d (p + 1) (fun j a b => h j (by omega) (by omega))]
/-- the number of a board among those of as many seeds -/
def gm_en (lk c : Int → Int) : Nat → Int → Int → Int → Int
  | 0, _, _, _ => 0
  | d + 1, p, m, n => if lk p = 0 then gW m n - gW m (n - c p) + gm_en lk c d (p + 1) (m - 1) (n - c p) else gm_en lk c d (p + 1) m n
theorem gm_en_b {lk c : Int → Int} : ∀ (d : Nat) (p m n : Int), (∀ j, p ≤ j → j < p + d → 0 ≤ c j ∧ (lk j ≠ 0 → c j = 0)) → m = gm_sl (gm_lv lk) d p → n = gm_sl c d p → 0 ≤ gm_en lk c d p m n ∧ gm_en lk c d p m n < gW m n
  | 0, p, m, n, _, hm, hn => by
    have e1 : m = 0 := hm
    have e2 : n = 0 := hn
    subst e1; subst e2
    unfold gm_en
    rw [gW_n0]; omega
  | d + 1, p, m, n, h, hm, hn => by
    have hp := h p (by omega) (by omega)
    have hlv := gm_sl_nn (g := gm_lv lk) d (p + 1) (fun j _ _ => (gm_lv_01 lk j).1)
    have hcn := gm_sl_nn (g := c) d (p + 1) (fun j a b => (h j (by omega) (by omega)).1)
    unfold gm_sl at hm hn
    unfold gm_en
    by_cases hl : lk p = 0
    · rw [if_pos hl]
      have e : gm_lv lk p = 1 := by unfold gm_lv; rw [if_pos hl]
      obtain ⟨i1, i2⟩ := gm_en_b d (p + 1) (m - 1) (n - c p) (fun j a b => h j (by omega) (by omega)) (by omega) (by omega)
      have hmo := gW_mono (m := m) (k := n - c p) (k' := n) (by omega) (by omega)
      have hs := gW_s (m := m - 1) (k := n - c p) (by omega) (by omega)
      rw [show m - 1 + 1 = m by omega] at hs
      have := gW_nn m (n - c p - 1)
      omega
    · rw [if_neg hl]
      have e : gm_lv lk p = 0 := by unfold gm_lv; rw [if_neg hl]
      have e2 := hp.2 hl
      exact gm_en_b d (p + 1) m n (fun j a b => h j (by omega) (by omega)) (by omega) (by omega)
theorem gm_en_congr {lk c c' : Int → Int} : ∀ (d : Nat) (p m n : Int), (∀ j, p ≤ j → j < p + d → c j = c' j) → gm_en lk c d p m n = gm_en lk c' d p m n
  | 0, _, _, _, _ => rfl
  | d + 1, p, m, n, h => by
    unfold gm_en
    rw [h p (by omega) (by omega), gm_en_congr d (p + 1) _ _ (fun j a b => h j (by omega) (by omega)), gm_en_congr d (p + 1) _ _ (fun j a b => h j (by omega) (by omega))]
/-- the seeds of the first pit, and the number of the rest -/
def gm_dh (m : Int) : Nat → Int → Int × Int
  | 0, v => (0, v)
  | n + 1, v => if gW m ((n + 1 : Nat) : Int) ≤ v then ((gm_dh m n (v - gW m ((n + 1 : Nat) : Int))).1 + 1, (gm_dh m n (v - gW m ((n + 1 : Nat) : Int))).2) else (0, v)
theorem gm_dh_eq {m : Int} (hm : 0 ≤ m) : ∀ (b n : Nat) (e : Int), b ≤ n → 0 ≤ e → e < gW m ((n - b : Nat) : Int) → gm_dh m n (gW (m + 1) (n : Int) - gW (m + 1) ((n - b : Nat) : Int) + e) = ((b : Int), e)
  | 0, 0, e, _, h0, h1 => by
    unfold gm_dh
    refine Prod.ext rfl ?_
    show gW (m + 1) _ - gW (m + 1) _ + e = e
    rw [Nat.sub_zero]; omega
  | 0, n + 1, e, _, h0, h1 => by
    rw [Nat.sub_zero] at h1 ⊢
    unfold gm_dh
    rw [if_neg (by omega)]
    refine Prod.ext rfl ?_
    show gW (m + 1) _ - gW (m + 1) _ + e = e
    omega
  | b + 1, 0, e, h, _, _ => by omega
  | b + 1, n + 1, e, h, h0, h1 => by
    rw [show n + 1 - (b + 1) = n - b by omega] at h1 ⊢
    have ih := gm_dh_eq hm b n e (by omega) h0 h1
    have hs := gW_s (m := m) (k := ((n + 1 : Nat) : Int)) hm (by omega)
    rw [show ((n + 1 : Nat) : Int) - 1 = (n : Int) by omega] at hs
    have hmo := gW_mono (m := m + 1) (k := ((n - b : Nat) : Int)) (k' := (n : Int)) (by omega) (by omega)
    unfold gm_dh
    rw [if_pos (by omega), show gW (m + 1) ((n + 1 : Nat) : Int) - gW (m + 1) ((n - b : Nat) : Int) + e - gW m ((n + 1 : Nat) : Int) = gW (m + 1) (n : Int) - gW (m + 1) ((n - b : Nat) : Int) + e by omega, ih]
    refine Prod.ext ?_ rfl
    show (b : Int) + 1 = ((b + 1 : Nat) : Int)
    omega
theorem gm_dh_ex {m : Int} (hm : 0 ≤ m) : ∀ (n : Nat) (v : Int), 0 ≤ v → v < gW (m + 1) (n : Int) → ∃ (b : Nat) (e : Int), b ≤ n ∧ 0 ≤ e ∧ e < gW m ((n - b : Nat) : Int) ∧ v = gW (m + 1) (n : Int) - gW (m + 1) ((n - b : Nat) : Int) + e
  | 0, v, h0, h1 => by
    refine ⟨0, v, Nat.le_refl _, h0, ?_, by simp⟩
    have e1 : gW (m + 1) ((0 : Nat) : Int) = 1 := gW_n0 _
    have e2 : gW m ((0 - 0 : Nat) : Int) = 1 := gW_n0 _
    omega
  | n + 1, v, h0, h1 => by
    have hs := gW_s (m := m) (k := ((n + 1 : Nat) : Int)) hm (by omega)
    rw [show ((n + 1 : Nat) : Int) - 1 = (n : Int) by omega] at hs
    by_cases g : gW m ((n + 1 : Nat) : Int) ≤ v
    · obtain ⟨b, e, b1, b2, b3, b4⟩ := gm_dh_ex hm n (v - gW m ((n + 1 : Nat) : Int)) (by omega) (by omega)
      exact ⟨b + 1, e, by omega, b2, by rw [show n + 1 - (b + 1) = n - b by omega]; exact b3, by rw [show n + 1 - (b + 1) = n - b by omega]; omega⟩
    · refine ⟨0, v, by omega, h0, ?_, ?_⟩
      · rw [Nat.sub_zero]; omega
      · rw [Nat.sub_zero]; omega
/-- the board of a number -/
def gm_de (lk : Int → Int) : Nat → Int → Int → Int → Int → (Int → Int)
  | 0, _, _, _, _ => fun _ => 0
  | d + 1, p, m, n, v => if lk p = 0 then gm_up (gm_de lk d (p + 1) (m - 1) (n - (gm_dh (m - 1) n.toNat v).1) (gm_dh (m - 1) n.toNat v).2) p (gm_dh (m - 1) n.toNat v).1 else gm_de lk d (p + 1) m n v
theorem gm_de_out {lk : Int → Int} : ∀ (d : Nat) (p m n v j : Int), (j < p ∨ p + d ≤ j) → gm_de lk d p m n v j = 0
  | 0, _, _, _, _, _, _ => rfl
  | d + 1, p, m, n, v, j, h => by
    unfold gm_de
    by_cases hl : lk p = 0
    · rw [if_pos hl, gm_up_n (by omega)]; exact gm_de_out d _ _ _ _ j (by omega)
    · rw [if_neg hl]; exact gm_de_out d _ _ _ _ j (by omega)
/-- a board's number's board is the board -/
theorem gm_de_en {lk c : Int → Int} : ∀ (d : Nat) (p m n : Int), (∀ j, p ≤ j → j < p + d → 0 ≤ c j ∧ (lk j ≠ 0 → c j = 0)) → m = gm_sl (gm_lv lk) d p → n = gm_sl c d p → ∀ j, p ≤ j → j < p + d → gm_de lk d p m n (gm_en lk c d p m n) j = c j
  | 0, p, m, n, _, _, _, j, a, b => by omega
  | d + 1, p, m, n, h, hm, hn, j, a, b => by
    have hp := h p (by omega) (by omega)
    have hlv := gm_sl_nn (g := gm_lv lk) d (p + 1) (fun j _ _ => (gm_lv_01 lk j).1)
    have hcn := gm_sl_nn (g := c) d (p + 1) (fun j a b => (h j (by omega) (by omega)).1)
    unfold gm_sl at hm hn
    unfold gm_de gm_en
    by_cases hl : lk p = 0
    · rw [if_pos hl, if_pos hl]
      have e : gm_lv lk p = 1 := by unfold gm_lv; rw [if_pos hl]
      obtain ⟨i1, i2⟩ := gm_en_b d (p + 1) (m - 1) (n - c p) (fun j a b => h j (by omega) (by omega)) (by omega) (by omega)
      have hdh := gm_dh_eq (m := m - 1) (by omega) (c p).toNat n.toNat (gm_en lk c d (p + 1) (m - 1) (n - c p)) (by omega) i1 (by rw [show ((n.toNat - (c p).toNat : Nat) : Int) = n - c p by omega]; exact i2)
      rw [show m - 1 + 1 = m by omega, show ((n.toNat : Nat) : Int) = n by omega, show ((n.toNat - (c p).toNat : Nat) : Int) = n - c p by omega, show (((c p).toNat : Nat) : Int) = c p by omega] at hdh
      rw [hdh]
      dsimp only
      by_cases g : j = p
      · subst g; rw [gm_up_s]
      · rw [gm_up_n g]
        exact gm_de_en d (p + 1) (m - 1) (n - c p) (fun j a b => h j (by omega) (by omega)) (by omega) (by omega) j (by omega) (by omega)
    · rw [if_neg hl, if_neg hl]
      have e : gm_lv lk p = 0 := by unfold gm_lv; rw [if_neg hl]
      have e2 := hp.2 hl
      by_cases g : j = p
      · subst g; rw [gm_de_out d _ _ _ _ _ (by omega), e2]
      · exact gm_de_en d (p + 1) m n (fun j a b => h j (by omega) (by omega)) (by omega) (by omega) j (by omega) (by omega)
/-- what a number's board is -/
theorem gm_de_st {lk : Int → Int} : ∀ (d : Nat) (p m n v : Int), m = gm_sl (gm_lv lk) d p → 0 ≤ n → 0 ≤ v → v < gW m n → (∀ j, 0 ≤ gm_de lk d p m n v j ∧ (lk j ≠ 0 → gm_de lk d p m n v j = 0)) ∧ gm_sl (gm_de lk d p m n v) d p = n ∧ gm_en lk (gm_de lk d p m n v) d p m n = v
  | 0, p, m, n, v, hm, hn, h0, h1 => by
    have e1 : m = 0 := hm
    subst e1
    have e2 : n = 0 := by
      by_cases g : n = 0
      · exact g
      · rw [gW_0 (by omega)] at h1; omega
    subst e2
    rw [gW_n0] at h1
    refine ⟨fun j => ⟨Int.le_refl _, fun _ => rfl⟩, rfl, ?_⟩
    show (0 : Int) = v
    omega
  | d + 1, p, m, n, v, hm, hn, h0, h1 => by
    have hlv := gm_sl_nn (g := gm_lv lk) d (p + 1) (fun j _ _ => (gm_lv_01 lk j).1)
    unfold gm_sl at hm
    by_cases hl : lk p = 0
    · have e : gm_lv lk p = 1 := by unfold gm_lv; rw [if_pos hl]
      obtain ⟨b, ev, b1, b2, b3, b4⟩ := gm_dh_ex (m := m - 1) (by omega) n.toNat v h0 (by rw [show m - 1 + 1 = m by omega, show ((n.toNat : Nat) : Int) = n by omega]; exact h1)
      have hdh := gm_dh_eq (m := m - 1) (by omega) b n.toNat ev b1 b2 b3
      rw [← b4] at hdh
      rw [show m - 1 + 1 = m by omega, show ((n.toNat : Nat) : Int) = n by omega, show ((n.toNat - b : Nat) : Int) = n - (b : Int) by omega] at b4
      rw [show ((n.toNat - b : Nat) : Int) = n - (b : Int) by omega] at b3
      obtain ⟨r1, r2, r3⟩ := gm_de_st (lk := lk) d (p + 1) (m - 1) (n - (b : Int)) ev (by omega) (by omega) b2 b3
      have ed : gm_de lk (d + 1) p m n v = gm_up (gm_de lk d (p + 1) (m - 1) (n - (b : Int)) ev) p (b : Int) := by
        conv => lhs; unfold gm_de
        rw [if_pos hl, hdh]
      rw [ed]
      have ec : ∀ j, p + 1 ≤ j → j < p + 1 + d → gm_up (gm_de lk d (p + 1) (m - 1) (n - (b : Int)) ev) p (b : Int) j = gm_de lk d (p + 1) (m - 1) (n - (b : Int)) ev j := fun j a _ => gm_up_n (by omega)
      refine ⟨fun j => ?_, ?_, ?_⟩
      · by_cases g : j = p
        · subst g; rw [gm_up_s]; exact ⟨by omega, fun w => absurd hl w⟩
        · rw [gm_up_n g]; exact r1 j
      · unfold gm_sl
        rw [gm_up_s, gm_sl_congr d (p + 1) ec, r2]; omega
      · unfold gm_en
        rw [if_pos hl, gm_up_s, gm_en_congr d (p + 1) _ _ ec, r3]; omega
    · have e : gm_lv lk p = 0 := by unfold gm_lv; rw [if_neg hl]
      obtain ⟨r1, r2, r3⟩ := gm_de_st (lk := lk) d (p + 1) m n v (by omega) hn h0 h1
      have ed : gm_de lk (d + 1) p m n v = gm_de lk d (p + 1) m n v := by
        conv => lhs; unfold gm_de
        rw [if_neg hl]
      rw [ed]
      refine ⟨r1, ?_, ?_⟩
      · unfold gm_sl
        rw [gm_de_out d _ _ _ _ _ (by omega), r2]; omega
      · unfold gm_en
        rw [if_neg hl]; exact r3
/-- the layer of a number -/
def gm_ln (L b : Int) : Nat → Int → Int
  | 0, n => n
  | f + 1, n => if gW (L + 1) n ≤ b then gm_ln L b f (n + 1) else n
theorem gm_ln_b {L b : Int} (hL : 0 ≤ L) (hb : 0 ≤ b) : ∀ (f : Nat) (n : Int), 0 ≤ n → gW (L + 1) (n - 1) ≤ b → b < gW (L + 1) (n + f) → n ≤ gm_ln L b f n ∧ gm_ln L b f n ≤ n + f ∧ gW (L + 1) (gm_ln L b f n - 1) ≤ b ∧ b < gW (L + 1) (gm_ln L b f n)
  | 0, n, h0, h1, h2 => by
    unfold gm_ln
    refine ⟨by omega, by omega, h1, ?_⟩
    simpa using h2
  | f + 1, n, h0, h1, h2 => by
    unfold gm_ln
    by_cases g : gW (L + 1) n ≤ b
    · rw [if_pos g]
      obtain ⟨a1, a2, a3, a4⟩ := gm_ln_b hL hb f (n + 1) (by omega) (by rw [show n + 1 - 1 = n by omega]; exact g) (by rw [show n + 1 + (f : Int) = n + ((f + 1 : Nat) : Int) by omega]; exact h2)
      exact ⟨by omega, by omega, a3, a4⟩
    · rw [if_neg g]; exact ⟨by omega, by omega, h1, by omega⟩
def gm_lay (L b : Int) : Int := gm_ln L b 12 0
theorem gm_lay_b {L b : Int} (hL : 0 ≤ L) (hb : 0 ≤ b) (h : b < gW (L + 1) 12) : 0 ≤ gm_lay L b ∧ gm_lay L b ≤ 12 ∧ gW (L + 1) (gm_lay L b - 1) ≤ b ∧ b < gW (L + 1) (gm_lay L b) := by
  have := gm_ln_b hL hb 12 0 (by omega) (by rw [gW_neg (by omega)]; exact hb) (by simpa using h)
  unfold gm_lay
  refine ⟨this.1, by have := this.2.1; omega, this.2.2⟩
theorem gm_lay_u {L b n : Int} (hL : 0 ≤ L) (hb : 0 ≤ b) (h12 : b < gW (L + 1) 12) (h1 : gW (L + 1) (n - 1) ≤ b) (h2 : b < gW (L + 1) n) : gm_lay L b = n := by
  obtain ⟨a1, a2, a3, a4⟩ := gm_lay_b hL hb h12
  by_cases g : gm_lay L b < n
  · have := gW_mono (m := L + 1) (k := gm_lay L b) (k' := n - 1) (by omega) (by omega); omega
  · by_cases g2 : n < gm_lay L b
    · have := gW_mono (m := L + 1) (k := n) (k' := gm_lay L b - 1) (by omega) (by omega); omega
    · omega
/-- the board of number b; the number of a board -/
def gm_bd2 (A : Int) (lk : Int → Int) (b : Int) : Int → Int := gm_de lk A.toNat 0 (gm_L A lk) (gm_lay (gm_L A lk) b) (b - gW (gm_L A lk + 1) (gm_lay (gm_L A lk) b - 1))
def gm_nu (A : Int) (lk c : Int → Int) : Int := gW (gm_L A lk + 1) (gm_tot A c - 1) + gm_en lk c A.toNat 0 (gm_L A lk) (gm_tot A c)
theorem gm_sl_tot (A : Int) (g : Int → Int) : gm_sm g A.toNat = gm_sl g A.toNat 0 := by
  have := gm_sl_sm g A.toNat 0
  rw [Nat.zero_add, gm_sm_0] at this
  rw [this]
  show 0 + gm_sl g A.toNat 0 = _
  omega
/-- numbers lie in their layer -/
theorem gm_nu_b {A : Int} (hA : 0 ≤ A) {lk c : Int → Int} (hs : gm_st A lk c) : gW (gm_L A lk + 1) (gm_tot A c - 1) ≤ gm_nu A lk c ∧ gm_nu A lk c < gW (gm_L A lk + 1) (gm_tot A c) := by
  have hL := gm_L_b hA lk
  have hn := gm_tot_nn hs.1
  obtain ⟨e1, e2⟩ := gm_en_b (lk := lk) (c := c) A.toNat 0 (gm_L A lk) (gm_tot A c) (fun j a b => ⟨hs.1 j a (by omega), hs.2.1 j a (by omega)⟩) (gm_sl_tot A (gm_lv lk)) (gm_sl_tot A c)
  have hsw := gW_s (m := gm_L A lk) (k := gm_tot A c) (by omega) hn
  unfold gm_nu
  omega
theorem gm_bd2_nu {A : Int} (hA : 0 ≤ A) {lk c : Int → Int} (hs : gm_st A lk c) (h12 : gm_tot A c ≤ 12) : gm_lay (gm_L A lk) (gm_nu A lk c) = gm_tot A c ∧ gm_eq A (gm_bd2 A lk (gm_nu A lk c)) c := by
  have hL := gm_L_b hA lk
  have hn := gm_tot_nn hs.1
  obtain ⟨b1, b2⟩ := gm_nu_b hA hs
  have h0 := gW_nn (gm_L A lk + 1) (gm_tot A c - 1)
  have hmo := gW_mono (m := gm_L A lk + 1) (k := gm_tot A c) (k' := 12) (by omega) h12
  have e := gm_lay_u (L := gm_L A lk) (b := gm_nu A lk c) (n := gm_tot A c) (by omega) (by omega) (by omega) b1 b2
  refine ⟨e, fun j a b => ?_⟩
  unfold gm_bd2
  rw [e, show gm_nu A lk c - gW (gm_L A lk + 1) (gm_tot A c - 1) = gm_en lk c A.toNat 0 (gm_L A lk) (gm_tot A c) by unfold gm_nu; omega]
  exact gm_de_en A.toNat 0 (gm_L A lk) (gm_tot A c) (fun j a b => ⟨hs.1 j a (by omega), hs.2.1 j a (by omega)⟩) (gm_sl_tot A (gm_lv lk)) (gm_sl_tot A c) j a (by omega)
theorem gm_bd2_st {A : Int} (hA : 0 ≤ A) {lk : Int → Int} {b : Int} (hb : 0 ≤ b) (h12 : b < gW (gm_L A lk + 1) 12) : gm_st A lk (gm_bd2 A lk b) ∧ gm_tot A (gm_bd2 A lk b) = gm_lay (gm_L A lk) b ∧ gm_nu A lk (gm_bd2 A lk b) = b ∧ (∀ j, j < 0 ∨ A ≤ j → gm_bd2 A lk b j = 0) := by
  have hL := gm_L_b hA lk
  obtain ⟨l1, l2, l3, l4⟩ := gm_lay_b (L := gm_L A lk) (by omega) hb h12
  have hsw := gW_s (m := gm_L A lk) (k := gm_lay (gm_L A lk) b) (by omega) l1
  obtain ⟨r1, r2, r3⟩ := gm_de_st (lk := lk) A.toNat 0 (gm_L A lk) (gm_lay (gm_L A lk) b) (b - gW (gm_L A lk + 1) (gm_lay (gm_L A lk) b - 1)) (gm_sl_tot A (gm_lv lk)) l1 (by omega) (by omega)
  have ht : gm_tot A (gm_bd2 A lk b) = gm_lay (gm_L A lk) b := by
    unfold gm_tot gm_bd2
    rw [gm_sl_tot]; exact r2
  refine ⟨⟨fun j _ _ => (r1 j).1, fun j _ _ => (r1 j).2, by rw [ht]; omega⟩, ht, ?_, fun j hj => gm_de_out _ _ _ _ _ _ (by omega)⟩
  unfold gm_nu
  rw [ht]
  show gW (gm_L A lk + 1) (gm_lay (gm_L A lk) b - 1) + gm_en lk (gm_de lk A.toNat 0 (gm_L A lk) (gm_lay (gm_L A lk) b) (b - gW (gm_L A lk + 1) (gm_lay (gm_L A lk) b - 1))) A.toNat 0 (gm_L A lk) (gm_lay (gm_L A lk) b) = b
  rw [r3]; omega
