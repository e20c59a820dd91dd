-- THE CLASS: ground, rules, taking
/-- live pits -/
def gm_L (A : Int) (lk : Int → Int) : Int := gm_sm (gm_lv lk) A.toNat
def gm_Ls (A : Int) (lk : Int → Int) (s : Int) : Int := gm_sm (gm_lvs A lk s) A.toNat
/-- the class's ground -/
def cg (I : am_I) (R C A : Int) (lk : Int → Int) : Prop :=
  gm_g R C A ∧ (I 3 0 = R ∧ I 3 1 = C ∧ I 3 2 = A ∧ I 3 3 = gm_L A lk) ∧ (∀ p, 0 ≤ p → p < A → I 4 p = lk p ∧ I 9 p = gm_sd A p ∧ I 10 p = p % C) ∧
  (I 6 0 = gm_Ls A lk 0 ∧ I 6 1 = gm_Ls A lk 1) ∧ (I 7 0 = 0 ∧ I 7 1 = A / 2 ∧ I 8 0 = A / 2 ∧ I 8 1 = A) ∧
  (∀ p, 0 ≤ p → p < A → lk p = 0 → I 11 p = gm_nx A C lk 1 (-1) p ∧ I 12 p = gm_nx A C lk (-1) (-1) p ∧ I 13 p = gm_nx A C lk 1 (gm_sd A p) p) ∧
  (∀ p, 0 ≤ p → p < A → lk p = 0 → gm_itr (gm_nx A C lk 1 (-1)) (gm_L A lk).toNat p = p ∧ gm_itr (gm_nx A C lk 1 (gm_sd A p)) (gm_Ls A lk (gm_sd A p)).toNat p = p)
/-- the class's rules, by the model's numbers -/
def cr (I : am_I) (u : Int → Int) : Prop := I 15 0 = u 6 ∧ I 15 1 = u 7 ∧ I 15 2 = u 8 ∧ I 15 3 = u 9 ∧ I 15 4 = u 10 ∧ I 15 5 = u 11 ∧ I 15 6 = u 12
theorem gm_L_b {A : Int} (hA : 0 ≤ A) (lk : Int → Int) : 0 ≤ gm_L A lk ∧ gm_L A lk ≤ A := by
  have := gm_sm_b (g := gm_lv lk) (B := 1) (d := A.toNat) (fun i _ _ => gm_lv_01 _ _)
  unfold gm_L; omega
theorem gm_Ls_b {A : Int} (hA : 0 ≤ A) (lk : Int → Int) (s : Int) : 0 ≤ gm_Ls A lk s ∧ gm_Ls A lk s ≤ A := by
  have := gm_sm_b (g := gm_lvs A lk s) (B := 1) (d := A.toNat) (fun i _ _ => gm_lvs_01 _ _ _ _)
  unfold gm_Ls; omega
theorem cg.A {I : am_I} {R C A : Int} {lk : Int → Int} (h : cg I R C A lk) : 2 ≤ A ∧ A ≤ 32 := h.1.A
theorem cg.kept {I J : am_I} {R C A : Int} {lk : Int → Int} (h : cg I R C A lk) (hJ : ∀ b, 3 ≤ b → b ≤ 14 → J b = I b) : cg J R C A lk := by
  unfold cg at h ⊢
  rw [hJ 3 (by decide) (by decide), hJ 4 (by decide) (by decide), hJ 6 (by decide) (by decide), hJ 7 (by decide) (by decide), hJ 8 (by decide) (by decide), hJ 9 (by decide) (by decide), hJ 10 (by decide) (by decide), hJ 11 (by decide) (by decide), hJ 12 (by decide) (by decide), hJ 13 (by decide) (by decide)]
  exact h
theorem cr.kept {I J : am_I} {u : Int → Int} (h : cr I u) (hJ : J 15 = I 15) : cr J u := by
  unfold cr at h ⊢; rw [hJ]; exact h
theorem gm_half {R C A : Int} (h : gm_g R C A) : A / 2 * 2 = A ∧ 1 ≤ A / 2 := by obtain ⟨h, h1, h2⟩ := h; omega
section CLS1
variable {N : Nat} {K : am_K} {F : am_F} {I : am_I} {R C A : Int} {lk : Int → Int}
theorem gm_tcp_n {A C who p q : Int} {c : Int → Int} (h0 : 0 ≤ q) (h1 : q < A) : gm_tcp A C who p (q + 1) c = if q % C = p % C ∧ gm_sd A q ≠ who then gm_up (gm_tcp A C who p q c) q 0 else gm_tcp A C who p q c := by
  by_cases hs : q % C = p % C ∧ gm_sd A q ≠ who
  · rw [if_pos hs]
    funext j
    unfold gm_up
    by_cases e : j = q
    · subst e
      rw [if_pos rfl]
      unfold gm_tcp
      rw [if_pos ⟨⟨⟨h0, h1⟩, hs⟩, by omega⟩]
    · rw [if_neg e]
      unfold gm_tcp
      by_cases h : ((0 ≤ j ∧ j < A) ∧ j % C = p % C ∧ gm_sd A j ≠ who) ∧ j < q
      · rw [if_pos h, if_pos ⟨h.1, by omega⟩]
      · rw [if_neg h, if_neg (fun w => h ⟨w.1, by have := w.2; omega⟩)]
  · rw [if_neg hs]
    funext j
    unfold gm_tcp
    by_cases h : ((0 ≤ j ∧ j < A) ∧ j % C = p % C ∧ gm_sd A j ≠ who) ∧ j < q
    · rw [if_pos h, if_pos ⟨h.1, by omega⟩]
    · rw [if_neg h, if_neg]
      rintro ⟨w, w2⟩
      by_cases e : j = q
      · subst e; exact hs w.2
      · exact h ⟨w, by omega⟩
theorem c_takeColumn (hc : cw K F) (hg : cg I R C A lk) (hN : 100 < N) {r : Nat} (hr : K r = (100, 32)) (hr2 : 14 < r) {sd p : Int} (hsd : sd = 0 ∨ sd = 1) (h0 : 0 ≤ p) (h1 : p < A) {c : Int → Int} (hs : gm_st A lk c) :
    X10_takeColumn N K F 19 (am_row I r c) r sd p = some (gm_tot A c - gm_tot A (gm_tc A C sd p c), am_row I r (gm_tc A C sd p c)) := by
  have hA := hg.A
  have hh := gm_half hg.1
  have htc := hs.2.2
  obtain ⟨-, -, hp, -, ⟨f0, f1, e0, e1⟩, -⟩ := hg
  have bd : ∀ x, gm_tot A (gm_tcp A C sd p x c) ≤ gm_tot A c ∧ 0 ≤ gm_tot A (gm_tcp A C sd p x c) := by
    intro x
    refine ⟨?_, gm_tot_nn (fun j a b => by unfold gm_tcp; have := hs.1 j a b; split <;> omega)⟩
    unfold gm_tot
    refine gm_sm_le (fun i a b => ?_)
    have := hs.1 i a (by omega)
    unfold gm_tcp; split <;> omega
  -- the loop
  have loop : ∀ (lo hi : Int), 0 ≤ lo → lo ≤ hi → hi ≤ A → (∀ x, lo ≤ x → x < hi → gm_sd A x ≠ sd) → (I 8 (1 - sd) = hi) → gm_tcp A C sd p lo c = c → gm_tcp A C sd p hi c = gm_tc A C sd p c →
      X10_takeColumn_h16 N K F 19 N (am_row I r c) r sd p 0 lo = some (gm_tot A c - gm_tot A (gm_tc A C sd p c), am_row I r (gm_tc A C sd p c)) := by
    intro lo hi l0 l1 l2 hsx hend hlo hhi
    have hl := am_for (fun f (_ : Unit) x => X10_takeColumn_h16 N K F 19 f (am_row I r (gm_tcp A C sd p x c)) r sd p (gm_tot A c - gm_tot A (gm_tcp A C sd p x c)) x) hi (fun _ s => s) (fun x _ => lo ≤ x ∧ x ≤ hi) (fun x _ => some (gm_tot A c - gm_tot A (gm_tcp A C sd p x c), am_row I r (gm_tcp A C sd p x c))) ?_ ?_ (hi - lo).toNat N () lo rfl (by omega) ⟨by omega, by omega⟩
    · have e := hl.1
      rw [show lo + ((hi - lo).toNat : Int) = hi by omega, hlo, hhi, show gm_tot A c - gm_tot A c = 0 by omega] at e
      exact e
    · intro f s x hx hi2
      refine ⟨?_, by omega, by omega⟩
      have hb1 := bd x
      have hb2 := bd (x + 1)
      have hn := gm_tcp_n (A := A) (C := C) (who := sd) (p := p) (q := x) (c := c) (by omega) (by omega)
      have hsd2 := hsx x (by omega) hx
      have hcx : gm_tcp A C sd p x c x = c x := by unfold gm_tcp; rw [if_neg (fun w => by have := w.2; omega)]
      have hcb := hs.bd x (by omega) (by omega)
      show X10_takeColumn_s16 N K F 19 (X10_takeColumn_h16 N K F 19 f) _ r sd p _ x = X10_takeColumn_h16 N K F 19 f _ r sd p _ _
      generalize X10_takeColumn_h16 N K F 19 f = kk
      unfold X10_takeColumn_s16 X10_takeColumn_b68
      simp only [cwF_19_5 hc, cwK_3 hc, cwF_3_8 hc, cwK_8 hc, cwF_3_10 hc, cwK_10 hc, hr, am_lt, am_row_n (show (8 : Nat) ≠ r by omega), am_row_n (show (10 : Nat) ≠ r by omega), am_row_s, am_row_u, hend, (hp x (by omega) (by omega)).2.2, (hp p h0 h1).2.2, hcx]
      rw [if_pos trivial, if_pos (nb_in (by omega)), if_pos trivial, if_pos (by omega), if_pos hx, if_pos trivial, if_pos (by omega), if_pos (by omega)]
      by_cases hcol : x % C = p % C
      · rw [if_pos hcol, if_pos trivial, if_pos (by omega), if_pos (nb_in (by omega)), if_pos (by omega), if_pos (nb_in (by omega))]
        rw [if_pos ⟨hcol, hsd2⟩] at hn
        have htu := gm_tot_up (c := gm_tcp A C sd p x c) (k := x) (v := 0) (by omega) (show x < A by omega)
        rw [← hn, hcx] at htu
        rw [← hn]
        congr 1
        omega
      · rw [if_neg hcol, if_pos (nb_in (by omega))]
        rw [if_neg (fun w => hcol w.1)] at hn
        rw [hn]
    · intro f s x hx hi2
      show X10_takeColumn_s16 N K F 19 (X10_takeColumn_h16 N K F 19 f) _ r sd p _ x = _
      unfold X10_takeColumn_s16
      simp only [cwF_19_5 hc, cwK_3 hc, cwF_3_8 hc, cwK_8 hc, am_row_n (show (8 : Nat) ≠ r by omega), hend]
      rw [if_pos trivial, if_pos (nb_in (by omega)), if_pos trivial, if_pos (by omega), if_neg hx]
  unfold X10_takeColumn
  simp only [cwF_19_5 hc, cwK_3 hc, cwF_3_7 hc, cwK_7 hc, am_lt, am_row_n (show (7 : Nat) ≠ r by omega)]
  rw [if_pos trivial, if_pos (nb_in (by omega)), if_pos trivial, if_pos (by omega)]
  rcases hsd with rfl | rfl
  · show X10_takeColumn_h16 N K F 19 N (am_row I r c) r 0 p 0 (I 7 1) = _
    rw [f1]
    refine loop (A / 2) A (by omega) (by omega) (Int.le_refl _) (fun x a b => ?_) e1 ?_ ?_
    · unfold gm_sd; rw [if_neg (by omega)]; decide
    · funext j
      unfold gm_tcp
      rw [if_neg]
      rintro ⟨⟨-, -, w⟩, w2⟩
      unfold gm_sd at w
      rw [if_pos (by omega)] at w
      exact w rfl
    · exact gm_tcp_A (Int.le_refl _)
  · show X10_takeColumn_h16 N K F 19 N (am_row I r c) r 1 p 0 (I 7 0) = _
    rw [f0]
    refine loop 0 (A / 2) (by omega) (by omega) (by omega) (fun x a b => ?_) e0 ?_ ?_
    · unfold gm_sd; rw [if_pos (by omega)]; decide
    · funext j
      unfold gm_tcp
      rw [if_neg (fun w => by have := w.1.1.1; have := w.2; omega)]
    · funext j
      unfold gm_tcp gm_tc
      by_cases h : (0 ≤ j ∧ j < A) ∧ j % C = p % C ∧ gm_sd A j ≠ 1
      · have hj : j < A / 2 := by
          have w := h.2.2
          unfold gm_sd at w
          by_cases g : 2 * j < A
          · omega
          · rw [if_neg g] at w; exact absurd rfl w
        rw [if_pos h, if_pos ⟨h, hj⟩]
      · rw [if_neg h, if_neg (fun w => h w.1)]
theorem c_takeChain_l (hc : cw K F) (hg : cg I R C A lk) {u : Int → Int} (hu : cr I u) {r : Nat} (hr : K r = (100, 32)) (hr2 : 15 < r) {sd : Int} (hlow : 1 ≤ u 8) (hex : gm_ex A C lk (-1)) : ∀ (d f : Nat) (c : Int → Int) (t p x : Int), d < f → gm_L A lk - x = d → 0 ≤ x → 0 ≤ p → p < A → lk p = 0 → gm_st A lk c → 0 ≤ t → t + gm_tot A c ≤ 100000000 →
    X10_takeChain_h9 N K F 19 f (am_row I r c) r sd t p x = some (t + gm_tot A c - gm_tot A (gm_ch A sd (u 8) (u 9) (gm_nx A C lk (-1) (-1)) d c p), am_row I r (gm_ch A sd (u 8) (u 9) (gm_nx A C lk (-1) (-1)) d c p)) := by
  have hA := hg.A
  have go := gm_go_nx hg.1 (st := -1) (Or.inr rfl) hex
  have hLb := gm_L_b (A := A) (by omega) lk
  obtain ⟨-, ⟨-, -, -, hL⟩, hp, -, -, hlink, -⟩ := hg
  obtain ⟨-, -, u8, u9, -⟩ := hu
  intro d
  induction d with
  | zero =>
    intro f c t p x hf hx x0 p0 p1 pl hs t0 ht
    obtain ⟨f, rfl⟩ : ∃ g, f = g + 1 := ⟨f - 1, by omega⟩
    show X10_takeChain_s9 N K F 19 (X10_takeChain_h9 N K F 19 f) _ r sd t p x = _
    unfold X10_takeChain_s9
    simp only [cwF_19_5 hc, cwK_3 hc, am_row_n (show (3 : Nat) ≠ r by omega), hL]
    rw [if_pos trivial, if_neg (by omega)]
    unfold gm_ch
    rw [show t + gm_tot A c - gm_tot A c = t by omega]
  | succ d ih =>
    intro f c t p x hf hx x0 p0 p1 pl hs t0 ht
    obtain ⟨f, rfl⟩ : ∃ g, f = g + 1 := ⟨f - 1, by omega⟩
    have hcb := hs.bd p p0 p1
    have htn := gm_tot_nn hs.1
    show X10_takeChain_s9 N K F 19 (X10_takeChain_h9 N K F 19 f) _ r sd t p x = _
    by_cases hgo : gm_sd A p ≠ sd ∧ u 8 ≤ c p ∧ c p ≤ u 9
    · obtain ⟨q0, q1, q2⟩ := go p p0 p1 pl
      have htt := gm_tot_up (c := c) (v := 0) p0 p1
      have hs2 : gm_st A lk (gm_up c p 0) := ⟨fun j a b => by
        by_cases e : j = p
        · subst e; rw [gm_up_s]; omega
        · rw [gm_up_n e]; exact hs.1 j a b, fun j a b w => by
        by_cases e : j = p
        · subst e; rw [gm_up_s]
        · rw [gm_up_n e]; exact hs.2.1 j a b w, by have := hs.2.2; omega⟩
      have hr3 := ih f (gm_up c p 0) (t + c p) _ (x + 1) (by omega) (by omega) (by omega) q0 q1 q2 hs2 (by omega) (by omega)
      have e : gm_ch A sd (u 8) (u 9) (gm_nx A C lk (-1) (-1)) (d + 1) c p = gm_ch A sd (u 8) (u 9) (gm_nx A C lk (-1) (-1)) d (gm_up c p 0) (gm_nx A C lk (-1) (-1) p) := by
        conv => lhs; unfold gm_ch
        rw [if_pos hgo]
      rw [e, show t + gm_tot A c = t + c p + gm_tot A (gm_up c p 0) by omega, ← hr3]
      generalize X10_takeChain_h9 N K F 19 f = kk
      unfold X10_takeChain_s9 X10_takeChain_b63
      simp only [cwF_19_5 hc, cwK_3 hc, cwF_3_9 hc, cwK_9 hc, cwF_19_6 hc, cwK_15 hc, cwF_3_12 hc, cwK_12 hc, hr, am_lt, am_row_n (show (3 : Nat) ≠ r by omega), am_row_n (show (9 : Nat) ≠ r by omega), am_row_n (show (15 : Nat) ≠ r by omega), am_row_n (show (12 : Nat) ≠ r by omega), am_row_s, am_row_u, hL, (hp p p0 p1).2.1, u8, u9, (hlink p p0 p1 pl).2.1]
      rw [if_pos trivial, if_pos (by omega), if_pos trivial, if_pos (by omega), if_neg hgo.1, if_pos trivial, if_pos (by omega), if_pos trivial, if_pos hgo.2.1, if_neg (by omega), if_pos (nb_in (by omega)), if_pos (by omega), if_pos trivial, if_pos (by omega), if_pos (nb_in (by omega))]
    · have e : gm_ch A sd (u 8) (u 9) (gm_nx A C lk (-1) (-1)) (d + 1) c p = c := by unfold gm_ch; rw [if_neg hgo]
      rw [e, show t + gm_tot A c - gm_tot A c = t by omega]
      generalize X10_takeChain_h9 N K F 19 f = kk
      unfold X10_takeChain_s9 X10_takeChain_b63
      simp only [cwF_19_5 hc, cwK_3 hc, cwF_3_9 hc, cwK_9 hc, cwF_19_6 hc, cwK_15 hc, hr, am_lt, am_row_n (show (3 : Nat) ≠ r by omega), am_row_n (show (9 : Nat) ≠ r by omega), am_row_n (show (15 : Nat) ≠ r by omega), am_row_s, hL, (hp p p0 p1).2.1, u8, u9]
      rw [if_pos trivial, if_pos (by omega), if_pos trivial, if_pos (by omega)]
      by_cases h1 : gm_sd A p = sd
      · rw [if_pos h1]
      · rw [if_neg h1, if_pos trivial, if_pos (by omega), if_pos trivial]
        by_cases h2 : u 8 ≤ c p
        · rw [if_pos h2, if_pos (by omega)]
        · rw [if_neg h2]
end CLS1
