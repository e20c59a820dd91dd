-- THE CLASS: links, the ground laid
section CLS6
variable {N : Nat} {K : am_K} {F : am_F} {I : am_I} {R C A : Int} {lk : Int → Int}
/-- what the list of the way is: in range, each pit once -/
def gm_inj (W : Int → Int) (L : Int) : Prop := (∀ i, 0 ≤ i → i < L → 0 ≤ W i ∧ W i < 32) ∧ ∀ i j, 0 ≤ i → i < L → 0 ≤ j → j < L → W i = W j → i = j
theorem gm_isW.inj {W : Int → Int} (hg : gm_g R C A) (hW : gm_isW A C lk W) : gm_inj W (gm_L A lk) := by
  have hA := hg.A
  have hC : 0 < C := by have := hg.2; omega
  rw [← gm_rk_A hg lk]
  refine ⟨fun i a b => ?_, fun i j a b c d e => ?_⟩
  · obtain ⟨k, k1, k2, k3⟩ := gm_rk_sur A.toNat i a b
    rw [← k3, hW k (by omega) k2]
    obtain ⟨w0, w1, -⟩ := gm_wy_b hg (k := (k : Int)) (by omega) (by omega)
    omega
  · obtain ⟨k, k1, k2, k3⟩ := gm_rk_sur A.toNat i a b
    obtain ⟨k', k1', k2', k3'⟩ := gm_rk_sur A.toNat j c d
    rw [← k3, ← k3', hW k (by omega) k2, hW k' (by omega) k2'] at e
    have := gm_wy_inj hC e
    rw [← k3, ← k3']
    rw [show k = k' by omega]
def gm_sc (s e i : Int) : Int := if i + 1 < e then i + 1 else s
theorem c_linkRing (hc : cw K F) (hN : 100 < N) {L s e : Int} (hW : gm_inj (I 14) L) (hL : L ≤ 32) (h0 : 0 ≤ s) (h1 : s ≤ e) (h2 : e ≤ L) {a3 : Nat} (ha : a3 = 11 ∨ a3 = 13) :
    ∃ J, X1_linkRing N K F 3 I s e a3 = some (0, J) ∧ (∀ b, b ≠ a3 → J b = I b) ∧ (∀ i, s ≤ i → i < e → J a3 (I 14 i) = I 14 (gm_sc s e i)) ∧ (∀ q, (∀ i, s ≤ i → i < e → I 14 i ≠ q) → J a3 q = I a3 q) := by
  have hk : K a3 = (100, 32) := by rcases ha with rfl | rfl; exact cwK_11 hc; exact cwK_13 hc
  have hne : (14 : Nat) ≠ a3 := by omega
  have loop : ∀ (d f : Nat) (J : am_I) (x : Int), e - x = d → d < f → s ≤ x → x ≤ e → (∀ b, b ≠ a3 → J b = I b) → (∀ i, s ≤ i → i < x → J a3 (I 14 i) = I 14 (gm_sc s e i)) → (∀ q, (∀ i, s ≤ i → i < x → I 14 i ≠ q) → J a3 q = I a3 q) →
      ∃ J', X1_linkRing_h3 N K F 3 f J s e a3 x = some (0, J') ∧ (∀ b, b ≠ a3 → J' b = I b) ∧ (∀ i, s ≤ i → i < e → J' a3 (I 14 i) = I 14 (gm_sc s e i)) ∧ (∀ q, (∀ i, s ≤ i → i < e → I 14 i ≠ q) → J' a3 q = I a3 q) := by
    intro d
    induction d with
    | zero =>
      intro f J x hd hf x0 x1 j1 j2 j3
      obtain ⟨f, rfl⟩ : ∃ g, f = g + 1 := ⟨f - 1, by omega⟩
      have ex : x = e := by omega
      subst ex
      refine ⟨J, ?_, j1, j2, j3⟩
      show X1_linkRing_s3 N K F 3 (X1_linkRing_h3 N K F 3 f) J s x a3 x = _
      unfold X1_linkRing_s3
      rw [if_neg (by omega)]
    | succ d ih =>
      intro f J x hd hf x0 x1 j1 j2 j3
      obtain ⟨f, rfl⟩ : ∃ g, f = g + 1 := ⟨f - 1, by omega⟩
      have hwx := hW.1 x (by omega) (by omega)
      have j14 := j1 14 hne
      have hsc : 0 ≤ gm_sc s e x ∧ gm_sc s e x < 32 := by unfold gm_sc; split <;> omega
      obtain ⟨J2, e2, r⟩ := ih f (am_u2 J a3 (I 14 x) (I 14 (gm_sc s e x))) (x + 1) (by omega) (by omega) (by omega) (by omega) (fun b hb => by funext j; rw [am_u2_a hb]; exact congrFun (j1 b hb) j) (fun i a b => by
        by_cases g : i = x
        · subst g; rw [am_u2_s]
        · rw [am_u2_k (fun w => g (hW.2 i x (by omega) (by omega) (by omega) (by omega) w))]; exact j2 i a (by omega)) (fun q hq => by
        rw [am_u2_k (fun w => hq x x0 (by omega) w.symm)]
        exact j3 q (fun i a b => hq i a (by omega)))
      refine ⟨J2, ?_, r⟩
      rw [← e2]
      show X1_linkRing_s3 N K F 3 (X1_linkRing_h3 N K F 3 f) J s e a3 x = _
      generalize X1_linkRing_h3 N K F 3 f = kk
      unfold X1_linkRing_s3 X1_linkRing_b37
      simp only [cwF_3_14 hc, cwK_14 hc, hk, j14, am_lt]
      rw [if_pos (by omega), if_pos trivial, if_pos (by omega), if_pos (nb_in (by omega))]
      unfold gm_sc at hsc ⊢
      by_cases g : x + 1 < e
      · rw [if_pos g] at hsc ⊢
        rw [if_pos g, if_pos trivial, if_pos hsc, if_pos trivial, if_pos (by omega), if_pos (by omega), if_pos (nb_in (by omega))]
      · rw [if_neg g] at hsc ⊢
        rw [if_neg g, if_pos trivial, if_pos hsc, if_pos trivial, if_pos (by omega), if_pos (by omega), if_pos (nb_in (by omega))]
  unfold X1_linkRing
  exact loop (e - s).toNat N I s (by omega) (by omega) (by omega) h1 (fun _ _ => rfl) (fun i a b => by omega) (fun _ _ => rfl)
theorem c_layOut (hc : cw K F) (hg : cg0 I R C A lk) (hN : 100 < N) : ∃ J, X1_layOut N K F 3 I = some (0, J) ∧ cg J R C A lk ∧ gm_isL A lk (J 5) ∧ (∀ b, b < 3 ∨ 14 < b → J b = I b) ∧ (∀ b, b = 4 ∨ b = 7 ∨ b = 8 ∨ b = 9 → J b = I b) := by
  have hA := hg.1.A
  have hgg := hg.1
  have hC : 0 < C := by have := hgg.2; omega
  obtain ⟨J1, e1, a1, a2, a3, a4, a5, a6⟩ := c_listLive hc hg hN
  obtain ⟨-, ⟨h0, h1, h2⟩, hp, h78⟩ := hg
  obtain ⟨J2, e2, b1, b2, b3⟩ := c_listWay (I := J1) hc hgg (by rw [a2 0 (by decide)]; exact h0) (by rw [a2 1 (by decide)]; exact h1) (lk := lk) (fun p x y => by rw [a1 4 (by decide) (by decide) (by decide)]; exact (hp p x y).1) hN
  have hW := gm_isW.inj hgg b3
  have hLb := gm_L_b (A := A) (by omega) lk
  have hL2 : J2 3 3 = gm_L A lk := by rw [b1 3 (by decide) (by decide)]; exact a3
  have hL0b := gm_Ls_b (A := A) (by omega) lk 0
  have hL1b := gm_Ls_b (A := A) (by omega) lk 1
  have hLL := gm_L_Ls A lk
  obtain ⟨J3, e3, c1, c2, c3⟩ := c_linkRing (I := J2) (s := 0) (e := gm_L A lk) hc hN hW (by omega) (by omega) (by omega) (by omega) (a3 := 11) (Or.inl rfl)
  have w3 : J3 14 = J2 14 := c1 14 (by decide)
  have hsc : ∀ i, 0 ≤ i → i < gm_L A lk → 0 ≤ gm_sc 0 (gm_L A lk) i ∧ gm_sc 0 (gm_L A lk) i < gm_L A lk := fun i x y => by unfold gm_sc; split <;> omega
  -- previous
  have loop : ∀ (d f : Nat) (J : am_I) (x : Int), gm_L A lk - x = d → d < f → 0 ≤ x → x ≤ gm_L A lk → (∀ b, b ≠ 12 → J b = J3 b) → (∀ i, 0 ≤ i → i < x → J 12 (J2 14 (gm_sc 0 (gm_L A lk) i)) = J2 14 i) →
      ∃ J', X1_layOut_h23 N K F 3 f J x = X1_layOut_h23 N K F 3 (f - d) J' (gm_L A lk) ∧ (∀ b, b ≠ 12 → J' b = J3 b) ∧ (∀ i, 0 ≤ i → i < gm_L A lk → J' 12 (J2 14 (gm_sc 0 (gm_L A lk) i)) = J2 14 i) := by
    intro d
    induction d with
    | zero =>
      intro f J x hd hf x0 x1 j1 j2
      have ex : x = gm_L A lk := by omega
      rw [ex] at j2 ⊢
      exact ⟨J, rfl, j1, j2⟩
    | succ d ih =>
      intro f J x hd hf x0 x1 j1 j2
      obtain ⟨f, rfl⟩ : ∃ g, f = g + 1 := ⟨f - 1, by omega⟩
      have hwx := hW.1 x (by omega) (by omega)
      have hs := hsc x x0 (by omega)
      have hws := hW.1 _ hs.1 hs.2
      have k14 : J 14 = J2 14 := (j1 14 (by decide)).trans w3
      have k11 : J 11 (J2 14 x) = J2 14 (gm_sc 0 (gm_L A lk) x) := by rw [j1 11 (by decide)]; exact c2 x x0 (by omega)
      have k33 : J 3 3 = gm_L A lk := by rw [j1 3 (by decide), c1 3 (by decide)]; exact hL2
      obtain ⟨J', e', r⟩ := ih f (am_u2 J 12 (J2 14 (gm_sc 0 (gm_L A lk) x)) (J2 14 x)) (x + 1) (by omega) (by omega) (by omega) (by omega) (fun b hb => by funext j; rw [am_u2_a hb]; exact congrFun (j1 b hb) j) (fun i a b => by
        by_cases g : i = x
        · subst g; rw [am_u2_s]
        · have hs2 := hsc i a (by omega)
          rw [am_u2_k (fun w => by
            have := hW.2 _ _ hs2.1 hs2.2 hs.1 hs.2 w
            unfold gm_sc at this
            split at this <;> split at this <;> omega)]
          exact j2 i a (by omega))
      refine ⟨J', ?_, r⟩
      rw [show f + 1 - (d + 1) = f - d by omega, ← e']
      show X1_layOut_s23 N K F 3 (X1_layOut_h23 N K F 3 f) J x = _
      generalize X1_layOut_h23 N K F 3 f = kk
      unfold X1_layOut_s23
      simp only [k33, cwF_3_14 hc, cwK_14 hc, k14, cwF_3_11 hc, cwK_11 hc, k11, cwF_3_12 hc, cwK_12 hc, am_lt]
      rw [if_pos (by omega), if_pos trivial, if_pos (by omega), if_pos trivial, if_pos (by omega), if_pos trivial, if_pos (by decide), if_pos hws, if_pos (nb_in (by omega))]
  obtain ⟨J4, e4, d1, d2⟩ := loop (gm_L A lk).toNat N J3 0 (by omega) (by omega) (by omega) (by omega) (fun _ _ => rfl) (fun i x y => by omega)
  have w4 : J4 14 = J2 14 := (d1 14 (by decide)).trans w3
  have k6 : ∀ j, J4 6 j = J1 6 j := fun j => by rw [d1 6 (by decide), c1 6 (by decide), b1 6 (by decide) (by decide)]
  have k33 : J4 3 3 = gm_L A lk := by rw [d1 3 (by decide), c1 3 (by decide)]; exact hL2
  have hW4 : gm_inj (J4 14) (gm_L A lk) := by rw [w4]; exact hW
  obtain ⟨J5, e5, f1, f2, f3⟩ := c_linkRing (I := J4) (s := 0) (e := gm_Ls A lk 0) hc hN hW4 (by omega) (by omega) (by omega) (by omega) (a3 := 13) (Or.inr rfl)
  have w5 : J5 14 = J2 14 := (f1 14 (by decide)).trans w4
  have hW5 : gm_inj (J5 14) (gm_L A lk) := by rw [w5]; exact hW
  obtain ⟨J6, e6, g1, g2, g3⟩ := c_linkRing (I := J5) (s := gm_Ls A lk 0) (e := gm_L A lk) hc hN hW5 (by omega) (by omega) (by omega) (by omega) (a3 := 13) (Or.inr rfl)
  -- what each row is in the end
  have rows : ∀ b, b ≠ 10 → b ≠ 11 → b ≠ 12 → b ≠ 13 → b ≠ 14 → J6 b = J1 b := fun b q1 q2 q3 q4 q5 => by
    rw [g1 b q4, f1 b q4, d1 b q3, c1 b q2, b1 b q1 q5]
  have r10 : J6 10 = J2 10 := by rw [g1 10 (by decide), f1 10 (by decide), d1 10 (by decide), c1 10 (by decide)]
  have r11 : J6 11 = J3 11 := by rw [g1 11 (by decide), f1 11 (by decide), d1 11 (by decide)]
  have r12 : J6 12 = J4 12 := by rw [g1 12 (by decide), f1 12 (by decide)]
  -- along the list
  have hrk := gm_rk_A hgg lk
  have hrh := gm_rk_h hgg lk
  have hh := gm_half hgg
  have n11 : ∀ k : Nat, (k : Int) < A → lk (gm_wy C (k : Int)) = 0 → J6 11 (gm_wy C (k : Int)) = gm_nx A C lk 1 (-1) (gm_wy C (k : Int)) := fun k hk hl => by
    have hrl := gm_rk_lt (b := A.toNat) (show k < A.toNat by omega) hl
    have hrn := gm_rk_nn C lk k
    rw [gm_nx_W hgg b3 (Or.inl rfl) (show gm_lo A (-1) ≤ k by show 0 ≤ k; omega) (show k < gm_hi A (-1) by show k < A.toNat; omega) hl]
    have hx := c2 (gm_rk C lk k) hrn (by omega)
    rw [b3 k hk hl] at hx
    rw [r11, hx]
    show J2 14 (gm_sc 0 (gm_L A lk) (gm_rk C lk k)) = J2 14 (if gm_rk C lk k + 1 < gm_rk C lk A.toNat then gm_rk C lk k + 1 else gm_rk C lk 0)
    rw [hrk]; rfl
  have n12 : ∀ k : Nat, (k : Int) < A → lk (gm_wy C (k : Int)) = 0 → J6 12 (gm_wy C (k : Int)) = gm_nx A C lk (-1) (-1) (gm_wy C (k : Int)) := fun k hk hl => by
    have hrl := gm_rk_lt (b := A.toNat) (show k < A.toNat by omega) hl
    have hrn := gm_rk_nn C lk k
    rw [gm_pv_W hgg b3 hk hl, r12]
    by_cases g : 0 < gm_rk C lk k
    · rw [if_pos g]
      have hx := d2 (gm_rk C lk k - 1) (by omega) (by omega)
      unfold gm_sc at hx
      rw [if_pos (by omega), show gm_rk C lk k - 1 + 1 = gm_rk C lk k by omega, b3 k hk hl] at hx
      exact hx
    · rw [if_neg g]
      have hx := d2 (gm_L A lk - 1) (by omega) (by omega)
      unfold gm_sc at hx
      have hz : gm_rk C lk k = 0 := by omega
      have hb := b3 k hk hl
      rw [hz] at hb
      rw [if_neg (by omega), hb] at hx
      rw [hrk]; exact hx
  have n13 : ∀ k : Nat, (k : Int) < A → lk (gm_wy C (k : Int)) = 0 → J6 13 (gm_wy C (k : Int)) = gm_nx A C lk 1 (gm_sd A (gm_wy C (k : Int))) (gm_wy C (k : Int)) := fun k hk hl => by
    have hrl := gm_rk_lt (b := A.toNat) (show k < A.toNat by omega) hl
    have hrn := gm_rk_nn C lk k
    have hsd := gm_wy_sd hgg (k := (k : Int)) (by omega) hk
    by_cases g : 2 * (k : Int) < A
    · have es : gm_sd A (gm_wy C (k : Int)) = 0 := by rw [hsd]; unfold gm_sd; rw [if_pos g]
      have hlo : gm_lo A 0 = 0 := rfl
      have hhi : gm_hi A 0 = (A / 2).toNat := rfl
      have hr2 := gm_rk_lt (b := (A / 2).toNat) (show k < (A / 2).toNat by omega) hl
      rw [es, gm_nx_W hgg b3 (Or.inr (Or.inl rfl)) (by rw [hlo]; omega) (by rw [hhi]; omega) hl, hlo, hhi, hrh]
      have hx := f2 (gm_rk C lk k) hrn (by omega)
      rw [w4, b3 k hk hl] at hx
      rw [g3 _ (fun i x y => by
        rw [w5, ← b3 k hk hl]
        intro w
        have := hW.2 i _ (by omega) (by omega) hrn (by omega) w
        omega), hx]
      rfl
    · have es : gm_sd A (gm_wy C (k : Int)) = 1 := by rw [hsd]; unfold gm_sd; rw [if_neg g]
      have hlo : gm_lo A 1 = (A / 2).toNat := rfl
      have hhi : gm_hi A 1 = A.toNat := rfl
      have hr2 := gm_rk_le (C := C) (lk := lk) (show (A / 2).toNat ≤ k by omega)
      rw [es, gm_nx_W hgg b3 (Or.inr (Or.inr rfl)) (by rw [hlo]; omega) (by rw [hhi]; omega) hl, hlo, hhi, hrh, hrk]
      have hx := g2 (gm_rk C lk k) (by omega) (by omega)
      rw [w5, b3 k hk hl] at hx
      rw [hx]
      rfl
  refine ⟨J6, ?_, ⟨hgg, ⟨?_, ?_, ?_, ?_⟩, fun p x y => ⟨?_, ?_, ?_⟩, ⟨?_, ?_⟩, ?_, fun p x y hl => ?_, fun p x y hl => ?_⟩, ?_, fun b hb => ?_, fun b hb => ?_⟩
  · unfold X1_layOut
    rw [e1, am_cl_s, e2, am_cl_s, cwF_3_11 hc, hL2, e3, am_cl_s, e4]
    obtain ⟨f, hf⟩ : ∃ g, N - (gm_L A lk).toNat = g + 1 := ⟨N - (gm_L A lk).toNat - 1, by omega⟩
    rw [hf]
    show X1_layOut_s23 N K F 3 (X1_layOut_h23 N K F 3 f) J4 _ = _
    unfold X1_layOut_s23
    simp only [k33, cwF_3_6 hc, cwK_6 hc, cwF_3_13 hc]
    rw [if_neg (by omega), if_pos trivial, if_pos (by decide), k6, a4, e5, am_cl_s, f1 6 (by decide), f1 3 (by decide), k6, a4, k33, e6, am_cl_s]
  · rw [rows 3 (by decide) (by decide) (by decide) (by decide) (by decide), a2 0 (by decide)]; exact h0
  · rw [rows 3 (by decide) (by decide) (by decide) (by decide) (by decide), a2 1 (by decide)]; exact h1
  · rw [rows 3 (by decide) (by decide) (by decide) (by decide) (by decide), a2 2 (by decide)]; exact h2
  · rw [rows 3 (by decide) (by decide) (by decide) (by decide) (by decide)]; exact a3
  · rw [rows 4 (by decide) (by decide) (by decide) (by decide) (by decide), a1 4 (by decide) (by decide) (by decide)]; exact (hp p x y).1
  · rw [rows 9 (by decide) (by decide) (by decide) (by decide) (by decide), a1 9 (by decide) (by decide) (by decide)]; exact (hp p x y).2
  · rw [r10]; exact b2 p x y
  · rw [rows 6 (by decide) (by decide) (by decide) (by decide) (by decide)]; exact a4
  · rw [rows 6 (by decide) (by decide) (by decide) (by decide) (by decide)]; exact a5
  · rw [rows 7 (by decide) (by decide) (by decide) (by decide) (by decide), rows 8 (by decide) (by decide) (by decide) (by decide) (by decide), a1 7 (by decide) (by decide) (by decide), a1 8 (by decide) (by decide) (by decide)]; exact h78
  · obtain ⟨k, k1, k2, -⟩ := gm_pl hgg x y
    rw [← k2] at hl ⊢
    exact ⟨n11 k k1 hl, n12 k k1 hl, n13 k k1 hl⟩
  · obtain ⟨k, k1, k2, -⟩ := gm_pl hgg x y
    rw [← k2] at hl ⊢
    have hrl := gm_rk_lt (b := A.toNat) (show k < A.toNat by omega) hl
    have hrn := gm_rk_nn C lk k
    have ring : ∀ own, (own = -1 ∨ own = 0 ∨ own = 1) → ∀ i, gm_rk C lk (gm_lo A own) ≤ i → i < gm_rk C lk (gm_hi A own) → gm_nx A C lk 1 own (J2 14 i) = J2 14 (if i + 1 < gm_rk C lk (gm_hi A own) then i + 1 else gm_rk C lk (gm_lo A own)) := by
      intro own ho i i0 i1
      obtain ⟨l1, l2⟩ := gm_lohi hgg ho
      obtain ⟨k', q1, q2, q3⟩ := gm_rk_sur (gm_hi A own) i (by have := gm_rk_nn C lk (gm_lo A own); omega) i1
      have q4 : gm_lo A own ≤ k' := by
        by_cases w : gm_lo A own ≤ k'
        · exact w
        · have := gm_rk_lt (b := gm_lo A own) (by omega) q2; omega
      rw [← q3, b3 k' (by omega) q2]
      exact gm_nx_W hgg b3 ho q4 q1 q2
    have hsd := gm_wy_sd hgg (k := (k : Int)) (by omega) k1
    refine ⟨?_, ?_⟩
    · have := gm_ring_per (ring (-1) (Or.inl rfl)) (i := gm_rk C lk k) (by show gm_rk C lk 0 ≤ _; exact hrn) (by show _ < gm_rk C lk A.toNat; omega)
      rw [b3 k k1 hl] at this
      rw [show (gm_rk C lk (gm_hi A (-1)) - gm_rk C lk (gm_lo A (-1))).toNat = (gm_L A lk).toNat by
        show (gm_rk C lk A.toNat - gm_rk C lk 0).toNat = _
        rw [hrk, show gm_rk C lk 0 = 0 from rfl]; omega] at this
      exact this
    · by_cases g : 2 * (k : Int) < A
      · have es : gm_sd A (gm_wy C (k : Int)) = 0 := by rw [hsd]; unfold gm_sd; rw [if_pos g]
        have hr2 := gm_rk_lt (b := (A / 2).toNat) (show k < (A / 2).toNat by omega) hl
        have := gm_ring_per (ring 0 (Or.inr (Or.inl rfl))) (i := gm_rk C lk k) (by show gm_rk C lk 0 ≤ _; exact hrn) (by show _ < gm_rk C lk (A / 2).toNat; omega)
        rw [b3 k k1 hl] at this
        rw [show (gm_rk C lk (gm_hi A 0) - gm_rk C lk (gm_lo A 0)).toNat = (gm_Ls A lk 0).toNat by
          show (gm_rk C lk (A / 2).toNat - gm_rk C lk 0).toNat = _
          rw [hrh, show gm_rk C lk 0 = 0 from rfl]; omega] at this
        rw [es]; exact this
      · have es : gm_sd A (gm_wy C (k : Int)) = 1 := by rw [hsd]; unfold gm_sd; rw [if_neg g]
        have hr2 := gm_rk_le (C := C) (lk := lk) (show (A / 2).toNat ≤ k by omega)
        have := gm_ring_per (ring 1 (Or.inr (Or.inr rfl))) (i := gm_rk C lk k) (by show gm_rk C lk (A / 2).toNat ≤ _; exact hr2) (by show _ < gm_rk C lk A.toNat; omega)
        rw [b3 k k1 hl] at this
        rw [show (gm_rk C lk (gm_hi A 1) - gm_rk C lk (gm_lo A 1)).toNat = (gm_Ls A lk 1).toNat by
          show (gm_rk C lk A.toNat - gm_rk C lk (A / 2).toNat).toNat = _
          rw [hrh, hrk]; omega] at this
        rw [es]; exact this
  · rw [rows 5 (by decide) (by decide) (by decide) (by decide) (by decide)]; exact a6
  · rw [rows b (by omega) (by omega) (by omega) (by omega) (by omega), a1 b (by omega) (by omega) (by omega)]
  · rw [rows b (by omega) (by omega) (by omega) (by omega) (by omega), a1 b (by omega) (by omega) (by omega)]
end CLS6
