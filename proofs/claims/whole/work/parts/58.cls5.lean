-- THE CLASS: laying out the ground
theorem gm_rk_A {R C A : Int} (hg : gm_g R C A) (lk : Int → Int) : gm_rk C lk A.toNat = gm_L A lk := by
  have hC : 0 < C := by have := hg.2; omega
  exact gm_perm A.toNat (gm_lv lk) (gm_wy C) (gm_wy C) (fun i a b => by
    obtain ⟨w0, w1, -⟩ := gm_wy_b hg a (show i < A by omega)
    exact ⟨⟨w0, by omega⟩, ⟨w0, by omega⟩, gm_wy_wy hC, gm_wy_wy hC⟩)
theorem gm_rk_h {R C A : Int} (hg : gm_g R C A) (lk : Int → Int) : gm_rk C lk (A / 2).toNat = gm_Ls A lk 0 := by
  have hC : 0 < C := by have := hg.2; omega
  have hh := gm_half hg
  have hA := hg.A
  have e1 : gm_rk C lk (A / 2).toNat = gm_sm (gm_lv lk) (A / 2).toNat := gm_perm (A / 2).toNat (gm_lv lk) (gm_wy C) (gm_wy C) (fun i a b => by
    obtain ⟨w0, w1, w2⟩ := gm_wy_b hg a (show i < A by omega)
    have := w2.mpr (by omega)
    exact ⟨⟨w0, by omega⟩, ⟨w0, by omega⟩, gm_wy_wy hC, gm_wy_wy hC⟩)
  rw [e1]
  unfold gm_Ls
  rw [gm_sm_ext (d := (A / 2).toNat) (e := A.toNat) (by omega) (fun i a b => by
    unfold gm_lvs gm_sd
    rw [if_neg (by rw [if_neg (show ¬ 2 * i < A by omega)]; exact fun w => absurd w.2 (by decide))])]
  refine gm_sm_congr (fun i a b => ?_)
  unfold gm_lv gm_lvs gm_sd
  rw [if_pos (show 2 * i < A by omega)]
  by_cases h : lk i = 0
  · rw [if_pos h, if_pos ⟨h, rfl⟩]
  · rw [if_neg h, if_neg (fun w => h w.1)]
theorem gm_L_Ls (A : Int) (lk : Int → Int) : gm_Ls A lk 0 + gm_Ls A lk 1 = gm_L A lk := by
  unfold gm_Ls gm_L
  rw [← gm_sm_add]
  refine gm_sm_congr (fun i _ _ => ?_)
  unfold gm_lvs gm_lv
  by_cases h : lk i = 0
  · rcases gm_sd_01 A i with g | g
    · rw [if_pos ⟨h, g⟩, if_neg (fun w => by have := w.2; omega), if_pos h]; rfl
    · rw [if_neg (fun w => by have := w.2; omega), if_pos ⟨h, g⟩, if_pos h]; rfl
  · rw [if_neg (fun w => h w.1), if_neg (fun w => h w.1), if_neg h]; rfl
theorem gm_smm {g : Int → Int} (h : ∀ i, 0 ≤ g i) (a m : Nat) : gm_sm g a ≤ gm_sm g (a + m) := by
  induction m with
  | zero => exact Int.le_refl _
  | succ m ih =>
    have e : gm_sm g (a + (m + 1)) = gm_sm g (a + m) + g ((a + m : Nat) : Int) := rfl
    have := h ((a + m : Nat) : Int)
    omega
/-- the live pits in their order -/
def gm_isL (A : Int) (lk Lv : Int → Int) : Prop := ∀ p : Nat, (p : Int) < A → lk (p : Int) = 0 → Lv (gm_sm (gm_lv lk) p) = (p : Int)
/-- what the class's ground must be told -/
def cg0 (I : am_I) (R C A : Int) (lk : Int → Int) : Prop :=
  gm_g R C A ∧ (I 3 0 = R ∧ I 3 1 = C ∧ I 3 2 = A) ∧ (∀ p, 0 ≤ p → p < A → I 4 p = lk p ∧ I 9 p = gm_sd A p) ∧ (I 7 0 = 0 ∧ I 7 1 = A / 2 ∧ I 8 0 = A / 2 ∧ I 8 1 = A)
section CLS5
variable {N : Nat} {K : am_K} {F : am_F} {I : am_I} {R C A : Int} {lk : Int → Int}
set_option maxRecDepth 8000 in
theorem c_listLive (hc : cw K F) (hg : cg0 I R C A lk) (hN : 100 < N) : ∃ J, X1_listLive N K F 3 I = some (0, J) ∧ (∀ b, b ≠ 3 → b ≠ 5 → b ≠ 6 → J b = I b) ∧ (∀ j, j ≠ 3 → J 3 j = I 3 j) ∧ J 3 3 = gm_L A lk ∧ J 6 0 = gm_Ls A lk 0 ∧ J 6 1 = gm_Ls A lk 1 ∧ gm_isL A lk (J 5) := by
  have hA := hg.1.A
  obtain ⟨hgg, ⟨h0, h1, h2⟩, hp, -⟩ := hg
  have loop : ∀ (d f : Nat) (J : am_I) (x : Nat), A.toNat - x = d → d < f → (x : Int) ≤ A → (∀ b, b ≠ 3 → b ≠ 5 → b ≠ 6 → J b = I b) → (∀ j, j ≠ 3 → J 3 j = I 3 j) → J 3 3 = gm_sm (gm_lv lk) x → J 6 0 = gm_sm (gm_lvs A lk 0) x → J 6 1 = gm_sm (gm_lvs A lk 1) x → (∀ p : Nat, p < x → lk (p : Int) = 0 → J 5 (gm_sm (gm_lv lk) p) = (p : Int)) →
      ∃ J', X1_listLive_h21 N K F 3 f J (x : Int) = some (0, J') ∧ (∀ b, b ≠ 3 → b ≠ 5 → b ≠ 6 → J' b = I b) ∧ (∀ j, j ≠ 3 → J' 3 j = I 3 j) ∧ J' 3 3 = gm_L A lk ∧ J' 6 0 = gm_Ls A lk 0 ∧ J' 6 1 = gm_Ls A lk 1 ∧ gm_isL A lk (J' 5) := by
    intro d
    induction d with
    | zero =>
      intro f J x hd hf hx j1 j2 j3 j4 j5 j6
      obtain ⟨f, rfl⟩ : ∃ g, f = g + 1 := ⟨f - 1, by omega⟩
      have e : x = A.toNat := by omega
      subst e
      refine ⟨J, ?_, j1, j2, j3, j4, j5, fun p a b => j6 p (by omega) b⟩
      show X1_listLive_s21 N K F 3 (X1_listLive_h21 N K F 3 f) J _ = _
      unfold X1_listLive_s21
      rw [j2 2 (by decide), h2, if_neg (by omega)]
    | succ d ih =>
      intro f J x hd hf hx j1 j2 j3 j4 j5 j6
      obtain ⟨f, rfl⟩ : ∃ g, f = g + 1 := ⟨f - 1, by omega⟩
      have hxA : (x : Int) < A := by omega
      obtain ⟨p4, p9⟩ := hp (x : Int) (by omega) hxA
      have b3 := gm_sm_b (g := gm_lv lk) (B := 1) (d := x) (fun i _ _ => gm_lv_01 _ _)
      have b60 := gm_sm_b (g := gm_lvs A lk 0) (B := 1) (d := x) (fun i _ _ => gm_lvs_01 _ _ _ _)
      have b61 := gm_sm_b (g := gm_lvs A lk 1) (B := 1) (d := x) (fun i _ _ => gm_lvs_01 _ _ _ _)
      have step : ∀ (kk : am_I → Int → Option (Int × am_I)) (xi : Int), 0 ≤ xi → xi < 31 + 1 → xi < A → I 4 xi = lk xi → I 9 xi = gm_sd A xi → lk xi = 0 → X1_listLive_s21 N K F 3 kk J xi = kk (am_u2 (am_u2 (am_u2 J 5 (J 3 3) xi) 3 3 (J 3 3 + 1)) 6 (gm_sd A xi) (J 6 (gm_sd A xi) + 1)) (xi + 1) := by
        intro kk xi g0 g1 g2 g3 g4 g5
        have hs01 := gm_sd_01 A xi
        have hj6 : am_inI (J 6 (gm_sd A xi) + 1) := nb_in (by rcases hs01 with w | w <;> rw [w] <;> omega)
        have e33 : am_u2 J 5 (J 3 3) xi 3 3 = J 3 3 := am_u2_a (by decide)
        have e9 : ∀ v, am_u2 (am_u2 J 5 (J 3 3) xi) 3 3 v 9 xi = gm_sd A xi := fun v => by
          rw [am_u2_a (by decide), am_u2_a (by decide), j1 9 (by decide) (by decide) (by decide)]; exact g4
        have e6 : ∀ v s, am_u2 (am_u2 J 5 (J 3 3) xi) 3 3 v 6 s = J 6 s := fun v s => by rw [am_u2_a (by decide), am_u2_a (by decide)]
        unfold X1_listLive_s21 X1_listLive_b73
        rw [j2 2 (by decide), h2, cwF_3_4 hc, cwK_4 hc, j1 4 (by decide) (by decide) (by decide), g3, cwF_3_5 hc, cwK_5 hc, cwF_3_9 hc, cwK_9 hc, cwF_3_6 hc, cwK_6 hc]
        rw [if_pos g2, if_pos (Eq.refl _), if_pos (show 0 ≤ xi ∧ xi < 32 by omega), if_pos g5, if_pos (Eq.refl _), if_pos (by decide), if_pos (show 0 ≤ J 3 3 ∧ J 3 3 < 32 by rw [j3]; omega)]
        show (if am_inI (am_u2 J 5 (J 3 3) xi 3 3 + 1) then am_lt (am_u2 (am_u2 J 5 (J 3 3) xi) 3 3 (am_u2 J 5 (J 3 3) xi 3 3 + 1)) _ else none) = _
        rw [e33, if_pos (nb_in (by rw [j3]; omega))]
        show (if ((100, 32) : Nat × Int).1 = 100 then if (0 : Int) ≤ xi ∧ xi < ((100, 32) : Nat × Int).2 then if ((100, 2) : Nat × Int).1 = 100 then if (0 : Int) ≤ (am_u2 (am_u2 J 5 (J 3 3) xi) 3 3 (J 3 3 + 1) 9 xi) ∧ (am_u2 (am_u2 J 5 (J 3 3) xi) 3 3 (J 3 3 + 1) 9 xi) < ((100, 2) : Nat × Int).2 then if am_inI ((am_u2 (am_u2 J 5 (J 3 3) xi) 3 3 (J 3 3 + 1) 6 (am_u2 (am_u2 J 5 (J 3 3) xi) 3 3 (J 3 3 + 1) 9 xi)) + 1) then if (6 : Nat) ≠ 1 then _ else none else none else none else none else none else none) = _
        rw [if_pos (Eq.refl _), if_pos (show 0 ≤ xi ∧ xi < 32 by omega), if_pos (Eq.refl _), e9, if_pos (show 0 ≤ gm_sd A xi ∧ gm_sd A xi < 2 by omega), e6, if_pos hj6, if_pos (by decide)]
        show (if am_inI (xi + 1) then _ else none) = _
        rw [if_pos (nb_in (by omega))]
        rfl
      show ∃ J', X1_listLive_s21 N K F 3 (X1_listLive_h21 N K F 3 f) J _ = _ ∧ _
      by_cases hl : lk (x : Int) = 0
      · rw [step _ (x : Int) (by omega) (by omega) hxA p4 p9 hl]
        have e6 : ∀ v s, am_u2 (am_u2 J 5 (J 3 3) (x : Int)) 3 3 v 6 s = J 6 s := fun v s => by rw [am_u2_a (by decide), am_u2_a (by decide)]
        have hs01 := gm_sd_01 A (x : Int)
        have ex : (x : Int) + 1 = ((x + 1 : Nat) : Int) := by omega
        rw [ex]
        refine ih f _ (x + 1) (by omega) (by omega) (by omega) (fun b q1 q2 q3 => ?_) (fun j q => ?_) ?_ ?_ ?_ (fun p a b => ?_)
        · funext j; rw [am_u2_a q3, am_u2_a q1, am_u2_a q2]; exact congrFun (j1 b q1 q2 q3) j
        · rw [am_u2_a (by decide), am_u2_k q, am_u2_a (by decide)]; exact j2 j q
        · rw [am_u2_a (by decide), am_u2_s, gm_sm_s, j3]; unfold gm_lv; rw [if_pos hl]
        · rw [gm_sm_s, ← j4]
          unfold gm_lvs
          by_cases g : gm_sd A (x : Int) = 0
          · rw [g, am_u2_s, if_pos ⟨hl, rfl⟩]
          · rw [am_u2_k (fun w => g w.symm), e6, if_neg (fun w => g w.2)]; omega
        · rw [gm_sm_s, ← j5]
          unfold gm_lvs
          by_cases g : gm_sd A (x : Int) = 1
          · rw [g, am_u2_s, if_pos ⟨hl, rfl⟩]
          · rw [am_u2_k (fun w => g w.symm), e6, if_neg (fun w => g w.2)]; omega
        · rw [am_u2_a (by decide), am_u2_a (by decide)]
          by_cases e : p = x
          · subst e; rw [j3, am_u2_s]
          · have hlt : gm_sm (gm_lv lk) p ≠ J 3 3 := by
              rw [j3]
              have h1 : gm_sm (gm_lv lk) (p + 1) = gm_sm (gm_lv lk) p + 1 := by rw [gm_sm_s]; unfold gm_lv; rw [if_pos b]
              have h2 : gm_sm (gm_lv lk) (p + 1) ≤ gm_sm (gm_lv lk) x := by
                obtain ⟨m, hm⟩ : ∃ m, x = p + 1 + m := ⟨x - (p + 1), by omega⟩
                rw [hm]
                exact gm_smm (fun i => (gm_lv_01 lk i).1) _ _
              omega
            rw [am_u2_k hlt]; exact j6 p (by omega) b
      · unfold X1_listLive_s21 X1_listLive_b73
        rw [j2 2 (by decide), h2, cwF_3_4 hc, cwK_4 hc, j1 4 (by decide) (by decide) (by decide), p4, if_pos hxA, if_pos (Eq.refl _), if_pos (show (0 : Int) ≤ (x : Int) ∧ (x : Int) < 32 by omega), if_neg hl, if_pos (nb_in (by omega))]
        unfold am_lt
        have ex : (x : Int) + 1 = ((x + 1 : Nat) : Int) := by omega
        rw [ex]
        refine ih f J (x + 1) (by omega) (by omega) (by omega) j1 j2 ?_ ?_ ?_ (fun p a b => ?_)
        · rw [j3, gm_sm_s]; unfold gm_lv; rw [if_neg hl]; omega
        · rw [j4, gm_sm_s]; unfold gm_lvs; rw [if_neg (fun w => hl w.1)]; omega
        · rw [j5, gm_sm_s]; unfold gm_lvs; rw [if_neg (fun w => hl w.1)]; omega
        · exact j6 p (by have : p ≠ x := fun w => hl (by rw [← w]; exact b); omega) b
  unfold X1_listLive
  simp only [am_lt, cwF_3_6 hc, cwK_6 hc]
  rw [if_pos trivial, if_pos (by decide), if_pos (by decide), if_pos (by decide)]
  refine loop A.toNat N _ 0 (by omega) (by omega) (by omega) (fun b q1 q2 q3 => ?_) (fun j q => ?_) ?_ ?_ ?_ (fun p a b => by omega)
  · funext j; rw [am_u2_a q3, am_u2_a q3, am_u2_a q1]
  · rw [am_u2_a (by decide), am_u2_a (by decide), am_u2_k q]
  · rw [am_u2_a (by decide), am_u2_a (by decide), am_u2_s]; rfl
  · rw [am_u2_k (by decide), am_u2_s]; rfl
  · rw [am_u2_s]; rfl
theorem c_listWay (hc : cw K F) (hgg : gm_g R C A) (h0 : I 3 0 = R) (h1 : I 3 1 = C) (hlk : ∀ p, 0 ≤ p → p < A → I 4 p = lk p) (hN : 100 < N) : ∃ J, X1_listWay N K F 3 I = some (0, J) ∧ (∀ b, b ≠ 10 → b ≠ 14 → J b = I b) ∧ (∀ p, 0 ≤ p → p < A → J 10 p = p % C) ∧ gm_isW A C lk (J 14) := by
  have hA := hgg.A
  have hC := hgg.2
  have hR : R * C = A ∧ 2 ≤ R ∧ R ≤ 4 := by
    rcases hgg.1 with ⟨rfl, rfl⟩ | ⟨rfl, rfl⟩
    · exact ⟨rfl, by omega, by omega⟩
    · exact ⟨rfl, by omega, by omega⟩
  -- what holds ahead of place k
  have key : ∀ (J : am_I) (k : Nat), (∀ b, b ≠ 10 → b ≠ 14 → J b = I b) → (k : Int) < A → (∀ j : Nat, j < k → J 10 (gm_wy C (j : Int)) = gm_wy C (j : Int) % C) → (∀ j : Nat, j < k → lk (gm_wy C (j : Int)) = 0 → J 14 (gm_rk C lk j) = gm_wy C (j : Int)) →
      ∀ (kk4 : am_I → Int → Int → Option (Int × am_I)) (kk14 : am_I → Int → Int → Int → Option (Int × am_I)) (x2 x3 : Int), 0 ≤ x2 → x2 ≤ 4 → 0 ≤ x3 → x3 < C → x2 * C + x3 = (k : Int) → ∀ s0, s0 = (if x2 % 2 = 0 then x3 else C - 1 - x3) →
      ∃ J', X1_listWay_b40 N K F 3 kk4 kk14 J (gm_rk C lk k) x2 x3 s0 = kk14 J' (gm_rk C lk (k + 1)) x2 (x3 + 1) ∧ (∀ b, b ≠ 10 → b ≠ 14 → J' b = I b) ∧ (∀ j : Nat, j < k + 1 → J' 10 (gm_wy C (j : Int)) = gm_wy C (j : Int) % C) ∧ (∀ j : Nat, j < k + 1 → lk (gm_wy C (j : Int)) = 0 → J' 14 (gm_rk C lk j) = gm_wy C (j : Int)) := by
    intro J k j1 hk j2 j3 kk4 kk14 x2 x3 a0 a1 b0 b1 ek s0 hs0
    obtain ⟨d1, d2⟩ := gm_dm (r := x2) (c := x3) (by omega : 0 < C) b0 b1
    have ew : gm_wy C (k : Int) = x2 * C + s0 := by
      unfold gm_wy
      rw [← ek, d1, d2, hs0]
    have sb : 0 ≤ s0 ∧ s0 < C := by rw [hs0]; split <;> omega
    obtain ⟨w0, w1, -⟩ := gm_wy_b hgg (k := (k : Int)) (by omega) hk
    have hx2C : 0 ≤ x2 * C ∧ x2 * C ≤ 32 := by
      have h1 : 0 ≤ x2 * C := Int.mul_nonneg a0 (by omega)
      have h2 : x2 * C ≤ 4 * 8 := Int.mul_le_mul (by omega) (by omega) (by omega) (by omega)
      omega
    have hpit : X1_pitAt N K F J 3 x2 s0 = some (gm_wy C (k : Int)) := by
      unfold X1_pitAt
      rw [j1 3 (by decide) (by decide), h1, if_pos (nb_in (by omega)), if_pos (nb_in (by omega)), ew]
    have hrb := gm_sm_b (g := fun i => gm_lv lk (gm_wy C i)) (B := 1) (d := k) (fun i _ _ => gm_lv_01 _ _)
    have hrb2 : 0 ≤ gm_rk C lk k ∧ gm_rk C lk k ≤ k := by unfold gm_rk; omega
    have hmod : s0 = gm_wy C (k : Int) % C := by rw [ew]; exact (gm_dm (by omega) sb.1 sb.2).2.symm
    have hinj : ∀ j : Nat, gm_wy C (j : Int) = gm_wy C (k : Int) → j = k := fun j w => by have := gm_wy_inj (by omega : 0 < C) w; omega
    unfold X1_listWay_b40 X1_listWay_b81
    simp only [hpit, am_cq_s, cwF_3_10 hc, cwK_10 hc, am_lt, cwF_3_4 hc, cwK_4 hc, cwF_3_14 hc, cwK_14 hc]
    rw [if_pos trivial, if_pos (by decide), if_pos (by omega), if_pos trivial, if_pos (by omega), am_u2_a (show (4 : Nat) ≠ 10 by decide), j1 4 (by decide) (by decide), hlk _ w0 w1]
    by_cases hl : lk (gm_wy C (k : Int)) = 0
    · rw [if_pos hl, if_pos trivial, if_pos (by decide), if_pos (by omega), if_pos (nb_in (by omega)), if_pos (nb_in (by omega))]
      refine ⟨_, by rw [gm_rk_live hl], fun b q1 q2 => ?_, fun j hj => ?_, fun j hj g => ?_⟩
      · funext i; rw [am_u2_a q2, am_u2_a q1]; exact congrFun (j1 b q1 q2) i
      · rw [am_u2_a (by decide)]
        by_cases e : j = k
        · subst e; rw [am_u2_s]; exact hmod
        · rw [am_u2_k (fun w => e (hinj j w))]; exact j2 j (by omega)
      · by_cases e : j = k
        · subst e; rw [am_u2_s]
        · have : gm_rk C lk j ≠ gm_rk C lk k := by have := gm_rk_lt (show j < k by omega) g; omega
          rw [am_u2_k this, am_u2_a (by decide)]; exact j3 j (by omega) g
    · rw [if_neg hl, if_pos (nb_in (by omega))]
      refine ⟨_, by rw [gm_rk_dead hl], fun b q1 q2 => ?_, fun j hj => ?_, fun j hj g => ?_⟩
      · funext i; rw [am_u2_a q1]; exact congrFun (j1 b q1 q2) i
      · by_cases e : j = k
        · subst e; rw [am_u2_s]; exact hmod
        · rw [am_u2_k (fun w => e (hinj j w))]; exact j2 j (by omega)
      · have : j ≠ k := fun w => hl (by rw [← w]; exact g)
        rw [am_u2_a (by decide)]; exact j3 j (by omega) g
  -- a row
  have inner : ∀ (kk4 : am_I → Int → Int → Option (Int × am_I)) (d f : Nat) (J : am_I) (k : Nat) (x2 x3 : Int), C - x3 = d → d < f → 0 ≤ x2 → x2 < R → 0 ≤ x3 → x2 * C + x3 = (k : Int) → (∀ b, b ≠ 10 → b ≠ 14 → J b = I b) → (∀ j : Nat, j < k → J 10 (gm_wy C (j : Int)) = gm_wy C (j : Int) % C) → (∀ j : Nat, j < k → lk (gm_wy C (j : Int)) = 0 → J 14 (gm_rk C lk j) = gm_wy C (j : Int)) →
      ∃ J', X1_listWay_h14 N K F 3 kk4 f J (gm_rk C lk k) x2 x3 = kk4 J' (gm_rk C lk (k + d)) (x2 + 1) ∧ (∀ b, b ≠ 10 → b ≠ 14 → J' b = I b) ∧ (∀ j : Nat, j < k + d → J' 10 (gm_wy C (j : Int)) = gm_wy C (j : Int) % C) ∧ (∀ j : Nat, j < k + d → lk (gm_wy C (j : Int)) = 0 → J' 14 (gm_rk C lk j) = gm_wy C (j : Int)) := by
    intro kk4 d
    induction d with
    | zero =>
      intro f J k x2 x3 hd hf a0 a1 b0 ek j1 j2 j3
      obtain ⟨f, rfl⟩ : ∃ g, f = g + 1 := ⟨f - 1, by omega⟩
      refine ⟨J, ?_, j1, j2, j3⟩
      show X1_listWay_s14 N K F 3 kk4 (X1_listWay_h14 N K F 3 kk4 f) J _ x2 x3 = _
      unfold X1_listWay_s14
      simp only [j1 3 (by decide) (by decide), h1, am_lt]
      rw [if_neg (by omega), if_pos (nb_in (by omega))]
      rfl
    | succ d ih =>
      intro f J k x2 x3 hd hf a0 a1 b0 ek j1 j2 j3
      obtain ⟨f, rfl⟩ : ∃ g, f = g + 1 := ⟨f - 1, by omega⟩
      have hkA : (k : Int) < A := by
        have : (x2 + 1) * C ≤ R * C := Int.mul_le_mul_of_nonneg_right (by omega) (by omega)
        rw [Int.add_mul] at this
        omega
      obtain ⟨J1, e1, r1, r2, r3⟩ := key J k j1 hkA j2 j3 kk4 (X1_listWay_h14 N K F 3 kk4 f) x2 x3 a0 (by omega) b0 (by omega) ek (if x2 % 2 = 0 then x3 else C - 1 - x3) rfl
      obtain ⟨J2, e2, r4⟩ := ih f J1 (k + 1) x2 (x3 + 1) (by omega) (by omega) a0 a1 (by omega) (by omega) r1 r2 r3
      rw [show k + 1 + d = k + (d + 1) by omega] at e2 r4
      refine ⟨J2, ?_, r4⟩
      rw [← e2, ← e1]
      show X1_listWay_s14 N K F 3 kk4 (X1_listWay_h14 N K F 3 kk4 f) J _ x2 x3 = _
      unfold X1_listWay_s14
      simp only [j1 3 (by decide) (by decide), h1]
      have em : am_iand x2 1 = x2 % 2 := nb_iandm 1 (by decide) ⟨a0, by omega⟩
      rw [if_pos (by omega), em]
      by_cases g : x2 % 2 = 0
      · rw [if_pos g, if_pos g]
      · rw [if_neg g, if_neg g, if_pos (nb_in (by omega)), if_pos (nb_in (by omega))]
  have outer : ∀ (d f : Nat) (J : am_I) (k : Nat) (x2 : Int), R - x2 = d → d < f → 0 ≤ x2 → x2 * C = (k : Int) → (∀ b, b ≠ 10 → b ≠ 14 → J b = I b) → (∀ j : Nat, j < k → J 10 (gm_wy C (j : Int)) = gm_wy C (j : Int) % C) → (∀ j : Nat, j < k → lk (gm_wy C (j : Int)) = 0 → J 14 (gm_rk C lk j) = gm_wy C (j : Int)) →
      ∃ J', X1_listWay_h4 N K F 3 f J (gm_rk C lk k) x2 = some (0, J') ∧ (∀ b, b ≠ 10 → b ≠ 14 → J' b = I b) ∧ (∀ j : Nat, (j : Int) < A → J' 10 (gm_wy C (j : Int)) = gm_wy C (j : Int) % C) ∧ (∀ j : Nat, (j : Int) < A → lk (gm_wy C (j : Int)) = 0 → J' 14 (gm_rk C lk j) = gm_wy C (j : Int)) := by
    intro d
    induction d with
    | zero =>
      intro f J k x2 hd hf a0 ek j1 j2 j3
      obtain ⟨f, rfl⟩ : ∃ g, f = g + 1 := ⟨f - 1, by omega⟩
      have e : x2 = R := by omega
      subst e
      refine ⟨J, ?_, j1, fun j hj => j2 j (by omega), fun j hj => j3 j (by omega)⟩
      show X1_listWay_s4 N K F 3 (X1_listWay_h4 N K F 3 f) J _ x2 = _
      unfold X1_listWay_s4
      rw [j1 3 (by decide) (by decide), h0, if_neg (by omega)]
    | succ d ih =>
      intro f J k x2 hd hf a0 ek j1 j2 j3
      obtain ⟨f, rfl⟩ : ∃ g, f = g + 1 := ⟨f - 1, by omega⟩
      obtain ⟨J1, e1, r1, r2, r3⟩ := inner (X1_listWay_h4 N K F 3 f) C.toNat N J k x2 0 (by omega) (by omega) a0 (by omega) (by omega) (by omega) j1 j2 j3
      obtain ⟨J2, e2, r4⟩ := ih f J1 (k + C.toNat) (x2 + 1) (by omega) (by omega) (by omega) (by rw [Int.add_mul]; omega) r1 r2 r3
      refine ⟨J2, ?_, r4⟩
      rw [← e2, ← e1]
      show X1_listWay_s4 N K F 3 (X1_listWay_h4 N K F 3 f) J _ x2 = _
      unfold X1_listWay_s4
      rw [j1 3 (by decide) (by decide), h0, if_pos (by omega)]
  obtain ⟨J, e, r1, r2, r3⟩ := outer R.toNat N I 0 0 (by omega) (by omega) (by omega) (by simp) (fun _ _ _ => rfl) (fun j hj => by omega) (fun j hj => by omega)
  refine ⟨J, e, r1, fun p a b => ?_, fun k hk hl => r3 k hk hl⟩
  obtain ⟨k, k1, k2, -⟩ := gm_pl hgg a b
  have := r2 k k1
  rw [k2] at this
  exact this
end CLS5
