-- A NEW BOARD: both sides
section FRESH
variable {N : Nat} {K : am_K} {F : am_F} {I : am_I} {R C A : Int} {lk : Int → Int}
theorem c_lay (hc : cw K F) (hgg : gm_g R C A) (h7 : I 7 0 = 0) (hN : 100 < N) (hlk : ∀ p, 0 ≤ p → p < A → lk p = 0) : ∃ J, X1_lay N K F 3 I R C = some (0, J) ∧ cg J R C A lk ∧ gm_isL A lk (J 5) ∧ (∀ b, b < 3 ∨ 14 < b → J b = I b) := by
  have hA := hgg.A
  have hh := gm_half hgg
  have hC := hgg.2
  have hR : R * C = A := by
    rcases hgg.1 with ⟨rfl, rfl⟩ | ⟨rfl, rfl⟩ <;> rfl
  have loop : ∀ (d f : Nat) (J : am_I) (x : Int), A - x = d → d < f → 0 ≤ x → J 3 0 = R → J 3 1 = C → J 3 2 = A → J 7 0 = 0 → J 7 1 = A / 2 → J 8 0 = A / 2 → J 8 1 = A → (∀ p, 0 ≤ p → p < x → J 4 p = 0 ∧ J 9 p = gm_sd A p) → (∀ b, b < 3 ∨ 14 < b → J b = I b) →
      ∃ J', X1_lay_h53 N K F 3 f J x = some (0, J') ∧ cg J' R C A lk ∧ gm_isL A lk (J' 5) ∧ (∀ b, b < 3 ∨ 14 < b → J' b = I b) := by
    intro d
    induction d with
    | zero =>
      intro f J x hd hf x0 e0 e1 e2 e3 e4 e5 e6 hp hfr
      obtain ⟨f, rfl⟩ : ∃ g, f = g + 1 := ⟨f - 1, by omega⟩
      obtain ⟨J', w1, w2, w3, w4, -⟩ := c_layOut (N := N) (K := K) (F := F) (I := J) (R := R) (C := C) (A := A) (lk := lk) hc ⟨hgg, ⟨e0, e1, e2⟩, fun p a b => by rw [hlk p a b]; exact hp p a (by omega), e3, e4, e5, e6⟩ hN
      refine ⟨J', ?_, w2, w3, fun b hb => (w4 b hb).trans (hfr b hb)⟩
      show X1_lay_s53 N K F 3 (X1_lay_h53 N K F 3 f) J x = _
      unfold X1_lay_s53
      rw [e2, if_neg (by omega), w1, am_cl_s]
    | succ d ih =>
      intro f J x hd hf x0 e0 e1 e2 e3 e4 e5 e6 hp hfr
      obtain ⟨f, rfl⟩ : ∃ g, f = g + 1 := ⟨f - 1, by omega⟩
      obtain ⟨J', w⟩ := ih f (am_u2 (am_u2 J 4 x 0) 9 x (gm_sd A x)) (x + 1) (by omega) (by omega) (by omega) (by rw [am_u2_a (by decide), am_u2_a (by decide)]; exact e0) (by rw [am_u2_a (by decide), am_u2_a (by decide)]; exact e1) (by rw [am_u2_a (by decide), am_u2_a (by decide)]; exact e2) (by rw [am_u2_a (by decide), am_u2_a (by decide)]; exact e3) (by rw [am_u2_a (by decide), am_u2_a (by decide)]; exact e4) (by rw [am_u2_a (by decide), am_u2_a (by decide)]; exact e5) (by rw [am_u2_a (by decide), am_u2_a (by decide)]; exact e6)
        (fun p a b => by
          by_cases g : p = x
          · subst g
            refine ⟨by rw [am_u2_a (by decide), am_u2_s], by rw [am_u2_s]⟩
          · rw [am_u2_a (by decide), am_u2_k g, am_u2_k g, am_u2_a (by decide)]; exact hp p a (by omega))
        (fun b hb => by funext j; rw [am_u2_a (by omega), am_u2_a (by omega)]; exact congrFun (hfr b hb) j)
      refine ⟨J', ?_, w.2⟩
      rw [← w.1]
      show X1_lay_s53 N K F 3 (X1_lay_h53 N K F 3 f) J x = _
      unfold X1_lay_s53 X1_lay_b88
      simp only [cwF_3_4 hc, cwK_4 hc, cwF_3_7 hc, cwK_7 hc, cwF_3_9 hc, cwK_9 hc, am_lt]
      rw [e2, if_pos (by omega), if_pos trivial, if_pos (by decide), if_pos (by omega), if_pos trivial, if_pos (by decide), am_u2_a (show (7 : Nat) ≠ 4 by decide), e4]
      unfold gm_sd
      by_cases g : x < A / 2
      · rw [if_pos g, if_pos trivial, if_pos (by decide), if_pos (by omega), if_pos (nb_in (by omega)), if_pos (show 2 * x < A by omega)]
      · rw [if_neg g, if_pos trivial, if_pos (by decide), if_pos (by omega), if_pos (nb_in (by omega)), if_neg (show ¬ 2 * x < A by omega)]
  have hsh : am_ishr A 1 = A / 2 := nb_ishr (n := 1) (by decide) (by omega) (by omega)
  unfold X1_lay
  simp only [am_lt, hR, cwF_3_8 hc, cwK_8 hc, cwF_3_7 hc, cwK_7 hc, am_u2_s, am_u2_a (show (3 : Nat) ≠ 8 by decide), am_u2_a (show (3 : Nat) ≠ 7 by decide), hsh]
  rw [if_pos (nb_in (by omega)), if_pos trivial, if_pos (by decide), if_pos (by decide), if_pos trivial, if_pos (by decide), if_pos (by decide), if_pos (by decide)]
  obtain ⟨J', w⟩ := loop A.toNat N (am_u2 (am_u2 (am_u2 (am_u2 (am_u2 (am_u2 I 3 0 R) 3 1 C) 3 2 A) 8 0 (A / 2)) 7 1 (A / 2)) 8 1 A) 0 (by omega) (by omega) (by omega)
    (by simp [am_u2]) (by simp [am_u2]) (by simp [am_u2]) (by simp [am_u2, h7]) (by simp [am_u2]) (by simp [am_u2]) (by simp [am_u2]) (fun p a b => by omega)
    (fun b hb => by funext j; rw [am_u2_a (by omega), am_u2_a (by omega), am_u2_a (by omega), am_u2_a (by omega), am_u2_a (by omega), am_u2_a (by omega)])
  exact ⟨J', w⟩
theorem c_lay' (hc : cw K F) (hgg : gm_g R C A) (h7 : I 7 0 = 0) (hN : 100 < N) : ∃ J, X1_lay N K F 3 I R C = some (0, J) ∧ (∀ b, b < 3 ∨ 14 < b → J b = I b) ∧ ∀ lk : Int → Int, (∀ p, 0 ≤ p → p < A → lk p = 0) → cg J R C A lk ∧ gm_isL A lk (J 5) := by
  obtain ⟨J, e1, -, -, e4⟩ := c_lay (N := N) (I := I) (lk := fun _ => 0) hc hgg h7 hN (fun _ _ _ => rfl)
  refine ⟨J, e1, e4, fun lk hlk => ?_⟩
  obtain ⟨J2, f1, f2, f3, -⟩ := c_lay (N := N) (I := I) (lk := lk) hc hgg h7 hN hlk
  rw [e1] at f1
  have : J = J2 := by injection f1 with f1; injection f1
  rw [this]
  exact ⟨f2, f3⟩
theorem c_takeOut (hc : cw K F) (hg : cg I R C A lk) (hN : 100 < N) {p : Int} (p0 : 0 ≤ p) (p1 : p < A) : ∃ J, X1_takeOut N K F 3 I p = some (0, J) ∧ cg J R C A (gm_up lk p 1) ∧ gm_isL A (gm_up lk p 1) (J 5) ∧ (∀ b, b < 3 ∨ 14 < b → J b = I b) := by
  have hA := hg.A
  obtain ⟨g0, ⟨g1, g2, g3, -⟩, g4, -, g5, -⟩ := hg
  obtain ⟨J', w1, w2, w3, w4, -⟩ := c_layOut (N := N) (K := K) (F := F) (I := am_u2 I 4 p 1) (R := R) (C := C) (A := A) (lk := gm_up lk p 1) hc ⟨g0, ⟨by rw [am_u2_a (by decide)]; exact g1, by rw [am_u2_a (by decide)]; exact g2, by rw [am_u2_a (by decide)]; exact g3⟩, fun q a b => by
      refine ⟨?_, by rw [am_u2_a (by decide)]; exact (g4 q a b).2.1⟩
      by_cases g : q = p
      · subst g; rw [am_u2_s, gm_up_s]
      · rw [am_u2_k g, gm_up_n g]; exact (g4 q a b).1, by simp only [am_u2_a (show (7 : Nat) ≠ 4 by decide), am_u2_a (show (8 : Nat) ≠ 4 by decide)]; exact g5⟩ hN
  refine ⟨J', ?_, w2, w3, fun b hb => (w4 b hb).trans (by funext j; rw [am_u2_a (by omega)])⟩
  unfold X1_takeOut
  simp only [cwF_3_4 hc, cwK_4 hc, am_lt]
  rw [if_pos trivial, if_pos (by decide), if_pos (by omega), w1, am_cl_s]
/-- what the model's fresh leaves -/
def mf (I J : am_I) (R C A : Int) : Prop :=
  mg J R C A ∧ mW J C A ∧ (∀ p, 0 ≤ p → p < 32 → J 86 p = 0 ∧ J 87 p = 0) ∧ (J 88 0 = 0 ∧ J 88 1 = 0) ∧ (J 85 5 = 0 ∧ J 85 6 = 0 ∧ J 85 7 = 10 ∧ J 85 8 = 2 ∧ J 85 9 = 3 ∧ J 85 10 = 1 ∧ J 85 11 = 0 ∧ J 85 12 = 0 ∧ J 85 37 = 0 ∧ J 85 38 = 0 ∧ J 85 21 = 0 ∧ J 85 39 = 0) ∧ (J 107 0 = 0 ∧ J 107 1 = 0) ∧
  (∀ b, b < 85 ∨ (90 < b ∧ b ≠ 107) → J b = I b) ∧ (∀ j, j ≠ 0 → j ≠ 1 → (j < 5 ∨ 12 < j) → j ≠ 37 → j ≠ 38 → j ≠ 21 → j ≠ 39 → J 85 j = I 85 j)
theorem m_fresh3 (hm : mw K F) (hN : 100 < N) (J : am_I) : ∃ J', X12_fresh_h208 N K F 85 N J 0 = some (0, J') ∧ (∀ b, b ≠ 107 → J' b = J b) ∧ J' 107 0 = 0 ∧ J' 107 1 = 0 := by
  have loop : ∀ (d f : Nat) (J : am_I) (x : Int), 2 - x = d → d < f → 0 ≤ x → (∀ p, 0 ≤ p → p < x → J 107 p = 0) → ∃ J', X12_fresh_h208 N K F 85 f J x = some (0, J') ∧ (∀ b, b ≠ 107 → J' b = J b) ∧ ∀ p, 0 ≤ p → p < 2 → J' 107 p = 0 := by
    intro d
    induction d with
    | zero =>
      intro f J x hd hf x0 hp
      obtain ⟨f, rfl⟩ : ∃ g, f = g + 1 := ⟨f - 1, by omega⟩
      refine ⟨J, ?_, fun _ _ => rfl, fun p a b => hp p a (by omega)⟩
      show X12_fresh_s208 N K F 85 (X12_fresh_h208 N K F 85 f) J x = _
      unfold X12_fresh_s208
      rw [if_neg (by omega)]
    | succ d ih =>
      intro f J x hd hf x0 hp
      obtain ⟨f, rfl⟩ : ∃ g, f = g + 1 := ⟨f - 1, by omega⟩
      obtain ⟨J', w1, w2, w3⟩ := ih f (am_u2 J 107 x 0) (x + 1) (by omega) (by omega) (by omega) (fun p a b => by
        by_cases g : p = x
        · subst g; rw [am_u2_s]
        · rw [am_u2_k g]; exact hp p a (by omega))
      refine ⟨J', ?_, fun b q => (w2 b q).trans (by funext j; rw [am_u2_a q]), w3⟩
      rw [← w1]
      show X12_fresh_s208 N K F 85 (X12_fresh_h208 N K F 85 f) J x = _
      unfold X12_fresh_s208
      simp only [mwF_85_44 hm, mwK_107 hm, am_lt]
      rw [if_pos (by omega), if_pos trivial, if_pos (by decide), if_pos (by omega), if_pos (nb_in (by omega))]
  obtain ⟨J', w1, w2, w3⟩ := loop 2 N J 0 (by omega) (by omega) (by omega) (fun p a b => by omega)
  exact ⟨J', w1, w2, w3 0 (by decide) (by decide), w3 1 (by decide) (by decide)⟩
theorem m_fresh2 (hm : mw K F) (hN : 100 < N) : ∀ (d f : Nat) (J : am_I) (x : Int), 32 - x = d → d < f → 0 ≤ x → (∀ p, 0 ≤ p → p < x → J 86 p = 0 ∧ J 87 p = 0) →
      ∃ J', X12_fresh_h101 N K F 85 f J x = some (0, J') ∧ (∀ p, 0 ≤ p → p < 32 → J' 86 p = 0 ∧ J' 87 p = 0) ∧ (J' 88 0 = 0 ∧ J' 88 1 = 0) ∧ (J' 85 5 = 0 ∧ J' 85 6 = 0 ∧ J' 85 7 = 10 ∧ J' 85 8 = 2 ∧ J' 85 9 = 3 ∧ J' 85 10 = 1 ∧ J' 85 11 = 0 ∧ J' 85 12 = 0 ∧ J' 85 37 = 0 ∧ J' 85 38 = 0 ∧ J' 85 21 = 0 ∧ J' 85 39 = 0) ∧ (J' 107 0 = 0 ∧ J' 107 1 = 0) ∧ (∀ b, b < 85 ∨ (88 < b ∧ b ≠ 107) → J' b = J b) ∧ (∀ j, (j < 5 ∨ 12 < j) → j ≠ 37 → j ≠ 38 → j ≠ 21 → j ≠ 39 → J' 85 j = J 85 j) := by
  have l3 : ∀ (J : am_I), ∃ J', X12_fresh_h208 N K F 85 N J 0 = some (0, J') ∧ (∀ b, b ≠ 107 → J' b = J b) ∧ J' 107 0 = 0 ∧ J' 107 1 = 0 := fun J => m_fresh3 hm hN J
  intro d
  induction d with
  | zero =>
    intro f J x hd hf x0 hp
    obtain ⟨f, rfl⟩ : ∃ g, f = g + 1 := ⟨f - 1, by omega⟩
    generalize hH : am_u2 (am_u2 (am_u2 (am_u2 (am_u2 (am_u2 (am_u2 (am_u2 (am_u2 (am_u2 (am_u2 (am_u2 (am_u2 (am_u2 J 88 0 0) 88 1 0) 85 5 0) 85 6 0) 85 7 10) 85 8 2) 85 9 3) 85 10 1) 85 11 0) 85 12 0) 85 37 0) 85 38 0) 85 21 0) 85 39 0 = H
    obtain ⟨J', w1, w2, w3⟩ := l3 H
    have hb : ∀ b, b ≠ 85 → b ≠ 88 → b ≠ 107 → J' b = J b := fun b q1 q2 q3 => by
      rw [w2 b q3, ← hH]; funext j
      simp only [am_u2_a q1, am_u2_a q2]
    have h85 : J' 85 = H 85 := w2 85 (by decide)
    have h88 : J' 88 = H 88 := w2 88 (by decide)
    refine ⟨J', ?_, fun p a b => ?_, ?_, ?_, w3, fun b q => hb b (by omega) (by omega) (by omega), fun j q1 q2 q3 q4 q5 => ?_⟩
    · rw [← w1, ← hH]
      show X12_fresh_s101 N K F 85 (X12_fresh_h101 N K F 85 f) J x = _
      unfold X12_fresh_s101
      simp only [mwF_85_4 hm, mwK_88 hm, am_lt]
      rw [if_neg (by omega), if_pos trivial, if_pos (by decide), if_pos (by decide), if_pos (by decide)]
    · rw [hb 86 (by decide) (by decide) (by decide), hb 87 (by decide) (by decide) (by decide)]; exact hp p a (by omega)
    · rw [h88, ← hH]; simp [am_u2]
    · rw [h85, ← hH]; simp [am_u2]
    · rw [h85, ← hH]
      rw [am_u2_k q5, am_u2_k q4, am_u2_k q3, am_u2_k q2, am_u2_k (by omega), am_u2_k (by omega), am_u2_k (by omega), am_u2_k (by omega), am_u2_k (by omega), am_u2_k (by omega), am_u2_k (by omega), am_u2_k (by omega), am_u2_a (by decide), am_u2_a (by decide)]
  | succ d ih =>
    intro f J x hd hf x0 hp
    obtain ⟨f, rfl⟩ : ∃ g, f = g + 1 := ⟨f - 1, by omega⟩
    obtain ⟨J', w1, w2, w3, w4, w5, w6, w7⟩ := ih f (am_u2 (am_u2 J 86 x 0) 87 x 0) (x + 1) (by omega) (by omega) (by omega) (fun p a b => by
      by_cases g : p = x
      · subst g; refine ⟨by rw [am_u2_a (by decide), am_u2_s], by rw [am_u2_s]⟩
      · rw [am_u2_a (by decide), am_u2_k g, am_u2_k g, am_u2_a (by decide)]; exact hp p a (by omega))
    refine ⟨J', ?_, w2, w3, w4, w5, fun b q => (w6 b q).trans (by funext j; rw [am_u2_a (by omega), am_u2_a (by omega)]), fun j q1 q2 q3 q4 q5 => (w7 j q1 q2 q3 q4 q5).trans (by rw [am_u2_a (by decide), am_u2_a (by decide)])⟩
    rw [← w1]
    show X12_fresh_s101 N K F 85 (X12_fresh_h101 N K F 85 f) J x = _
    unfold X12_fresh_s101
    simp only [mwF_85_2 hm, mwK_86 hm, mwF_85_3 hm, mwK_87 hm, am_lt]
    rw [if_pos (by omega), if_pos trivial, if_pos (by decide), if_pos (by omega), if_pos trivial, if_pos (by decide), if_pos (by omega), if_pos (nb_in (by omega))]
theorem m_fresh_b (hm : mw K F) (k15 : am_I → Int → Int → Option (Int × am_I)) (k27 : am_I → Int → Int → Int → Option (Int × am_I)) (J : am_I) {n x4 x5 s0 s1 : Int} (h1 : 0 ≤ n ∧ n < 32) (h2 : 0 ≤ s1 + s0 ∧ s1 + s0 < 32) (h3 : 0 ≤ x5 ∧ x5 < 1000) :
    X12_fresh_b64 N K F 85 k15 k27 J n x4 x5 s0 s1 = k27 (am_u2 (am_u2 J 89 n (s1 + s0)) 90 (s1 + s0) n) (n + 1) x4 (x5 + 1) := by
  unfold X12_fresh_b64
  generalize s1 + s0 = w at *
  simp only [mwF_85_13 hm, mwK_89 hm, mwF_85_14 hm, mwK_90 hm, am_lt]
  rw [if_pos (nb_in (by omega)), if_pos trivial, if_pos (by decide), if_pos (by omega), if_pos trivial, if_pos (by decide), if_pos (by omega), if_pos (nb_in (by omega)), if_pos (nb_in (by omega))]
theorem m_fresh1 (hm : mw K F) (hgg : gm_g R C A) (hN : 100 < N) (J : am_I) (h0 : J 85 0 = R) (h1 : J 85 1 = C) : ∃ J', X12_fresh_h15 N K F 85 N J 0 0 = X12_fresh_h101 N K F 85 N J' 0 ∧ (∀ b, b ≠ 89 → b ≠ 90 → J' b = J b) ∧ (∀ j : Nat, (j : Int) < A → J' 89 (j : Int) = gm_wy C (j : Int) ∧ J' 90 (gm_wy C (j : Int)) = (j : Int)) := by
  have hA := hgg.A
  have hC := hgg.2
  have hR : R * C = A ∧ 2 ≤ R ∧ R ≤ 4 := by
    rcases hgg.1 with ⟨rfl, rfl⟩ | ⟨rfl, rfl⟩
    · exact ⟨rfl, by omega, by omega⟩
    · exact ⟨rfl, by omega, by omega⟩
  -- the way
  have key : ∀ (J : am_I) (k : Nat), J 85 1 = C → (k : Int) < A → (∀ j : Nat, j < k → J 89 (j : Int) = gm_wy C (j : Int) ∧ J 90 (gm_wy C (j : Int)) = (j : Int)) →
      ∀ (kk4 : am_I → Int → Int → Option (Int × am_I)) (kk14 : am_I → Int → Int → Int → Option (Int × am_I)) (x2 x3 : Int), 0 ≤ x2 → x2 ≤ 4 → 0 ≤ x3 → x3 < C → x2 * C + x3 = (k : Int) → ∀ s0, s0 = (if x2 % 2 = 0 then x3 else C - 1 - x3) →
      ∃ J', X12_fresh_b64 N K F 85 kk4 kk14 J (k : Int) x2 x3 s0 (x2 * C) = kk14 J' ((k : Int) + 1) x2 (x3 + 1) ∧ (∀ b, b ≠ 89 → b ≠ 90 → J' b = J b) ∧ (∀ j : Nat, j < k + 1 → J' 89 (j : Int) = gm_wy C (j : Int) ∧ J' 90 (gm_wy C (j : Int)) = (j : Int)) := by
    intro J k h1 hk j2 kk4 kk14 x2 x3 a0 a1 b0 b1 ek s0 hs0
    obtain ⟨d1, d2⟩ := gm_dm (r := x2) (c := x3) (by omega : 0 < C) b0 b1
    have ew : gm_wy C (k : Int) = x2 * C + s0 := by
      unfold gm_wy
      rw [← ek, d1, d2, hs0]
    obtain ⟨w0, w1, -⟩ := gm_wy_b hgg (k := (k : Int)) (by omega) hk
    have hinj : ∀ j : Nat, gm_wy C (j : Int) = gm_wy C (k : Int) → j = k := fun j w => by have := gm_wy_inj (by omega : 0 < C) w; omega
    refine ⟨am_u2 (am_u2 J 89 (k : Int) (gm_wy C (k : Int))) 90 (gm_wy C (k : Int)) (k : Int), ?_, fun b q1 q2 => by funext j; rw [am_u2_a q2, am_u2_a q1], fun j hj => ?_⟩
    · rw [m_fresh_b hm kk4 kk14 J (n := (k : Int)) (s1 := x2 * C) (s0 := s0) (by omega) (by omega) (by omega), ← ew]
    · by_cases e : j = k
      · subst e; refine ⟨by rw [am_u2_a (by decide), am_u2_s], by rw [am_u2_s]⟩
      · rw [am_u2_a (by decide), am_u2_k (by omega), am_u2_k (fun w => e (hinj j w)), am_u2_a (by decide)]; exact j2 j (by omega)
  have inner : ∀ (kk4 : am_I → Int → Int → Option (Int × am_I)) (d f : Nat) (J : am_I) (k : Nat) (x2 x3 : Int), C - x3 = d → d < f → 0 ≤ x2 → x2 < R → 0 ≤ x3 → x2 * C + x3 = (k : Int) → J 85 1 = C → (∀ j : Nat, j < k → J 89 (j : Int) = gm_wy C (j : Int) ∧ J 90 (gm_wy C (j : Int)) = (j : Int)) →
      ∃ J', X12_fresh_h27 N K F 85 kk4 f J (k : Int) x2 x3 = kk4 J' ((k + d : Nat) : Int) (x2 + 1) ∧ (∀ b, b ≠ 89 → b ≠ 90 → J' b = J b) ∧ (∀ j : Nat, j < k + d → J' 89 (j : Int) = gm_wy C (j : Int) ∧ J' 90 (gm_wy C (j : Int)) = (j : Int)) := by
    intro kk4 d
    induction d with
    | zero =>
      intro f J k x2 x3 hd hf a0 a1 b0 ek h1 j2
      obtain ⟨f, rfl⟩ : ∃ g, f = g + 1 := ⟨f - 1, by omega⟩
      refine ⟨J, ?_, fun _ _ _ => rfl, j2⟩
      show X12_fresh_s27 N K F 85 kk4 (X12_fresh_h27 N K F 85 kk4 f) J _ x2 x3 = _
      unfold X12_fresh_s27
      simp only [h1, am_lt]
      rw [if_neg (by omega), if_pos (nb_in (by omega))]
      rfl
    | succ d ih =>
      intro f J k x2 x3 hd hf a0 a1 b0 ek h1 j2
      obtain ⟨f, rfl⟩ : ∃ g, f = g + 1 := ⟨f - 1, by omega⟩
      have hx2C : 0 ≤ x2 * C ∧ x2 * C ≤ 32 := by
        have h1 : 0 ≤ x2 * C := Int.mul_nonneg a0 (by omega)
        have h2 : x2 * C ≤ 4 * 8 := Int.mul_le_mul (by omega) (by omega) (by omega) (by omega)
        omega
      have hkA : (k : Int) < A := by
        have : (x2 + 1) * C ≤ R * C := Int.mul_le_mul_of_nonneg_right (by omega) (by omega)
        rw [Int.add_mul] at this
        omega
      obtain ⟨J1, e1, r1, r2⟩ := key J k h1 hkA j2 kk4 (X12_fresh_h27 N K F 85 kk4 f) x2 x3 a0 (by omega) b0 (by omega) ek (if x2 % 2 = 0 then x3 else C - 1 - x3) rfl
      obtain ⟨J2, e2, r4, r5⟩ := ih f J1 (k + 1) x2 (x3 + 1) (by omega) (by omega) a0 a1 (by omega) (by omega) (by rw [r1 85 (by decide) (by decide)]; exact h1) r2
      rw [show k + 1 + d = k + (d + 1) by omega] at e2 r5
      refine ⟨J2, ?_, fun b q1 q2 => (r4 b q1 q2).trans (r1 b q1 q2), r5⟩
      rw [← e2, show ((k + 1 : Nat) : Int) = (k : Int) + 1 by omega, ← e1]
      show X12_fresh_s27 N K F 85 kk4 (X12_fresh_h27 N K F 85 kk4 f) J _ x2 x3 = _
      unfold X12_fresh_s27
      rw [h1, if_pos (by omega), if_pos (nb_in (by omega)), if_pos (by decide), nb_irem (nb_in (by omega)) (by decide) a0 (by decide)]
      by_cases g : x2 % 2 = 0
      · rw [if_pos g, if_pos g]
      · rw [if_neg g, if_neg g, if_pos (nb_in (by omega)), if_pos (nb_in (by omega))]
  have outer : ∀ (d f : Nat) (J : am_I) (k : Nat) (x2 : Int), R - x2 = d → d < f → 0 ≤ x2 → x2 * C = (k : Int) → J 85 0 = R → J 85 1 = C → (∀ j : Nat, j < k → J 89 (j : Int) = gm_wy C (j : Int) ∧ J 90 (gm_wy C (j : Int)) = (j : Int)) →
      ∃ J', X12_fresh_h15 N K F 85 f J (k : Int) x2 = X12_fresh_h101 N K F 85 N J' 0 ∧ (∀ b, b ≠ 89 → b ≠ 90 → J' b = J b) ∧ (∀ j : Nat, (j : Int) < A → J' 89 (j : Int) = gm_wy C (j : Int) ∧ J' 90 (gm_wy C (j : Int)) = (j : Int)) := by
    intro d
    induction d with
    | zero =>
      intro f J k x2 hd hf a0 ek h0 h1 j2
      obtain ⟨f, rfl⟩ : ∃ g, f = g + 1 := ⟨f - 1, by omega⟩
      have e : x2 = R := by omega
      subst e
      refine ⟨J, ?_, fun _ _ _ => rfl, fun j hj => j2 j (by omega)⟩
      show X12_fresh_s15 N K F 85 (X12_fresh_h15 N K F 85 f) J _ x2 = _
      unfold X12_fresh_s15
      rw [h0, if_neg (by omega)]
    | succ d ih =>
      intro f J k x2 hd hf a0 ek h0 h1 j2
      obtain ⟨f, rfl⟩ : ∃ g, f = g + 1 := ⟨f - 1, by omega⟩
      obtain ⟨J1, e1, r1, r2⟩ := inner (X12_fresh_h15 N K F 85 f) C.toNat N J k x2 0 (by omega) (by omega) a0 (by omega) (by omega) (by omega) h1 j2
      obtain ⟨J2, e2, r4, r5⟩ := ih f J1 (k + C.toNat) (x2 + 1) (by omega) (by omega) (by omega) (by rw [Int.add_mul]; omega) (by rw [r1 85 (by decide) (by decide)]; exact h0) (by rw [r1 85 (by decide) (by decide)]; exact h1) r2
      refine ⟨J2, ?_, fun b q1 q2 => (r4 b q1 q2).trans (r1 b q1 q2), r5⟩
      rw [← e2, ← e1]
      show X12_fresh_s15 N K F 85 (X12_fresh_h15 N K F 85 f) J _ x2 = _
      unfold X12_fresh_s15
      rw [h0, if_pos (by omega)]
  exact outer R.toNat N J 0 0 (by omega) (by omega) (by omega) (by simp) h0 h1 (fun j hj => absurd hj (Nat.not_lt_zero j))
theorem m_fresh (hm : mw K F) (hgg : gm_g R C A) (hN : 100 < N) : ∃ J, X12_fresh N K F 85 I R C = some (0, J) ∧ mf I J R C A := by
  have hA := hgg.A
  have hC := hgg.2
  have hR : R * C = A ∧ 2 ≤ R ∧ R ≤ 4 := by
    rcases hgg.1 with ⟨rfl, rfl⟩ | ⟨rfl, rfl⟩
    · exact ⟨rfl, by omega, by omega⟩
    · exact ⟨rfl, by omega, by omega⟩
  have l2 := m_fresh2 (K := K) (F := F) (N := N) hm hN
  obtain ⟨J1, e1, r1, r2⟩ := m_fresh1 (N := N) hm hgg hN (am_u2 (am_u2 I 85 0 R) 85 1 C) (by simp [am_u2]) (by simp [am_u2])
  obtain ⟨J, w1, w2, w3, w4, w5, w6, w7⟩ := l2 32 N J1 0 (by omega) (by omega) (by omega) (fun p a b => by omega)
  have k85 : J1 85 = (am_u2 (am_u2 I 85 0 R) 85 1 C) 85 := r1 85 (by decide) (by decide)
  refine ⟨J, ?_, ⟨?_, ?_, hgg.1, hgg.2.1, hgg.2.2⟩, fun k k0 k1 => ?_, w2, w3, w4, w5, fun b q => ?_, fun j q1 q2 q3 q4 q5 q6 q7 => ?_⟩
  · unfold X12_fresh
    rw [← w1]
    unfold am_lt
    dsimp only
    exact e1
  · rw [w7 0 (by decide) (by decide) (by decide) (by decide) (by decide), k85]; simp [am_u2]
  · rw [w7 1 (by decide) (by decide) (by decide) (by decide) (by decide), k85]; simp [am_u2]
  · rw [w6 89 (Or.inr ⟨by decide, by decide⟩), w6 90 (Or.inr ⟨by decide, by decide⟩)]
    refine ⟨?_, ?_⟩
    · have := (r2 k.toNat (by omega)).1
      rw [show ((k.toNat : Nat) : Int) = k by omega] at this
      exact this
    · obtain ⟨b0, b1, -⟩ := gm_wy_b hgg k0 k1
      have := (r2 (gm_wy C k).toNat (by omega)).2
      rw [show (((gm_wy C k).toNat : Nat) : Int) = gm_wy C k by omega, gm_wy_wy (by omega)] at this
      exact this
  · rw [w6 b (by omega), r1 b (by omega) (by omega)]
    funext j
    rw [am_u2_a (by omega), am_u2_a (by omega)]
  · rw [w7 j q3 q4 q5 q6 q7, k85, am_u2_k q2, am_u2_k q1]
end FRESH
