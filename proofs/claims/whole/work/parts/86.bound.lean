-- HOW MANY MOVES THERE CAN BE
theorem gm_pig : ∀ (T : Nat) (T' : Int) (g f : Int → Int), 0 ≤ T' → (∀ i : Int, 0 ≤ i → i < T → g i = 0 ∨ g i = 1) → (∀ i : Int, 0 ≤ i → i < T → g i = 1 → 0 ≤ f i ∧ f i < T') → (∀ i j : Int, 0 ≤ i → i < T → 0 ≤ j → j < T → g i = 1 → g j = 1 → f i = f j → i = j) → gm_sm g T ≤ T'
  | 0, T', g, f, h0, _, _, _ => by unfold gm_sm; exact h0
  | T + 1, T', g, f, h0, h01, hr, hi => by
    rw [gm_sm_s]
    rcases h01 (T : Int) (by omega) (by omega) with w | w
    · have := gm_pig T T' g f h0 (fun i a b => h01 i a (by omega)) (fun i a b => hr i a (by omega)) (fun i j a b c d => hi i j a (by omega) c (by omega))
      omega
    · have hT := hr (T : Int) (by omega) (by omega) w
      have := gm_pig T (T' - 1) g (fun i => if f i = T' - 1 then f (T : Int) else f i) (by omega) (fun i a b => h01 i a (by omega)) (fun i a b q => ?_) (fun i j a b c d q1 q2 q3 => ?_)
      · omega
      · have hf := hr i a (by omega) q
        have hne : f i ≠ f (T : Int) := fun v => by have := hi i (T : Int) a (by omega) (by omega) (by omega) q w v; omega
        try dsimp only
        split <;> omega
      · try dsimp only at q3
        have n1 : f i ≠ f (T : Int) := fun v => by have := hi i (T : Int) a (by omega) (by omega) (by omega) q1 w v; omega
        have n2 : f j ≠ f (T : Int) := fun v => by have := hi j (T : Int) c (by omega) (by omega) (by omega) q2 w v; omega
        refine hi i j a (by omega) c (by omega) q1 q2 ?_
        split at q3 <;> split at q3 <;> omega
theorem gm_swap (g : Int → Int → Int) (d : Nat) : ∀ T : Nat, gm_sm (fun i => gm_sm (fun p => g i p) d) T = gm_sm (fun p => gm_sm (fun i => g i p) T) d
  | 0 => by rw [gm_sm_0, gm_sm_z (fun _ _ _ => gm_sm_0 _)]
  | T + 1 => by
    rw [gm_sm_s, gm_swap g d T]
    rw [← gm_sm_add]
    exact gm_sm_congr (fun i _ _ => (gm_sm_s _ _).symm)
theorem gm_sm_mulr (g : Int → Int) (c : Int) : ∀ d : Nat, gm_sm (fun i => g i * c) d = gm_sm g d * c
  | 0 => by rw [gm_sm_0, gm_sm_0, Int.zero_mul]
  | d + 1 => by rw [gm_sm_s, gm_sm_s, gm_sm_mulr g c d, Int.add_mul]
/-- two by two -/
theorem gm_sm_two (g : Int → Int) : ∀ d : Nat, gm_sm g (2 * d) = gm_sm (fun i => g (2 * i) + g (2 * i + 1)) d
  | 0 => rfl
  | d + 1 => by
    rw [show 2 * (d + 1) = 2 * d + 1 + 1 by omega, gm_sm_s, gm_sm_s, gm_sm_two g d, gm_sm_s]
    have e1 : ((2 * d : Nat) : Int) = 2 * (d : Int) := by omega
    have e2 : ((2 * d + 1 : Nat) : Int) = 2 * (d : Int) + 1 := by omega
    rw [e1, e2]
    omega
section BOUND
variable {R C A : Int} {lk U : Int → Int}
/-- a board, and a pit of it with seeds -/
def gb_i (A : Int) (lk : Int → Int) (b p : Int) : Int := if lk p = 0 ∧ 1 ≤ gm_bd2 A lk b p then 1 else 0
theorem gb_i01 (b p : Int) : gb_i A lk b p = 0 ∨ gb_i A lk b p = 1 := by unfold gb_i; split <;> simp
theorem gb_two (hg : gm_g R C A) (hU : 1 ≤ U 10) {b : Int} (h0 : 0 ≤ b) (h1 : b < gW (gm_L A lk + 1) 12) : gp_N A C lk U (2 * b) + gp_N A C lk U (2 * b + 1) ≤ gm_sm (gb_i A lk b) A.toNat := by
  have hA := hg.A
  unfold gp_N gp_n
  rw [← gm_sm_add]
  refine gm_sm_le (fun p p0 p1 => ?_)
  have t1 : 2 * b < gp_top A lk 12 := by unfold gp_top; omega
  have t2 : 2 * b + 1 < gp_top A lk 12 := by unfold gp_top; omega
  have b1 : gp_b A lk (2 * b) = gm_bd2 A lk b := by unfold gp_b; rw [show 2 * b / 2 = b by omega]
  have b2 : gp_b A lk (2 * b + 1) = gm_bd2 A lk b := by unfold gp_b; rw [show (2 * b + 1) / 2 = b by omega]
  have c1 : gp_al A C lk U (2 * b) p = 1 → (lk p = 0 ∧ 1 ≤ gm_bd2 A lk b p) ∧ gm_sd A p = 0 := fun w => by
    have m := gp_move hg (by omega) t1 p0 (by omega) w
    have x1 := m.b
    have x2 := m.sd
    rw [b1] at x1
    exact ⟨⟨m.l, by omega⟩, by omega⟩
  have c2 : gp_al A C lk U (2 * b + 1) p = 1 → (lk p = 0 ∧ 1 ≤ gm_bd2 A lk b p) ∧ gm_sd A p = 1 := fun w => by
    have m := gp_move hg (by omega) t2 p0 (by omega) w
    have x1 := m.b
    have x2 := m.sd
    rw [b2] at x1
    exact ⟨⟨m.l, by omega⟩, by omega⟩
  unfold gb_i
  rcases gp_al_01 A C lk U (2 * b) p with w1 | w1
  · rcases gp_al_01 A C lk U (2 * b + 1) p with w2 | w2
    · rw [w1, w2]; split <;> omega
    · rw [w1, w2, if_pos (c2 w2).1]; omega
  · rcases gp_al_01 A C lk U (2 * b + 1) p with w2 | w2
    · rw [w1, w2, if_pos (c1 w1).1]; omega
    · have := (c1 w1).2; have := (c2 w2).2; omega
/-- of one pit: not more than the boards with a seed less -/
theorem gb_pit (hg : gm_g R C A) (hL : 0 ≤ gm_L A lk) {n p : Int} (hn : 0 ≤ n ∧ n ≤ 12) (p0 : 0 ≤ p) (p1 : p < A) : gm_sm (fun b => gb_i A lk b p) (gW (gm_L A lk + 1) n).toNat ≤ gm_lv lk p * gW (gm_L A lk + 1) (n - 1) := by
  have hA := hg.A
  have hA0 : 0 ≤ A := by omega
  by_cases hl : lk p = 0
  · have hv : gm_lv lk p = 1 := by unfold gm_lv; rw [if_pos hl]
    rw [hv, Int.one_mul]
    have mn := gW_mono (m := gm_L A lk + 1) (k := n) (k' := 12) (by omega) (by omega)
    have key : ∀ b, 0 ≤ b → b < ((gW (gm_L A lk + 1) n).toNat : Int) → gb_i A lk b p = 1 → 1 ≤ gm_bd2 A lk b p ∧ gm_st A lk (gm_up (gm_bd2 A lk b) p (gm_bd2 A lk b p - 1)) ∧ gm_tot A (gm_up (gm_bd2 A lk b) p (gm_bd2 A lk b p - 1)) ≤ n - 1 ∧ gm_nu A lk (gm_bd2 A lk b) = b := by
      intro b b0 b1 q
      have h1 : 1 ≤ gm_bd2 A lk b p := by
        unfold gb_i at q
        by_cases w : lk p = 0 ∧ 1 ≤ gm_bd2 A lk b p
        · exact w.2
        · rw [if_neg w] at q; omega
      obtain ⟨s1, s2, s3, -⟩ := gm_bd2_st hA0 (lk := lk) (b := b) b0 (by omega)
      have ht := gm_tot_up (A := A) (c := gm_bd2 A lk b) (k := p) (v := gm_bd2 A lk b p - 1) p0 p1
      have lb := gm_lay_b (L := gm_L A lk) (b := b) hL b0 (by omega)
      have ln : gm_lay (gm_L A lk) b ≤ n := by
        refine Int.not_lt.mp fun w => ?_
        have := gW_mono (m := gm_L A lk + 1) (k := n) (k' := gm_lay (gm_L A lk) b - 1) (by omega) (by omega)
        omega
      refine ⟨h1, ⟨fun j j0 j1 => ?_, fun j j0 j1 jl => ?_, by have := s1.2.2; omega⟩, by omega, s3⟩
      · by_cases w : j = p
        · subst w; rw [gm_up_s]; omega
        · rw [gm_up_n w]; exact s1.1 j j0 j1
      · by_cases w : j = p
        · subst w; exact absurd hl jl
        · rw [gm_up_n w]; exact s1.2.1 j j0 j1 jl
    refine gm_pig _ _ _ (fun b => gm_nu A lk (gm_up (gm_bd2 A lk b) p (gm_bd2 A lk b p - 1))) (gW_nn _ _) (fun i _ _ => gb_i01 _ _) (fun b b0 b1 q => ?_) (fun b b' b0 b1 c0 c1 q q' w => ?_)
    · obtain ⟨k1, k2, k3, k4⟩ := key b b0 b1 q
      have nb := gm_nu_b hA0 k2
      have m1 := gW_mono (m := gm_L A lk + 1) (k := gm_tot A (gm_up (gm_bd2 A lk b) p (gm_bd2 A lk b p - 1))) (k' := n - 1) (by omega) k3
      have g0 := gW_nn (gm_L A lk + 1) (gm_tot A (gm_up (gm_bd2 A lk b) p (gm_bd2 A lk b p - 1)) - 1)
      try dsimp only
      omega
    · obtain ⟨k1, k2, k3, k4⟩ := key b b0 b1 q
      obtain ⟨l1, l2, l3, l4⟩ := key b' c0 c1 q'
      have e1 := (gm_bd2_nu hA0 k2 (by omega)).2
      have e2 := (gm_bd2_nu hA0 l2 (by omega)).2
      try dsimp only at w
      rw [w] at e1
      have e3 := e1.symm.trans e2
      have e4 : gm_eq A (gm_bd2 A lk b) (gm_bd2 A lk b') := fun j j0 j1 => by
        have := e3 j j0 j1
        by_cases v : j = p
        · subst v; rw [gm_up_s, gm_up_s] at this; omega
        · rw [gm_up_n v, gm_up_n v] at this; exact this
      rw [← k4, ← l4]
      exact e4.nu
  · have hv : gm_lv lk p = 0 := by unfold gm_lv; rw [if_neg hl]
    rw [hv, Int.zero_mul, gm_sm_z (fun b _ _ => by unfold gb_i; rw [if_neg (fun w => hl w.1)])]
    exact Int.le_refl _
/-- all moves of the places of up to n seeds -/
theorem gp_cnt_top (hg : gm_g R C A) (hL : 0 ≤ gm_L A lk) (hU : 1 ≤ U 10) {n : Int} (hn : 0 ≤ n ∧ n ≤ 12) : gp_cnt A C lk U (gp_top A lk n).toNat ≤ gm_L A lk * gW (gm_L A lk + 1) (n - 1) := by
  have hA := hg.A
  have mn := gW_mono (m := gm_L A lk + 1) (k := n) (k' := 12) (by omega) (by omega)
  have e1 : (gp_top A lk n).toNat = 2 * (gW (gm_L A lk + 1) n).toNat := by have := gW_nn (gm_L A lk + 1) n; unfold gp_top; omega
  have e2 : gp_cnt A C lk U (gp_top A lk n).toNat = gm_sm (fun b => gp_N A C lk U (2 * b) + gp_N A C lk U (2 * b + 1)) (gW (gm_L A lk + 1) n).toNat := by
    rw [e1]
    exact gm_sm_two (fun i => gp_N A C lk U i) _
  rw [e2]
  have s1 := gm_sm_le (g := fun b => gp_N A C lk U (2 * b) + gp_N A C lk U (2 * b + 1)) (g' := fun b => gm_sm (gb_i A lk b) A.toNat) (d := (gW (gm_L A lk + 1) n).toNat) (fun b b0 b1 => gb_two hg hU b0 (by omega))
  have s2 := gm_swap (gb_i A lk) A.toNat (gW (gm_L A lk + 1) n).toNat
  have s3 := gm_sm_le (g := fun p => gm_sm (fun b => gb_i A lk b p) (gW (gm_L A lk + 1) n).toNat) (g' := fun p => gm_lv lk p * gW (gm_L A lk + 1) (n - 1)) (d := A.toNat) (fun p p0 p1 => gb_pit hg hL hn p0 (by omega))
  rw [gm_sm_mulr] at s3
  have s4 : gm_sm (fun i => gm_sm (fun p => gb_i A lk i p) A.toNat) (gW (gm_L A lk + 1) n).toNat = gm_sm (fun b => gm_sm (gb_i A lk b) A.toNat) (gW (gm_L A lk + 1) n).toNat := rfl
  rw [s4] at s2
  unfold gm_L at *
  omega
/-- the moves of one place: not more than its side has pits -/
theorem gp_N_side (hg : gm_g R C A) {k : Int} (h0 : 0 ≤ k) (h1 : k < gp_top A lk 12) : gp_N A C lk U k ≤ am_max (gm_Ls A lk 0) (gm_Ls A lk 1) := by
  have hA := hg.A
  have s : gp_N A C lk U k ≤ gm_Ls A lk (k % 2) := by
    unfold gp_N gp_n gm_Ls
    refine gm_sm_le (fun p p0 p1 => ?_)
    rcases gp_al_01 A C lk U k p with w | w
    · rw [w]; exact (gm_lvs_01 A lk (k % 2) p).1
    · have m := gp_move hg h0 h1 p0 (by omega) w
      rw [w]
      unfold gm_lvs
      rw [if_pos ⟨m.l, m.sd⟩]
      exact Int.le_refl _
  rw [am_max_eq]
  rcases (show k % 2 = 0 ∨ k % 2 = 1 by omega) with w | w <;> rw [w] at s <;> split <;> omega
theorem gp_cnt_lay (hg : gm_g R C A) (hL : 0 ≤ gm_L A lk) {n : Int} (hn : 0 ≤ n ∧ n ≤ 12) {M : Int} (hM : am_max (gm_Ls A lk 0) (gm_Ls A lk 1) = M) : ∀ d : Nat, gp_top A lk (n - 1) + d ≤ gp_top A lk n → gp_cnt A C lk U ((gp_top A lk (n - 1)).toNat + d) - gp_cnt A C lk U (gp_top A lk (n - 1)).toNat ≤ d * M := by
  intro d
  have m2 := gp_top_mono hL (m := n) (n := 12) (by omega)
  have nn := gp_top_nn (A := A) (lk := lk) (n - 1)
  induction d with
  | zero => intro _; rw [Nat.add_zero]; omega
  | succ d ih =>
    intro h
    have := ih (by omega)
    rw [← Nat.add_assoc, gp_cnt_s]
    have s := gp_N_side hg (lk := lk) (U := U) (k := (((gp_top A lk (n - 1)).toNat + d : Nat) : Int)) (by omega) (by omega)
    rw [hM] at s
    have e : ((d + 1 : Nat) : Int) * M = (d : Int) * M + M := by rw [Int.natCast_add, Int.add_mul]; omega
    omega
/-- and of one layer -/
theorem gp_cnt_one (hg : gm_g R C A) (hL : 1 ≤ gm_L A lk) {n m : Int} (hn : 0 ≤ n ∧ n ≤ m) (hm : m ≤ 12) (hw : 2 * gW (gm_L A lk) m * am_max (gm_Ls A lk 0) (gm_Ls A lk 1) ≤ 200000) {a : Nat} (ha : gp_top A lk (n - 1) ≤ a) (hb : (a : Int) ≤ gp_top A lk n) : gp_cnt A C lk U a - gp_cnt A C lk U (gp_top A lk (n - 1)).toNat ≤ 200000 := by
  have hA := hg.A
  have nn := gp_top_nn (A := A) (lk := lk) (n - 1)
  have := gp_cnt_lay hg (lk := lk) (U := U) (by omega) (n := n) (by omega) rfl (a - (gp_top A lk (n - 1)).toNat) (by omega)
  rw [show (gp_top A lk (n - 1)).toNat + (a - (gp_top A lk (n - 1)).toNat) = a by omega] at this
  have hM : 0 ≤ am_max (gm_Ls A lk 0) (gm_Ls A lk 1) := by
    have := gm_Ls_b (A := A) (by omega) lk 0
    have := gm_Ls_b (A := A) (by omega) lk 1
    rw [am_max_eq]; split <;> omega
  have e1 := gW_s (m := gm_L A lk) (k := n) (by omega) hn.1
  have e2 := gW_mono (m := gm_L A lk) (k := n) (k' := m) hL hn.2
  have le : ((a - (gp_top A lk (n - 1)).toNat : Nat) : Int) ≤ 2 * gW (gm_L A lk) m := by unfold gp_top at *; omega
  have := Int.mul_le_mul_of_nonneg_right le hM
  omega
end BOUND
