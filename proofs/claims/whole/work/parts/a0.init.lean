-- WHAT THE CONSTRUCTORS LEAVE (made by gen_init.py)
theorem ev_if {ρ : Type} {c : Prop} {d : Decidable c} {t e : Option ρ} {r : ρ} (hc : c) (h : t = some r) : @ite _ c d t e = some r := by rw [if_pos hc]; exact h
theorem ev_nw {ρ : Type} {n : Nat} {kd : Nat × Int} {K : am_K} {I : am_I} {F : am_F} {t : Nat → am_K → am_I → am_F → Option ρ} {r : ρ} (h : t (n + 1) (am_u1 K n kd) (am_zr I n 0) (am_zr F n 0) = some r) : am_nw n kd K I F t = some r := h
theorem ev_nm {ρ : Type} {n : Nat} {x y : Int} {K : am_K} {I : am_I} {F : am_F} {t : Nat → am_K → am_I → am_F → Option ρ} {r : ρ} (h : t (n + 1 + x.toNat) (am_kb K n x y) (am_zb I n x) (am_fb F n x) = some r) : am_nm n x y K I F t = some r := h
theorem ev_lt {α ρ : Type} {v : α} {f : α → Option ρ} {r : ρ} (h : f v = some r) : am_lt v f = some r := h
theorem ev_mo {c z : Nat} {x : Option am_A} {r : am_A} (hc : Nat.ble c (am_ac1 r) = true) (hz : Nat.ble z (am_az1 r) = true) (h : x = some r) : am_mo c z x = some r := by
  rw [h]
  unfold am_mo
  dsimp only
  rw [if_pos ⟨Nat.le_of_ble_eq_true hc, Nat.le_of_ble_eq_true hz⟩]
theorem ev_ca {ρ : Type} {x : Option am_A} {v : Int} {n : Nat} {K : am_K} {I : am_I} {F : am_F} {c z : Nat} {t : Int → Nat → am_K → am_I → am_F → Nat → Nat → Option ρ} {r : ρ} (h1 : x = some (v, n, K, I, F, c, z)) (h : t v n K I F c z = some r) : am_ca x t = some r := by rw [h1]; exact h
theorem ev_cl {ρ : Type} {x : Option (Int × am_I)} {v : Int} {I : am_I} {t : Int → am_I → Option ρ} {r : ρ} (h1 : x = some (v, I)) (h : t v I = some r) : am_cl x t = some r := by rw [h1]; exact h
theorem eX8 {N a n : Nat} {K : am_K} {I : am_I} {F : am_F} (h : a ≠ 0) : X8_init N a n K I F = some (0, n, K, I, F, 0, 0) := if_pos h
theorem eX5 {N a n : Nat} {K : am_K} {I : am_I} {F : am_F} (h : a ≠ 0) : X5_init N a n K I F = some (0, n, K, I, F, 0, 0) := if_pos h
/-- the table of ways -/
def gwr (x : Int) : Int := if 0 ≤ x ∧ x < 442 then gW (x / 13) (x % 13) else 0
def gwx (t x : Int) : Int := if 0 ≤ x ∧ x < t then gW (x / 13) (x % 13) else 0
theorem gwx_le {x : Int} (h0 : 0 ≤ x) (h1 : x < 442) : 0 ≤ gW (x / 13) (x % 13) ∧ gW (x / 13) (x % 13) ≤ 140676848445 := ⟨gW_nn _ _, gW_le (by omega) (by omega)⟩
theorem gwx_s {x : Int} (h0 : 13 ≤ x) (h1 : x < 442) : gW (x / 13) (x % 13) = gW ((x - 13) / 13) ((x - 13) % 13) + (if x % 13 = 0 then 0 else gW ((x - 1) / 13) ((x - 1) % 13)) := by
  have e1 : (x - 13) / 13 = x / 13 - 1 := by omega
  have e2 : (x - 13) % 13 = x % 13 := by omega
  rw [e1, e2]
  have e3 := gW_s (m := x / 13 - 1) (k := x % 13) (by omega) (by omega)
  rw [show x / 13 - 1 + 1 = x / 13 by omega] at e3
  by_cases g : x % 13 = 0
  · rw [if_pos g, e3, g, gW_neg (show (0 : Int) - 1 < 0 by omega)]; omega
  · rw [if_neg g, e3, show (x - 1) / 13 = x / 13 by omega, show (x - 1) % 13 = x % 13 - 1 by omega]; omega
theorem eX3_l {N n : Nat} {K : am_K} {F : am_F} {c z : Nat} (hk : K 57 = (102, 442)) (hF : F 56 1 = 57) (h56 : (K 56).1 = 3) : ∀ (d f : Nat) (I : am_I) (x : Int), 442 - x = (d : Int) → d < f → 13 ≤ x → I 57 = gwx x → X3_init_h36 N 56 f n K I F c z x = some (0, n, K, am_row I 57 gwr, F, c, z) := by
  intro d
  induction d with
  | zero =>
    intro f I x hd hf h0 hI
    obtain ⟨f, rfl⟩ : ∃ g, f = g + 1 := ⟨f - 1, by omega⟩
    show X3_init_s36 N 56 (X3_init_h36 N 56 f) n K I F c z x = _
    unfold X3_init_s36
    refine ev_mo (Nat.ble_eq_true_of_le (Nat.le_refl _)) (Nat.ble_eq_true_of_le (Nat.le_refl _)) ?_
    rw [hF, hk, if_pos h56, if_pos (show ((102, 442) : Nat × Int).1 = 102 from rfl), if_pos (by decide), if_neg (show ¬ x < ((102, 442) : Nat × Int).2 by dsimp only; omega)]
    have e : am_row I 57 gwr = I := by
      funext b j
      by_cases g : b = 57
      · rw [g, am_row_s, hI]
        have : x = 442 := by omega
        rw [this]; rfl
      · rw [am_row_n g]
    rw [e]
  | succ d ih =>
    intro f I x hd hf h0 hI
    obtain ⟨f, rfl⟩ : ∃ g, f = g + 1 := ⟨f - 1, by omega⟩
    have b1 := gwx_le (x := x - 13) (by omega) (by omega)
    have b2 := gwx_le (x := x - 1) (by omega) (by omega)
    have b3 := gwx_s (x := x) h0 (by omega)
    have v1 : I 57 (x - 13) = gW ((x - 13) / 13) ((x - 13) % 13) := by rw [hI]; unfold gwx; rw [if_pos (by omega)]
    have v2 : I 57 (x - 1) = gW ((x - 1) / 13) ((x - 1) % 13) := by rw [hI]; unfold gwx; rw [if_pos (by omega)]
    have hr : am_irem x 13 = x % 13 := nb_irem ⟨by omega, by omega⟩ ⟨by decide, by decide⟩ (by omega) (by decide)
    have fin : X3_init_h36 N 56 f n K (am_u2 I 57 x (gW (x / 13) (x % 13))) F c z (x + 1) = some (0, n, K, am_row I 57 gwr, F, c, z) := by
      rw [ih f (am_u2 I 57 x (gW (x / 13) (x % 13))) (x + 1) (by omega) (by omega) (by omega) ?_]
      · have e : am_row (am_u2 I 57 x (gW (x / 13) (x % 13))) 57 gwr = am_row I 57 gwr := by
          funext b j
          by_cases g : b = 57
          · rw [g, am_row_s, am_row_s]
          · rw [am_row_n g, am_row_n g, am_u2_a g]
        rw [e]
      · funext j
        by_cases g : j = x
        · rw [g, am_u2_s]; unfold gwx; rw [if_pos (by omega)]
        · rw [am_u2_k g, hI]; unfold gwx
          by_cases g2 : 0 ≤ j ∧ j < x
          · rw [if_pos g2, if_pos (by omega)]
          · rw [if_neg g2, if_neg (by omega)]
    have stp : ∀ s0 s1 : Int, s1 + s0 = gW (x / 13) (x % 13) → X3_init_b78 N 56 (X3_init_h36 N 56 f) n K I F c z x s0 s1 x 57 = some (0, n, K, am_row I 57 gwr, F, c, z) := fun s0 s1 hs => by
      unfold X3_init_b78
      refine ev_mo (Nat.ble_eq_true_of_le (Nat.le_refl _)) (Nat.ble_eq_true_of_le (Nat.le_refl _)) ?_
      rw [hk, if_pos (show ((102, 442) : Nat × Int).1 = 102 from rfl), if_pos (by decide), if_pos (show (0 : Int) ≤ x ∧ x < ((102, 442) : Nat × Int).2 by dsimp only; omega)]
      unfold am_lt
      dsimp only
      have b4 := gwx_le (x := x) (by omega) (by omega)
      rw [if_pos (show am_inI (x + 1) from ⟨by omega, by omega⟩), hs, nb_wL (by omega)]
      exact fin
    show X3_init_s36 N 56 (X3_init_h36 N 56 f) n K I F c z x = _
    unfold X3_init_s36
    refine ev_mo (Nat.ble_eq_true_of_le (Nat.le_refl _)) (Nat.ble_eq_true_of_le (Nat.le_refl _)) ?_
    rw [hF, hk, if_pos h56, if_pos (show ((102, 442) : Nat × Int).1 = 102 from rfl), if_pos (by decide), if_pos (show x < ((102, 442) : Nat × Int).2 by dsimp only; omega), if_pos (show am_inI (x - 13) from ⟨by omega, by omega⟩), if_pos (show (0 : Int) ≤ x - 13 ∧ x - 13 < ((102, 442) : Nat × Int).2 by dsimp only; omega), if_pos (by decide), hr]
    by_cases g : x % 13 = 0
    · rw [if_pos g]
      rw [if_pos g] at b3
      exact stp _ _ (by rw [v1]; omega)
    · rw [if_neg g, if_pos (show am_inI (x - 1) from ⟨by omega, by omega⟩), if_pos (show (0 : Int) ≤ x - 1 ∧ x - 1 < ((102, 442) : Nat × Int).2 by dsimp only; omega)]
      rw [if_neg g] at b3
      exact stp _ _ (by rw [v1, v2]; omega)
theorem eX3_h {N n : Nat} {K : am_K} {I : am_I} {F : am_F} {c z : Nat} (hN : 1000 < N) (hI : I 57 = am_u2 (am_zr I 57 0) 57 0 1 57) (hk : K 57 = (102, 442)) (hF : F 56 1 = 57) (h56 : (K 56).1 = 3) : X3_init_h36 N 56 N n K I F c z 13 = some (0, n, K, am_row I 57 gwr, F, c, z) := by
  refine eX3_l hk hF h56 429 N I 13 (by omega) (by omega) (by omega) ?_
  rw [hI]
  funext j
  unfold gwx
  by_cases g : j = 0
  · rw [g, am_u2_s, if_pos (by decide)]; exact (gW_n0 0).symm
  · rw [am_u2_k g, am_zr_s]
    by_cases g2 : 0 ≤ j ∧ j < 13
    · rw [if_pos g2, show j / 13 = 0 by omega, show j % 13 = j by omega, gW_0 (by omega)]
    · rw [if_neg g2]
def kX1 (K : am_K) : am_K := am_u1 (am_u1 (am_u1 (am_u1 (am_u1 (am_u1 (am_u1 (am_u1 (am_u1 (am_u1 (am_u1 K 4 (101, 32)) 5 (100, 32)) 6 (100, 2)) 7 (100, 2)) 8 (100, 2)) 9 (100, 32)) 10 (100, 32)) 11 (100, 32)) 12 (100, 32)) 13 (100, 32)) 14 (100, 32)
def iX1 (I : am_I) : am_I := am_zr (am_zr (am_zr (am_zr (am_zr (am_zr (am_zr (am_zr (am_zr (am_zr (am_zr I 4 0) 5 0) 6 0) 7 0) 8 0) 9 0) 10 0) 11 0) 12 0) 13 0) 14 0
def fX1 (F : am_F) : am_F := am_u2 (am_zr (am_u2 (am_zr (am_u2 (am_zr (am_u2 (am_zr (am_u2 (am_zr (am_u2 (am_zr (am_u2 (am_zr (am_u2 (am_zr (am_u2 (am_zr (am_u2 (am_zr (am_u2 (am_zr F 4 0) 3 4 4) 5 0) 3 5 5) 6 0) 3 6 6) 7 0) 3 7 7) 8 0) 3 8 8) 9 0) 3 9 9) 10 0) 3 10 10) 11 0) 3 11 11) 12 0) 3 12 12) 13 0) 3 13 13) 14 0) 3 14 14
theorem eX1 {N : Nat} {K : am_K} {I : am_I} {F : am_F} (h : (K 3).1 = 1) : X1_init N 3 4 K I F = some (0, 15, kX1 K, iX1 I, fX1 F, 11, 262) := by
  unfold X1_init
  refine ev_if (by first | exact h | decide | exact rfl | exact (show (57 : Nat) ≠ 1 by decide) | exact ⟨by decide, (show (0 : Int) < 2 by decide)⟩ | exact ⟨by decide, (show (1 : Int) < 2 by decide)⟩ | exact ⟨by decide, (show (0 : Int) < 442 by decide)⟩) ?_
  refine ev_if (by first | exact h | decide | exact rfl | exact (show (57 : Nat) ≠ 1 by decide) | exact ⟨by decide, (show (0 : Int) < 2 by decide)⟩ | exact ⟨by decide, (show (1 : Int) < 2 by decide)⟩ | exact ⟨by decide, (show (0 : Int) < 442 by decide)⟩) ?_
  refine ev_nw ?_
  refine ev_mo rfl rfl ?_
  refine ev_if (by first | exact h | decide | exact rfl | exact (show (57 : Nat) ≠ 1 by decide) | exact ⟨by decide, (show (0 : Int) < 2 by decide)⟩ | exact ⟨by decide, (show (1 : Int) < 2 by decide)⟩ | exact ⟨by decide, (show (0 : Int) < 442 by decide)⟩) ?_
  refine ev_lt ?_
  refine ev_nw ?_
  refine ev_mo rfl rfl ?_
  refine ev_if (by first | exact h | decide | exact rfl | exact (show (57 : Nat) ≠ 1 by decide) | exact ⟨by decide, (show (0 : Int) < 2 by decide)⟩ | exact ⟨by decide, (show (1 : Int) < 2 by decide)⟩ | exact ⟨by decide, (show (0 : Int) < 442 by decide)⟩) ?_
  refine ev_lt ?_
  refine ev_if (by first | exact h | decide | exact rfl | exact (show (57 : Nat) ≠ 1 by decide) | exact ⟨by decide, (show (0 : Int) < 2 by decide)⟩ | exact ⟨by decide, (show (1 : Int) < 2 by decide)⟩ | exact ⟨by decide, (show (0 : Int) < 442 by decide)⟩) ?_
  refine ev_nw ?_
  refine ev_mo rfl rfl ?_
  refine ev_if (by first | exact h | decide | exact rfl | exact (show (57 : Nat) ≠ 1 by decide) | exact ⟨by decide, (show (0 : Int) < 2 by decide)⟩ | exact ⟨by decide, (show (1 : Int) < 2 by decide)⟩ | exact ⟨by decide, (show (0 : Int) < 442 by decide)⟩) ?_
  refine ev_lt ?_
  refine ev_nw ?_
  refine ev_mo rfl rfl ?_
  refine ev_if (by first | exact h | decide | exact rfl | exact (show (57 : Nat) ≠ 1 by decide) | exact ⟨by decide, (show (0 : Int) < 2 by decide)⟩ | exact ⟨by decide, (show (1 : Int) < 2 by decide)⟩ | exact ⟨by decide, (show (0 : Int) < 442 by decide)⟩) ?_
  refine ev_lt ?_
  refine ev_nw ?_
  refine ev_mo rfl rfl ?_
  refine ev_if (by first | exact h | decide | exact rfl | exact (show (57 : Nat) ≠ 1 by decide) | exact ⟨by decide, (show (0 : Int) < 2 by decide)⟩ | exact ⟨by decide, (show (1 : Int) < 2 by decide)⟩ | exact ⟨by decide, (show (0 : Int) < 442 by decide)⟩) ?_
  refine ev_lt ?_
  refine ev_nw ?_
  refine ev_mo rfl rfl ?_
  refine ev_if (by first | exact h | decide | exact rfl | exact (show (57 : Nat) ≠ 1 by decide) | exact ⟨by decide, (show (0 : Int) < 2 by decide)⟩ | exact ⟨by decide, (show (1 : Int) < 2 by decide)⟩ | exact ⟨by decide, (show (0 : Int) < 442 by decide)⟩) ?_
  refine ev_lt ?_
  refine ev_nw ?_
  refine ev_mo rfl rfl ?_
  refine ev_if (by first | exact h | decide | exact rfl | exact (show (57 : Nat) ≠ 1 by decide) | exact ⟨by decide, (show (0 : Int) < 2 by decide)⟩ | exact ⟨by decide, (show (1 : Int) < 2 by decide)⟩ | exact ⟨by decide, (show (0 : Int) < 442 by decide)⟩) ?_
  refine ev_lt ?_
  refine ev_nw ?_
  refine ev_mo rfl rfl ?_
  refine ev_if (by first | exact h | decide | exact rfl | exact (show (57 : Nat) ≠ 1 by decide) | exact ⟨by decide, (show (0 : Int) < 2 by decide)⟩ | exact ⟨by decide, (show (1 : Int) < 2 by decide)⟩ | exact ⟨by decide, (show (0 : Int) < 442 by decide)⟩) ?_
  refine ev_lt ?_
  refine ev_nw ?_
  refine ev_mo rfl rfl ?_
  refine ev_if (by first | exact h | decide | exact rfl | exact (show (57 : Nat) ≠ 1 by decide) | exact ⟨by decide, (show (0 : Int) < 2 by decide)⟩ | exact ⟨by decide, (show (1 : Int) < 2 by decide)⟩ | exact ⟨by decide, (show (0 : Int) < 442 by decide)⟩) ?_
  refine ev_lt ?_
  refine ev_nw ?_
  refine ev_mo rfl rfl ?_
  refine ev_if (by first | exact h | decide | exact rfl | exact (show (57 : Nat) ≠ 1 by decide) | exact ⟨by decide, (show (0 : Int) < 2 by decide)⟩ | exact ⟨by decide, (show (1 : Int) < 2 by decide)⟩ | exact ⟨by decide, (show (0 : Int) < 442 by decide)⟩) ?_
  refine ev_lt ?_
  refine ev_nw ?_
  refine ev_mo rfl rfl ?_
  refine ev_if (by first | exact h | decide | exact rfl | exact (show (57 : Nat) ≠ 1 by decide) | exact ⟨by decide, (show (0 : Int) < 2 by decide)⟩ | exact ⟨by decide, (show (1 : Int) < 2 by decide)⟩ | exact ⟨by decide, (show (0 : Int) < 442 by decide)⟩) ?_
  refine ev_lt ?_
  exact rfl
def kX6 (K : am_K) : am_K := am_u1 (am_u1 K 17 (100, 32)) 18 (100, 2)
def iX6 (I : am_I) : am_I := am_zr (am_zr I 17 0) 18 0
def fX6 (F : am_F) : am_F := am_u2 (am_zr (am_u2 (am_zr F 17 0) 16 0 17) 18 0) 16 1 18
theorem eX6 {N : Nat} {K : am_K} {I : am_I} {F : am_F} (h : (K 16).1 = 6) : X6_init N 16 17 K I F = some (0, 19, kX6 K, iX6 I, fX6 F, 2, 34) := by
  unfold X6_init
  refine ev_if (by first | exact h | decide | exact rfl | exact (show (57 : Nat) ≠ 1 by decide) | exact ⟨by decide, (show (0 : Int) < 2 by decide)⟩ | exact ⟨by decide, (show (1 : Int) < 2 by decide)⟩ | exact ⟨by decide, (show (0 : Int) < 442 by decide)⟩) ?_
  refine ev_if (by first | exact h | decide | exact rfl | exact (show (57 : Nat) ≠ 1 by decide) | exact ⟨by decide, (show (0 : Int) < 2 by decide)⟩ | exact ⟨by decide, (show (1 : Int) < 2 by decide)⟩ | exact ⟨by decide, (show (0 : Int) < 442 by decide)⟩) ?_
  refine ev_nw ?_
  refine ev_mo rfl rfl ?_
  refine ev_if (by first | exact h | decide | exact rfl | exact (show (57 : Nat) ≠ 1 by decide) | exact ⟨by decide, (show (0 : Int) < 2 by decide)⟩ | exact ⟨by decide, (show (1 : Int) < 2 by decide)⟩ | exact ⟨by decide, (show (0 : Int) < 442 by decide)⟩) ?_
  refine ev_lt ?_
  refine ev_if (by first | exact h | decide | exact rfl | exact (show (57 : Nat) ≠ 1 by decide) | exact ⟨by decide, (show (0 : Int) < 2 by decide)⟩ | exact ⟨by decide, (show (1 : Int) < 2 by decide)⟩ | exact ⟨by decide, (show (0 : Int) < 442 by decide)⟩) ?_
  refine ev_nw ?_
  refine ev_mo rfl rfl ?_
  refine ev_if (by first | exact h | decide | exact rfl | exact (show (57 : Nat) ≠ 1 by decide) | exact ⟨by decide, (show (0 : Int) < 2 by decide)⟩ | exact ⟨by decide, (show (1 : Int) < 2 by decide)⟩ | exact ⟨by decide, (show (0 : Int) < 442 by decide)⟩) ?_
  refine ev_lt ?_
  exact rfl
def kX10 (K : am_K) : am_K := am_u1 (am_kb (am_u1 (am_u1 K 20 (101, 32)) 21 (100, 32)) 22 32 32) 55 (100, 32)
def iX10 (I : am_I) : am_I := am_zr (am_zb (am_zr (am_zr I 20 0) 21 0) 22 32) 55 0
def fX10 (F : am_F) (a1 : Nat) (a2 : Nat) : am_F := am_u2 (am_u2 (am_u2 (am_zr (am_u2 (am_fb (am_u2 (am_zr (am_u2 (am_zr F 20 0) 19 0 20) 21 0) 19 1 21) 22 32) 19 2 22) 55 0) 19 4 55) 19 5 a1) 19 6 a2
theorem eX10 {N : Nat} {K : am_K} {I : am_I} {F : am_F} {a1 : Nat} {a2 : Nat} (h : (K 19).1 = 10) : X10_init N 19 20 K I F a1 a2 = some (0, 56, kX10 K, iX10 I, fX10 F a1 a2, 36, 1152) := by
  unfold X10_init
  refine ev_if (by first | exact h | decide | exact rfl | exact (show (57 : Nat) ≠ 1 by decide) | exact ⟨by decide, (show (0 : Int) < 2 by decide)⟩ | exact ⟨by decide, (show (1 : Int) < 2 by decide)⟩ | exact ⟨by decide, (show (0 : Int) < 442 by decide)⟩) ?_
  refine ev_if (by first | exact h | decide | exact rfl | exact (show (57 : Nat) ≠ 1 by decide) | exact ⟨by decide, (show (0 : Int) < 2 by decide)⟩ | exact ⟨by decide, (show (1 : Int) < 2 by decide)⟩ | exact ⟨by decide, (show (0 : Int) < 442 by decide)⟩) ?_
  refine ev_nw ?_
  refine ev_mo rfl rfl ?_
  refine ev_if (by first | exact h | decide | exact rfl | exact (show (57 : Nat) ≠ 1 by decide) | exact ⟨by decide, (show (0 : Int) < 2 by decide)⟩ | exact ⟨by decide, (show (1 : Int) < 2 by decide)⟩ | exact ⟨by decide, (show (0 : Int) < 442 by decide)⟩) ?_
  refine ev_lt ?_
  refine ev_nw ?_
  refine ev_mo rfl rfl ?_
  refine ev_if (by first | exact h | decide | exact rfl | exact (show (57 : Nat) ≠ 1 by decide) | exact ⟨by decide, (show (0 : Int) < 2 by decide)⟩ | exact ⟨by decide, (show (1 : Int) < 2 by decide)⟩ | exact ⟨by decide, (show (0 : Int) < 442 by decide)⟩) ?_
  refine ev_lt ?_
  refine ev_nm ?_
  refine ev_mo rfl rfl ?_
  refine ev_if (by first | exact h | decide | exact rfl | exact (show (57 : Nat) ≠ 1 by decide) | exact ⟨by decide, (show (0 : Int) < 2 by decide)⟩ | exact ⟨by decide, (show (1 : Int) < 2 by decide)⟩ | exact ⟨by decide, (show (0 : Int) < 442 by decide)⟩) ?_
  refine ev_lt ?_
  refine ev_nw ?_
  refine ev_mo rfl rfl ?_
  refine ev_if (by first | exact h | decide | exact rfl | exact (show (57 : Nat) ≠ 1 by decide) | exact ⟨by decide, (show (0 : Int) < 2 by decide)⟩ | exact ⟨by decide, (show (1 : Int) < 2 by decide)⟩ | exact ⟨by decide, (show (0 : Int) < 442 by decide)⟩) ?_
  refine ev_lt ?_
  refine ev_lt ?_
  refine ev_lt ?_
  exact rfl
def kX3 (K : am_K) : am_K := am_u1 (am_u1 K 57 (102, 442)) 58 (100, 32)
def iX3 (I : am_I) : am_I := am_row (am_u2 (am_zr (am_zr I 57 0) 58 0) 57 0 1) 57 gwr
def fX3 (F : am_F) (a1 : Nat) : am_F := am_u2 (am_u2 (am_zr (am_u2 (am_zr F 57 0) 56 1 57) 58 0) 56 2 58) 56 0 a1
theorem eX3 {N : Nat} {K : am_K} {I : am_I} {F : am_F} {a1 : Nat} (hN : 1000 < N) (h : (K 56).1 = 3) : X3_init N 56 57 K I F a1 = some (0, 59, kX3 K, iX3 I, fX3 F a1, 2, 474) := by
  unfold X3_init
  refine ev_if (by first | exact h | decide | exact rfl | exact (show (57 : Nat) ≠ 1 by decide) | exact ⟨by decide, (show (0 : Int) < 2 by decide)⟩ | exact ⟨by decide, (show (1 : Int) < 2 by decide)⟩ | exact ⟨by decide, (show (0 : Int) < 442 by decide)⟩) ?_
  refine ev_if (by first | exact h | decide | exact rfl | exact (show (57 : Nat) ≠ 1 by decide) | exact ⟨by decide, (show (0 : Int) < 2 by decide)⟩ | exact ⟨by decide, (show (1 : Int) < 2 by decide)⟩ | exact ⟨by decide, (show (0 : Int) < 442 by decide)⟩) ?_
  refine ev_nw ?_
  refine ev_mo rfl rfl ?_
  refine ev_if (by first | exact h | decide | exact rfl | exact (show (57 : Nat) ≠ 1 by decide) | exact ⟨by decide, (show (0 : Int) < 2 by decide)⟩ | exact ⟨by decide, (show (1 : Int) < 2 by decide)⟩ | exact ⟨by decide, (show (0 : Int) < 442 by decide)⟩) ?_
  refine ev_lt ?_
  refine ev_if (by first | exact h | decide | exact rfl | exact (show (57 : Nat) ≠ 1 by decide) | exact ⟨by decide, (show (0 : Int) < 2 by decide)⟩ | exact ⟨by decide, (show (1 : Int) < 2 by decide)⟩ | exact ⟨by decide, (show (0 : Int) < 442 by decide)⟩) ?_
  refine ev_nw ?_
  refine ev_mo rfl rfl ?_
  refine ev_if (by first | exact h | decide | exact rfl | exact (show (57 : Nat) ≠ 1 by decide) | exact ⟨by decide, (show (0 : Int) < 2 by decide)⟩ | exact ⟨by decide, (show (1 : Int) < 2 by decide)⟩ | exact ⟨by decide, (show (0 : Int) < 442 by decide)⟩) ?_
  refine ev_lt ?_
  refine ev_lt ?_
  refine ev_if (by first | exact h | decide | exact rfl | exact (show (57 : Nat) ≠ 1 by decide) | exact ⟨by decide, (show (0 : Int) < 2 by decide)⟩ | exact ⟨by decide, (show (1 : Int) < 2 by decide)⟩ | exact ⟨by decide, (show (0 : Int) < 442 by decide)⟩) ?_
  refine ev_if (by first | exact h | decide | exact rfl | exact (show (57 : Nat) ≠ 1 by decide) | exact ⟨by decide, (show (0 : Int) < 2 by decide)⟩ | exact ⟨by decide, (show (1 : Int) < 2 by decide)⟩ | exact ⟨by decide, (show (0 : Int) < 442 by decide)⟩) ?_
  refine ev_if (by first | exact h | decide | exact rfl | exact (show (57 : Nat) ≠ 1 by decide) | exact ⟨by decide, (show (0 : Int) < 2 by decide)⟩ | exact ⟨by decide, (show (1 : Int) < 2 by decide)⟩ | exact ⟨by decide, (show (0 : Int) < 442 by decide)⟩) ?_
  refine ev_lt ?_
  exact eX3_h hN rfl rfl rfl h
def kX4 (K : am_K) : am_K := am_u1 (am_u1 K 60 (100, 16)) 61 (100, 544)
def iX4 (I : am_I) : am_I := am_zr (am_zr I 60 0) 61 0
def fX4 (F : am_F) : am_F := am_u2 (am_zr (am_u2 (am_zr F 60 0) 59 2 60) 61 0) 59 3 61
theorem eX4 {N : Nat} {K : am_K} {I : am_I} {F : am_F} (h : (K 59).1 = 4) : X4_init N 59 60 K I F = some (0, 62, kX4 K, iX4 I, fX4 F, 2, 560) := by
  unfold X4_init
  refine ev_if (by first | exact h | decide | exact rfl | exact (show (57 : Nat) ≠ 1 by decide) | exact ⟨by decide, (show (0 : Int) < 2 by decide)⟩ | exact ⟨by decide, (show (1 : Int) < 2 by decide)⟩ | exact ⟨by decide, (show (0 : Int) < 442 by decide)⟩) ?_
  refine ev_if (by first | exact h | decide | exact rfl | exact (show (57 : Nat) ≠ 1 by decide) | exact ⟨by decide, (show (0 : Int) < 2 by decide)⟩ | exact ⟨by decide, (show (1 : Int) < 2 by decide)⟩ | exact ⟨by decide, (show (0 : Int) < 442 by decide)⟩) ?_
  refine ev_nw ?_
  refine ev_mo rfl rfl ?_
  refine ev_if (by first | exact h | decide | exact rfl | exact (show (57 : Nat) ≠ 1 by decide) | exact ⟨by decide, (show (0 : Int) < 2 by decide)⟩ | exact ⟨by decide, (show (1 : Int) < 2 by decide)⟩ | exact ⟨by decide, (show (0 : Int) < 442 by decide)⟩) ?_
  refine ev_lt ?_
  refine ev_if (by first | exact h | decide | exact rfl | exact (show (57 : Nat) ≠ 1 by decide) | exact ⟨by decide, (show (0 : Int) < 2 by decide)⟩ | exact ⟨by decide, (show (1 : Int) < 2 by decide)⟩ | exact ⟨by decide, (show (0 : Int) < 442 by decide)⟩) ?_
  refine ev_nw ?_
  refine ev_mo rfl rfl ?_
  refine ev_if (by first | exact h | decide | exact rfl | exact (show (57 : Nat) ≠ 1 by decide) | exact ⟨by decide, (show (0 : Int) < 2 by decide)⟩ | exact ⟨by decide, (show (1 : Int) < 2 by decide)⟩ | exact ⟨by decide, (show (0 : Int) < 442 by decide)⟩) ?_
  refine ev_lt ?_
  exact rfl
def kX0 (K : am_K) : am_K := am_u1 (am_u1 (am_u1 (am_u1 K 64 (100, 0)) 65 (100, 1)) 66 (100, 0)) 67 (100, 32)
def iX0 (I : am_I) : am_I := am_zr (am_zr (am_zr (am_zr I 64 0) 65 0) 66 0) 67 0
def fX0 (F : am_F) (a1 : Nat) (a2 : Nat) (a3 : Nat) (a4 : Nat) : am_F := am_u2 (am_u2 (am_u2 (am_u2 (am_u2 (am_zr (am_u2 (am_zr (am_u2 (am_zr (am_u2 (am_zr F 64 0) 63 0 64) 65 0) 63 1 65) 66 0) 63 2 66) 67 0) 63 4 67) 63 5 a1) 63 6 a2) 63 7 a3) 63 8 a4
theorem eX0 {N : Nat} {K : am_K} {I : am_I} {F : am_F} {a1 : Nat} {a2 : Nat} {a3 : Nat} {a4 : Nat} (h : (K 63).1 = 0) : X0_init N 63 64 K I F a1 a2 a3 a4 = some (0, 68, kX0 K, iX0 I, fX0 F a1 a2 a3 a4, 4, 33) := by
  unfold X0_init
  refine ev_if (by first | exact h | decide | exact rfl | exact (show (57 : Nat) ≠ 1 by decide) | exact ⟨by decide, (show (0 : Int) < 2 by decide)⟩ | exact ⟨by decide, (show (1 : Int) < 2 by decide)⟩ | exact ⟨by decide, (show (0 : Int) < 442 by decide)⟩) ?_
  refine ev_if (by first | exact h | decide | exact rfl | exact (show (57 : Nat) ≠ 1 by decide) | exact ⟨by decide, (show (0 : Int) < 2 by decide)⟩ | exact ⟨by decide, (show (1 : Int) < 2 by decide)⟩ | exact ⟨by decide, (show (0 : Int) < 442 by decide)⟩) ?_
  refine ev_nw ?_
  refine ev_mo rfl rfl ?_
  refine ev_if (by first | exact h | decide | exact rfl | exact (show (57 : Nat) ≠ 1 by decide) | exact ⟨by decide, (show (0 : Int) < 2 by decide)⟩ | exact ⟨by decide, (show (1 : Int) < 2 by decide)⟩ | exact ⟨by decide, (show (0 : Int) < 442 by decide)⟩) ?_
  refine ev_lt ?_
  refine ev_if (by first | exact h | decide | exact rfl | exact (show (57 : Nat) ≠ 1 by decide) | exact ⟨by decide, (show (0 : Int) < 2 by decide)⟩ | exact ⟨by decide, (show (1 : Int) < 2 by decide)⟩ | exact ⟨by decide, (show (0 : Int) < 442 by decide)⟩) ?_
  refine ev_nw ?_
  refine ev_mo rfl rfl ?_
  refine ev_if (by first | exact h | decide | exact rfl | exact (show (57 : Nat) ≠ 1 by decide) | exact ⟨by decide, (show (0 : Int) < 2 by decide)⟩ | exact ⟨by decide, (show (1 : Int) < 2 by decide)⟩ | exact ⟨by decide, (show (0 : Int) < 442 by decide)⟩) ?_
  refine ev_lt ?_
  refine ev_nw ?_
  refine ev_mo rfl rfl ?_
  refine ev_if (by first | exact h | decide | exact rfl | exact (show (57 : Nat) ≠ 1 by decide) | exact ⟨by decide, (show (0 : Int) < 2 by decide)⟩ | exact ⟨by decide, (show (1 : Int) < 2 by decide)⟩ | exact ⟨by decide, (show (0 : Int) < 442 by decide)⟩) ?_
  refine ev_lt ?_
  refine ev_if (by first | exact h | decide | exact rfl | exact (show (57 : Nat) ≠ 1 by decide) | exact ⟨by decide, (show (0 : Int) < 2 by decide)⟩ | exact ⟨by decide, (show (1 : Int) < 2 by decide)⟩ | exact ⟨by decide, (show (0 : Int) < 442 by decide)⟩) ?_
  refine ev_nw ?_
  refine ev_mo rfl rfl ?_
  refine ev_if (by first | exact h | decide | exact rfl | exact (show (57 : Nat) ≠ 1 by decide) | exact ⟨by decide, (show (0 : Int) < 2 by decide)⟩ | exact ⟨by decide, (show (1 : Int) < 2 by decide)⟩ | exact ⟨by decide, (show (0 : Int) < 442 by decide)⟩) ?_
  refine ev_lt ?_
  refine ev_lt ?_
  refine ev_lt ?_
  refine ev_lt ?_
  refine ev_lt ?_
  exact rfl
def kX7 (K : am_K) : am_K := am_u1 (am_u1 (am_u1 (am_u1 (am_u1 (am_u1 K 73 (100, 0)) 74 (100, 0)) 75 (100, 0)) 76 (100, 0)) 77 (100, 1)) 78 (100, 0)
def iX7 (I : am_I) : am_I := am_zr (am_zr (am_zr (am_zr (am_zr (am_zr I 73 0) 74 0) 75 0) 76 0) 77 0) 78 0
def fX7 (F : am_F) (a1 : Nat) : am_F := am_u2 (am_u2 (am_zr (am_u2 (am_zr (am_u2 (am_zr (am_u2 (am_zr (am_u2 (am_zr (am_u2 (am_zr F 73 0) 72 1 73) 74 0) 72 2 74) 75 0) 72 3 75) 76 0) 72 4 76) 77 0) 72 5 77) 78 0) 72 6 78) 72 0 a1
theorem eX7 {N : Nat} {K : am_K} {I : am_I} {F : am_F} {a1 : Nat} (h : (K 72).1 = 7) : X7_init N 72 73 K I F a1 = some (0, 79, kX7 K, iX7 I, fX7 F a1, 6, 1) := by
  unfold X7_init
  refine ev_if (by first | exact h | decide | exact rfl | exact (show (57 : Nat) ≠ 1 by decide) | exact ⟨by decide, (show (0 : Int) < 2 by decide)⟩ | exact ⟨by decide, (show (1 : Int) < 2 by decide)⟩ | exact ⟨by decide, (show (0 : Int) < 442 by decide)⟩) ?_
  refine ev_if (by first | exact h | decide | exact rfl | exact (show (57 : Nat) ≠ 1 by decide) | exact ⟨by decide, (show (0 : Int) < 2 by decide)⟩ | exact ⟨by decide, (show (1 : Int) < 2 by decide)⟩ | exact ⟨by decide, (show (0 : Int) < 442 by decide)⟩) ?_
  refine ev_nw ?_
  refine ev_mo rfl rfl ?_
  refine ev_if (by first | exact h | decide | exact rfl | exact (show (57 : Nat) ≠ 1 by decide) | exact ⟨by decide, (show (0 : Int) < 2 by decide)⟩ | exact ⟨by decide, (show (1 : Int) < 2 by decide)⟩ | exact ⟨by decide, (show (0 : Int) < 442 by decide)⟩) ?_
  refine ev_lt ?_
  refine ev_nw ?_
  refine ev_mo rfl rfl ?_
  refine ev_if (by first | exact h | decide | exact rfl | exact (show (57 : Nat) ≠ 1 by decide) | exact ⟨by decide, (show (0 : Int) < 2 by decide)⟩ | exact ⟨by decide, (show (1 : Int) < 2 by decide)⟩ | exact ⟨by decide, (show (0 : Int) < 442 by decide)⟩) ?_
  refine ev_lt ?_
  refine ev_nw ?_
  refine ev_mo rfl rfl ?_
  refine ev_if (by first | exact h | decide | exact rfl | exact (show (57 : Nat) ≠ 1 by decide) | exact ⟨by decide, (show (0 : Int) < 2 by decide)⟩ | exact ⟨by decide, (show (1 : Int) < 2 by decide)⟩ | exact ⟨by decide, (show (0 : Int) < 442 by decide)⟩) ?_
  refine ev_lt ?_
  refine ev_nw ?_
  refine ev_mo rfl rfl ?_
  refine ev_if (by first | exact h | decide | exact rfl | exact (show (57 : Nat) ≠ 1 by decide) | exact ⟨by decide, (show (0 : Int) < 2 by decide)⟩ | exact ⟨by decide, (show (1 : Int) < 2 by decide)⟩ | exact ⟨by decide, (show (0 : Int) < 442 by decide)⟩) ?_
  refine ev_lt ?_
  refine ev_if (by first | exact h | decide | exact rfl | exact (show (57 : Nat) ≠ 1 by decide) | exact ⟨by decide, (show (0 : Int) < 2 by decide)⟩ | exact ⟨by decide, (show (1 : Int) < 2 by decide)⟩ | exact ⟨by decide, (show (0 : Int) < 442 by decide)⟩) ?_
  refine ev_nw ?_
  refine ev_mo rfl rfl ?_
  refine ev_if (by first | exact h | decide | exact rfl | exact (show (57 : Nat) ≠ 1 by decide) | exact ⟨by decide, (show (0 : Int) < 2 by decide)⟩ | exact ⟨by decide, (show (1 : Int) < 2 by decide)⟩ | exact ⟨by decide, (show (0 : Int) < 442 by decide)⟩) ?_
  refine ev_lt ?_
  refine ev_nw ?_
  refine ev_mo rfl rfl ?_
  refine ev_if (by first | exact h | decide | exact rfl | exact (show (57 : Nat) ≠ 1 by decide) | exact ⟨by decide, (show (0 : Int) < 2 by decide)⟩ | exact ⟨by decide, (show (1 : Int) < 2 by decide)⟩ | exact ⟨by decide, (show (0 : Int) < 442 by decide)⟩) ?_
  refine ev_lt ?_
  refine ev_lt ?_
  exact rfl
def kX9 (K : am_K) : am_K := kX7 (am_u1 (am_u1 (am_u1 (am_u1 (am_u1 K 68 (100, 0)) 69 (100, 0)) 70 (100, 0)) 71 (100, 0)) 72 (7, 0))
def iX9 (I : am_I) : am_I := iX7 (am_zr (am_zr (am_zr (am_zr (am_zr I 68 0) 69 0) 70 0) 71 0) 72 0)
def fX9 (F : am_F) (a1 : Nat) (a2 : Nat) (a3 : Nat) : am_F := am_u2 (am_u2 (am_u2 (am_u2 (fX7 (am_zr (am_u2 (am_zr (am_u2 (am_zr (am_u2 (am_zr (am_u2 (am_zr F 68 0) 62 4 68) 69 0) 62 5 69) 70 0) 62 6 70) 71 0) 62 7 71) 72 0) a3) 62 10 72) 62 11 a1) 62 12 a2) 62 0 a3
theorem eX9 {N : Nat} {K : am_K} {I : am_I} {F : am_F} {a1 : Nat} {a2 : Nat} {a3 : Nat} (h : (K 62).1 = 9) : X9_init N 62 68 K I F a1 a2 a3 = some (0, 79, kX9 K, iX9 I, fX9 F a1 a2 a3, 11, 8) := by
  unfold X9_init
  refine ev_if (by first | exact h | decide | exact rfl | exact (show (57 : Nat) ≠ 1 by decide) | exact ⟨by decide, (show (0 : Int) < 2 by decide)⟩ | exact ⟨by decide, (show (1 : Int) < 2 by decide)⟩ | exact ⟨by decide, (show (0 : Int) < 442 by decide)⟩) ?_
  refine ev_if (by first | exact h | decide | exact rfl | exact (show (57 : Nat) ≠ 1 by decide) | exact ⟨by decide, (show (0 : Int) < 2 by decide)⟩ | exact ⟨by decide, (show (1 : Int) < 2 by decide)⟩ | exact ⟨by decide, (show (0 : Int) < 442 by decide)⟩) ?_
  refine ev_nw ?_
  refine ev_mo rfl rfl ?_
  refine ev_if (by first | exact h | decide | exact rfl | exact (show (57 : Nat) ≠ 1 by decide) | exact ⟨by decide, (show (0 : Int) < 2 by decide)⟩ | exact ⟨by decide, (show (1 : Int) < 2 by decide)⟩ | exact ⟨by decide, (show (0 : Int) < 442 by decide)⟩) ?_
  refine ev_lt ?_
  refine ev_nw ?_
  refine ev_mo rfl rfl ?_
  refine ev_if (by first | exact h | decide | exact rfl | exact (show (57 : Nat) ≠ 1 by decide) | exact ⟨by decide, (show (0 : Int) < 2 by decide)⟩ | exact ⟨by decide, (show (1 : Int) < 2 by decide)⟩ | exact ⟨by decide, (show (0 : Int) < 442 by decide)⟩) ?_
  refine ev_lt ?_
  refine ev_nw ?_
  refine ev_mo rfl rfl ?_
  refine ev_if (by first | exact h | decide | exact rfl | exact (show (57 : Nat) ≠ 1 by decide) | exact ⟨by decide, (show (0 : Int) < 2 by decide)⟩ | exact ⟨by decide, (show (1 : Int) < 2 by decide)⟩ | exact ⟨by decide, (show (0 : Int) < 442 by decide)⟩) ?_
  refine ev_lt ?_
  refine ev_nw ?_
  refine ev_mo rfl rfl ?_
  refine ev_if (by first | exact h | decide | exact rfl | exact (show (57 : Nat) ≠ 1 by decide) | exact ⟨by decide, (show (0 : Int) < 2 by decide)⟩ | exact ⟨by decide, (show (1 : Int) < 2 by decide)⟩ | exact ⟨by decide, (show (0 : Int) < 442 by decide)⟩) ?_
  refine ev_lt ?_
  refine ev_nw ?_
  refine ev_mo rfl rfl ?_
  refine ev_if (by first | exact h | decide | exact rfl | exact (show (57 : Nat) ≠ 1 by decide) | exact ⟨by decide, (show (0 : Int) < 2 by decide)⟩ | exact ⟨by decide, (show (1 : Int) < 2 by decide)⟩ | exact ⟨by decide, (show (0 : Int) < 442 by decide)⟩) ?_
  refine ev_ca (eX7 rfl) ?_
  refine ev_mo rfl rfl ?_
  refine ev_if (by first | exact h | decide | exact rfl | exact (show (57 : Nat) ≠ 1 by decide) | exact ⟨by decide, (show (0 : Int) < 2 by decide)⟩ | exact ⟨by decide, (show (1 : Int) < 2 by decide)⟩ | exact ⟨by decide, (show (0 : Int) < 442 by decide)⟩) ?_
  refine ev_lt ?_
  refine ev_lt ?_
  refine ev_lt ?_
  refine ev_lt ?_
  exact rfl
def kX2 (K : am_K) : am_K := am_u1 (am_u1 K 80 (100, 400)) 81 (100, 401)
def iX2 (I : am_I) : am_I := am_zr (am_zr (am_u2 I 79 2 (-1)) 80 0) 81 0
def fX2 (F : am_F) : am_F := am_u2 (am_zr (am_u2 (am_zr F 80 0) 79 3 80) 81 0) 79 4 81
theorem eX2 {N : Nat} {K : am_K} {I : am_I} {F : am_F} (h : (K 79).1 = 2) : X2_init N 79 80 K I F = some (0, 82, kX2 K, iX2 I, fX2 F, 2, 801) := by
  unfold X2_init
  refine ev_if (by first | exact h | decide | exact rfl | exact (show (57 : Nat) ≠ 1 by decide) | exact ⟨by decide, (show (0 : Int) < 2 by decide)⟩ | exact ⟨by decide, (show (1 : Int) < 2 by decide)⟩ | exact ⟨by decide, (show (0 : Int) < 442 by decide)⟩) ?_
  refine ev_lt ?_
  refine ev_if (by first | exact h | decide | exact rfl | exact (show (57 : Nat) ≠ 1 by decide) | exact ⟨by decide, (show (0 : Int) < 2 by decide)⟩ | exact ⟨by decide, (show (1 : Int) < 2 by decide)⟩ | exact ⟨by decide, (show (0 : Int) < 442 by decide)⟩) ?_
  refine ev_nw ?_
  refine ev_mo rfl rfl ?_
  refine ev_if (by first | exact h | decide | exact rfl | exact (show (57 : Nat) ≠ 1 by decide) | exact ⟨by decide, (show (0 : Int) < 2 by decide)⟩ | exact ⟨by decide, (show (1 : Int) < 2 by decide)⟩ | exact ⟨by decide, (show (0 : Int) < 442 by decide)⟩) ?_
  refine ev_lt ?_
  refine ev_if (by first | exact h | decide | exact rfl | exact (show (57 : Nat) ≠ 1 by decide) | exact ⟨by decide, (show (0 : Int) < 2 by decide)⟩ | exact ⟨by decide, (show (1 : Int) < 2 by decide)⟩ | exact ⟨by decide, (show (0 : Int) < 442 by decide)⟩) ?_
  refine ev_nw ?_
  refine ev_mo rfl rfl ?_
  refine ev_if (by first | exact h | decide | exact rfl | exact (show (57 : Nat) ≠ 1 by decide) | exact ⟨by decide, (show (0 : Int) < 2 by decide)⟩ | exact ⟨by decide, (show (1 : Int) < 2 by decide)⟩ | exact ⟨by decide, (show (0 : Int) < 442 by decide)⟩) ?_
  refine ev_lt ?_
  exact rfl
