-- WHAT new SowingHouse() LEAVES (made by gen_init.py)
def kX11 (K : am_K) : am_K := am_u1 (am_u1 (am_u1 (kX2 (am_u1 (kX9 (kX0 (am_u1 (am_u1 (kX4 (am_u1 (kX3 (am_u1 (kX10 (am_u1 (kX6 (am_u1 (am_u1 (kX1 (am_u1 K 3 (1, 0))) 15 (8, 0)) 16 (6, 0))) 19 (10, 0))) 56 (3, 0))) 59 (4, 0))) 62 (9, 0)) 63 (0, 0)))) 79 (2, 0))) 82 (104, 2)) 83 (5, 0)) 84 (5, 0)
def iX11 (I : am_I) : am_I := am_u2 (am_zr (am_zr (am_zr (iX2 (am_zr (iX9 (iX0 (am_zr (am_zr (iX4 (am_zr (iX3 (am_zr (iX10 (am_zr (iX6 (am_zr (am_zr (iX1 (am_zr I 3 0)) 15 0) 16 0)) 19 0)) 56 0)) 59 0)) 62 0) 63 0))) 79 0)) 82 0) 83 0) 84 0) 2 9 0
def fX11 (F : am_F) : am_F := am_u2 (am_u2 (am_zr (am_u2 (am_zr (am_zr (am_u2 (fX2 (am_zr (am_u2 (fX9 (fX0 (am_zr (am_zr (am_u2 (fX4 (am_zr (am_u2 (fX3 (am_zr (am_u2 (fX10 (am_zr (am_u2 (fX6 (am_zr (am_u2 (am_zr (am_u2 (fX1 (am_zr F 3 0)) 2 0 3) 15 0) 2 1 15) 16 0)) 2 2 16) 19 0) 3 15) 2 3 19) 56 0) 3) 2 4 56) 59 0)) 2 5 59) 62 0) 63 0) 3 15 19 56) 3 56 63) 2 6 62) 79 0)) 2 7 79) 82 0) 83 0) 82 0 83) 84 0) 82 1 84) 2 8 82
def F0z : am_F := fun _ _ => 0
def fC : am_F := fX11 (am_zr F0z 2 0)
theorem fC_ok : fC 2 0 = 3 ∧ fC 2 1 = 15 ∧ fC 2 2 = 16 ∧ fC 2 3 = 19 ∧ fC 2 4 = 56 ∧ fC 2 5 = 59 ∧ fC 2 6 = 62 ∧ fC 2 7 = 79 ∧ fC 2 8 = 82 ∧ fC 3 4 = 4 ∧ fC 3 5 = 5 ∧ fC 3 6 = 6 ∧ fC 3 7 = 7 ∧ fC 3 8 = 8 ∧ fC 3 9 = 9 ∧ fC 3 10 = 10 ∧ fC 3 11 = 11 ∧ fC 3 12 = 12 ∧ fC 3 13 = 13 ∧ fC 3 14 = 14 ∧ fC 16 0 = 17 ∧ fC 16 1 = 18 ∧ fC 19 0 = 20 ∧ fC 19 1 = 21 ∧ fC 19 2 = 22 ∧ fC 19 4 = 55 ∧ fC 19 5 = 3 ∧ fC 19 6 = 15 ∧ fC 56 0 = 3 ∧ fC 56 1 = 57 ∧ fC 56 2 = 58 ∧ fC 62 0 = 63 ∧ fC 62 10 = 72 ∧ fC 62 11 = 3 ∧ fC 62 12 = 56 ∧ fC 63 4 = 67 ∧ fC 63 5 = 3 ∧ fC 63 6 = 15 ∧ fC 63 7 = 19 ∧ fC 63 8 = 56 ∧ fC 72 0 = 63 ∧ fC 79 3 = 80 ∧ fC 79 4 = 81 ∧ fC 82 0 = 83 ∧ fC 82 1 = 84 := by decide +kernel
theorem fC_v : fC 59 2 = 60 ∧ fC 59 3 = 61 ∧ fC 62 4 = 68 ∧ fC 62 5 = 69 ∧ fC 62 6 = 70 ∧ fC 62 7 = 71 ∧ fC 63 0 = 64 ∧ fC 63 1 = 65 ∧ fC 63 2 = 66 ∧ fC 72 1 = 73 ∧ fC 72 2 = 74 ∧ fC 72 3 = 75 ∧ fC 72 4 = 76 ∧ fC 72 5 = 77 ∧ fC 72 6 = 78 := by decide +kernel
theorem fC_22 (x : Int) : fC 22 x = if 0 ≤ x ∧ x < 32 then 22 + 1 + x.toNat else 0 := rfl
theorem kC_rows {K : am_K} (j : Nat) (h1 : 23 ≤ j) (h2 : j ≤ 54) : kX11 K j = (100, 32) := by
  rcases (show j = 23 ∨ j = 24 ∨ j = 25 ∨ j = 26 ∨ j = 27 ∨ j = 28 ∨ j = 29 ∨ j = 30 ∨ j = 31 ∨ j = 32 ∨ j = 33 ∨ j = 34 ∨ j = 35 ∨ j = 36 ∨ j = 37 ∨ j = 38 ∨ j = 39 ∨ j = 40 ∨ j = 41 ∨ j = 42 ∨ j = 43 ∨ j = 44 ∨ j = 45 ∨ j = 46 ∨ j = 47 ∨ j = 48 ∨ j = 49 ∨ j = 50 ∨ j = 51 ∨ j = 52 ∨ j = 53 ∨ j = 54 by omega) with rfl | rfl | rfl | rfl | rfl | rfl | rfl | rfl | rfl | rfl | rfl | rfl | rfl | rfl | rfl | rfl | rfl | rfl | rfl | rfl | rfl | rfl | rfl | rfl | rfl | rfl | rfl | rfl | rfl | rfl | rfl | rfl <;> rfl
theorem cC_ok {K : am_K} (h : K 2 = (11, 0)) : cw (kX11 K) fC := ⟨h, rfl, rfl, rfl, rfl, rfl, rfl, rfl, rfl, rfl, rfl, rfl, rfl, rfl, rfl, rfl, rfl, rfl, rfl, rfl, rfl, rfl, rfl, rfl, rfl, rfl, rfl, rfl, rfl, rfl, rfl, rfl, rfl, rfl, rfl, rfl, fC_ok.1, fC_ok.2.1, fC_ok.2.2.1, fC_ok.2.2.2.1, fC_ok.2.2.2.2.1, fC_ok.2.2.2.2.2.1, fC_ok.2.2.2.2.2.2.1, fC_ok.2.2.2.2.2.2.2.1, fC_ok.2.2.2.2.2.2.2.2.1, fC_ok.2.2.2.2.2.2.2.2.2.1, fC_ok.2.2.2.2.2.2.2.2.2.2.1, fC_ok.2.2.2.2.2.2.2.2.2.2.2.1, fC_ok.2.2.2.2.2.2.2.2.2.2.2.2.1, fC_ok.2.2.2.2.2.2.2.2.2.2.2.2.2.1, fC_ok.2.2.2.2.2.2.2.2.2.2.2.2.2.2.1, fC_ok.2.2.2.2.2.2.2.2.2.2.2.2.2.2.2.1, fC_ok.2.2.2.2.2.2.2.2.2.2.2.2.2.2.2.2.1, fC_ok.2.2.2.2.2.2.2.2.2.2.2.2.2.2.2.2.2.1, fC_ok.2.2.2.2.2.2.2.2.2.2.2.2.2.2.2.2.2.2.1, fC_ok.2.2.2.2.2.2.2.2.2.2.2.2.2.2.2.2.2.2.2.1, fC_ok.2.2.2.2.2.2.2.2.2.2.2.2.2.2.2.2.2.2.2.2.1, fC_ok.2.2.2.2.2.2.2.2.2.2.2.2.2.2.2.2.2.2.2.2.2.1, fC_ok.2.2.2.2.2.2.2.2.2.2.2.2.2.2.2.2.2.2.2.2.2.2.1, fC_ok.2.2.2.2.2.2.2.2.2.2.2.2.2.2.2.2.2.2.2.2.2.2.2.1, fC_ok.2.2.2.2.2.2.2.2.2.2.2.2.2.2.2.2.2.2.2.2.2.2.2.2.1, fC_ok.2.2.2.2.2.2.2.2.2.2.2.2.2.2.2.2.2.2.2.2.2.2.2.2.2.1, fC_ok.2.2.2.2.2.2.2.2.2.2.2.2.2.2.2.2.2.2.2.2.2.2.2.2.2.2.1, fC_ok.2.2.2.2.2.2.2.2.2.2.2.2.2.2.2.2.2.2.2.2.2.2.2.2.2.2.2.1, fC_ok.2.2.2.2.2.2.2.2.2.2.2.2.2.2.2.2.2.2.2.2.2.2.2.2.2.2.2.2.1, fC_ok.2.2.2.2.2.2.2.2.2.2.2.2.2.2.2.2.2.2.2.2.2.2.2.2.2.2.2.2.2.1, fC_ok.2.2.2.2.2.2.2.2.2.2.2.2.2.2.2.2.2.2.2.2.2.2.2.2.2.2.2.2.2.2.1, fC_ok.2.2.2.2.2.2.2.2.2.2.2.2.2.2.2.2.2.2.2.2.2.2.2.2.2.2.2.2.2.2.2.1, fC_ok.2.2.2.2.2.2.2.2.2.2.2.2.2.2.2.2.2.2.2.2.2.2.2.2.2.2.2.2.2.2.2.2.1, fC_ok.2.2.2.2.2.2.2.2.2.2.2.2.2.2.2.2.2.2.2.2.2.2.2.2.2.2.2.2.2.2.2.2.2.1, fC_ok.2.2.2.2.2.2.2.2.2.2.2.2.2.2.2.2.2.2.2.2.2.2.2.2.2.2.2.2.2.2.2.2.2.2.1, fC_ok.2.2.2.2.2.2.2.2.2.2.2.2.2.2.2.2.2.2.2.2.2.2.2.2.2.2.2.2.2.2.2.2.2.2.2.1, fC_ok.2.2.2.2.2.2.2.2.2.2.2.2.2.2.2.2.2.2.2.2.2.2.2.2.2.2.2.2.2.2.2.2.2.2.2.2.1, fC_ok.2.2.2.2.2.2.2.2.2.2.2.2.2.2.2.2.2.2.2.2.2.2.2.2.2.2.2.2.2.2.2.2.2.2.2.2.2.1, fC_ok.2.2.2.2.2.2.2.2.2.2.2.2.2.2.2.2.2.2.2.2.2.2.2.2.2.2.2.2.2.2.2.2.2.2.2.2.2.2.1, fC_ok.2.2.2.2.2.2.2.2.2.2.2.2.2.2.2.2.2.2.2.2.2.2.2.2.2.2.2.2.2.2.2.2.2.2.2.2.2.2.2.1, fC_ok.2.2.2.2.2.2.2.2.2.2.2.2.2.2.2.2.2.2.2.2.2.2.2.2.2.2.2.2.2.2.2.2.2.2.2.2.2.2.2.2.1, fC_ok.2.2.2.2.2.2.2.2.2.2.2.2.2.2.2.2.2.2.2.2.2.2.2.2.2.2.2.2.2.2.2.2.2.2.2.2.2.2.2.2.2.1, fC_ok.2.2.2.2.2.2.2.2.2.2.2.2.2.2.2.2.2.2.2.2.2.2.2.2.2.2.2.2.2.2.2.2.2.2.2.2.2.2.2.2.2.2.1, fC_ok.2.2.2.2.2.2.2.2.2.2.2.2.2.2.2.2.2.2.2.2.2.2.2.2.2.2.2.2.2.2.2.2.2.2.2.2.2.2.2.2.2.2.2.1, fC_ok.2.2.2.2.2.2.2.2.2.2.2.2.2.2.2.2.2.2.2.2.2.2.2.2.2.2.2.2.2.2.2.2.2.2.2.2.2.2.2.2.2.2.2.2, kC_rows, fun x a b => (fC_22 x).trans ((if_pos ⟨a, b⟩).trans (by omega))⟩
theorem kC_v {K : am_K} : kX11 K 60 = (100, 16) ∧ kX11 K 61 = (100, 544) ∧ kX11 K 68 = (100, 0) ∧ kX11 K 69 = (100, 0) ∧ kX11 K 70 = (100, 0) ∧ kX11 K 71 = (100, 0) ∧ kX11 K 64 = (100, 0) ∧ kX11 K 65 = (100, 1) ∧ kX11 K 66 = (100, 0) ∧ kX11 K 73 = (100, 0) ∧ kX11 K 74 = (100, 0) ∧ kX11 K 75 = (100, 0) ∧ kX11 K 76 = (100, 0) ∧ kX11 K 77 = (100, 1) ∧ kX11 K 78 = (100, 0) := ⟨rfl, rfl, rfl, rfl, rfl, rfl, rfl, rfl, rfl, rfl, rfl, rfl, rfl, rfl, rfl⟩
theorem iC_7 {I : am_I} : iX11 I 7 0 = 0 := rfl
theorem iC_57 {I : am_I} : iX11 I 57 = gwr := rfl
theorem iC_65 {I : am_I} : iX11 I 65 0 = 0 := rfl
theorem eX11 {N : Nat} {K : am_K} {I : am_I} (hN : 1000 < N) (hK : K 2 = (11, 0)) : ∃ J, X11_init N 2 3 K I (am_zr F0z 2 0) = some (0, 85, kX11 K, J, fC, 82, 3396) ∧ lb (iX11 I) J 2 3 6 := by
  have h : (K 2).1 = 11 := by rw [hK]
  obtain ⟨J, e1, e2, e3⟩ := c_layBoard (N := N) (I := iX11 I) (cC_ok hK) (R := 2) (C := 3) (A := 6) ⟨Or.inl ⟨rfl, rfl⟩, by decide, by decide⟩ iC_7 (by omega)
  have e4 : am_u2 J 2 9 0 = J := by
    funext a j
    unfold am_u2
    split
    · rename_i g; rw [g.1, g.2]; exact e3.symm
    · rfl
  rw [e4] at e2
  refine ⟨J, ?_, e2⟩
  unfold X11_init
  refine ev_if (by first | exact h | decide | exact rfl | exact (show (57 : Nat) ≠ 1 by decide) | exact ⟨by decide, (show (0 : Int) < 2 by decide)⟩ | exact ⟨by decide, (show (1 : Int) < 2 by decide)⟩ | exact ⟨by decide, (show (0 : Int) < 442 by decide)⟩) ?_
  refine ev_nw ?_
  refine ev_mo rfl rfl ?_
  refine ev_if (by first | exact h | decide | exact rfl | exact (show (57 : Nat) ≠ 1 by decide) | exact ⟨by decide, (show (0 : Int) < 2 by decide)⟩ | exact ⟨by decide, (show (1 : Int) < 2 by decide)⟩ | exact ⟨by decide, (show (0 : Int) < 442 by decide)⟩) ?_
  refine ev_ca (eX1 rfl) ?_
  refine ev_mo rfl rfl ?_
  refine ev_if (by first | exact h | decide | exact rfl | exact (show (57 : Nat) ≠ 1 by decide) | exact ⟨by decide, (show (0 : Int) < 2 by decide)⟩ | exact ⟨by decide, (show (1 : Int) < 2 by decide)⟩ | exact ⟨by decide, (show (0 : Int) < 442 by decide)⟩) ?_
  refine ev_lt ?_
  refine ev_nw ?_
  refine ev_mo rfl rfl ?_
  refine ev_if (by first | exact h | decide | exact rfl | exact (show (57 : Nat) ≠ 1 by decide) | exact ⟨by decide, (show (0 : Int) < 2 by decide)⟩ | exact ⟨by decide, (show (1 : Int) < 2 by decide)⟩ | exact ⟨by decide, (show (0 : Int) < 442 by decide)⟩) ?_
  refine ev_ca (eX8 (by decide)) ?_
  refine ev_mo rfl rfl ?_
  refine ev_if (by first | exact h | decide | exact rfl | exact (show (57 : Nat) ≠ 1 by decide) | exact ⟨by decide, (show (0 : Int) < 2 by decide)⟩ | exact ⟨by decide, (show (1 : Int) < 2 by decide)⟩ | exact ⟨by decide, (show (0 : Int) < 442 by decide)⟩) ?_
  refine ev_lt ?_
  refine ev_nw ?_
  refine ev_mo rfl rfl ?_
  refine ev_if (by first | exact h | decide | exact rfl | exact (show (57 : Nat) ≠ 1 by decide) | exact ⟨by decide, (show (0 : Int) < 2 by decide)⟩ | exact ⟨by decide, (show (1 : Int) < 2 by decide)⟩ | exact ⟨by decide, (show (0 : Int) < 442 by decide)⟩) ?_
  refine ev_ca (eX6 rfl) ?_
  refine ev_mo rfl rfl ?_
  refine ev_if (by first | exact h | decide | exact rfl | exact (show (57 : Nat) ≠ 1 by decide) | exact ⟨by decide, (show (0 : Int) < 2 by decide)⟩ | exact ⟨by decide, (show (1 : Int) < 2 by decide)⟩ | exact ⟨by decide, (show (0 : Int) < 442 by decide)⟩) ?_
  refine ev_lt ?_
  refine ev_nw ?_
  refine ev_mo rfl rfl ?_
  refine ev_if (by first | exact h | decide | exact rfl | exact (show (57 : Nat) ≠ 1 by decide) | exact ⟨by decide, (show (0 : Int) < 2 by decide)⟩ | exact ⟨by decide, (show (1 : Int) < 2 by decide)⟩ | exact ⟨by decide, (show (0 : Int) < 442 by decide)⟩) ?_
  refine ev_if (by first | exact h | decide | exact rfl | exact (show (57 : Nat) ≠ 1 by decide) | exact ⟨by decide, (show (0 : Int) < 2 by decide)⟩ | exact ⟨by decide, (show (1 : Int) < 2 by decide)⟩ | exact ⟨by decide, (show (0 : Int) < 442 by decide)⟩) ?_
  refine ev_ca (eX10 rfl) ?_
  refine ev_mo rfl rfl ?_
  refine ev_if (by first | exact h | decide | exact rfl | exact (show (57 : Nat) ≠ 1 by decide) | exact ⟨by decide, (show (0 : Int) < 2 by decide)⟩ | exact ⟨by decide, (show (1 : Int) < 2 by decide)⟩ | exact ⟨by decide, (show (0 : Int) < 442 by decide)⟩) ?_
  refine ev_lt ?_
  refine ev_nw ?_
  refine ev_mo rfl rfl ?_
  refine ev_if (by first | exact h | decide | exact rfl | exact (show (57 : Nat) ≠ 1 by decide) | exact ⟨by decide, (show (0 : Int) < 2 by decide)⟩ | exact ⟨by decide, (show (1 : Int) < 2 by decide)⟩ | exact ⟨by decide, (show (0 : Int) < 442 by decide)⟩) ?_
  refine ev_if (by first | exact h | decide | exact rfl | exact (show (57 : Nat) ≠ 1 by decide) | exact ⟨by decide, (show (0 : Int) < 2 by decide)⟩ | exact ⟨by decide, (show (1 : Int) < 2 by decide)⟩ | exact ⟨by decide, (show (0 : Int) < 442 by decide)⟩) ?_
  refine ev_ca (eX3 hN rfl) ?_
  refine ev_mo rfl rfl ?_
  refine ev_if (by first | exact h | decide | exact rfl | exact (show (57 : Nat) ≠ 1 by decide) | exact ⟨by decide, (show (0 : Int) < 2 by decide)⟩ | exact ⟨by decide, (show (1 : Int) < 2 by decide)⟩ | exact ⟨by decide, (show (0 : Int) < 442 by decide)⟩) ?_
  refine ev_lt ?_
  refine ev_nw ?_
  refine ev_mo rfl rfl ?_
  refine ev_if (by first | exact h | decide | exact rfl | exact (show (57 : Nat) ≠ 1 by decide) | exact ⟨by decide, (show (0 : Int) < 2 by decide)⟩ | exact ⟨by decide, (show (1 : Int) < 2 by decide)⟩ | exact ⟨by decide, (show (0 : Int) < 442 by decide)⟩) ?_
  refine ev_ca (eX4 rfl) ?_
  refine ev_mo rfl rfl ?_
  refine ev_if (by first | exact h | decide | exact rfl | exact (show (57 : Nat) ≠ 1 by decide) | exact ⟨by decide, (show (0 : Int) < 2 by decide)⟩ | exact ⟨by decide, (show (1 : Int) < 2 by decide)⟩ | exact ⟨by decide, (show (0 : Int) < 442 by decide)⟩) ?_
  refine ev_lt ?_
  refine ev_nw ?_
  refine ev_mo rfl rfl ?_
  refine ev_if (by first | exact h | decide | exact rfl | exact (show (57 : Nat) ≠ 1 by decide) | exact ⟨by decide, (show (0 : Int) < 2 by decide)⟩ | exact ⟨by decide, (show (1 : Int) < 2 by decide)⟩ | exact ⟨by decide, (show (0 : Int) < 442 by decide)⟩) ?_
  refine ev_nw ?_
  refine ev_mo rfl rfl ?_
  refine ev_if (by first | exact h | decide | exact rfl | exact (show (57 : Nat) ≠ 1 by decide) | exact ⟨by decide, (show (0 : Int) < 2 by decide)⟩ | exact ⟨by decide, (show (1 : Int) < 2 by decide)⟩ | exact ⟨by decide, (show (0 : Int) < 442 by decide)⟩) ?_
  refine ev_if (by first | exact h | decide | exact rfl | exact (show (57 : Nat) ≠ 1 by decide) | exact ⟨by decide, (show (0 : Int) < 2 by decide)⟩ | exact ⟨by decide, (show (1 : Int) < 2 by decide)⟩ | exact ⟨by decide, (show (0 : Int) < 442 by decide)⟩) ?_
  refine ev_ca (eX0 rfl) ?_
  refine ev_mo rfl rfl ?_
  refine ev_if (by first | exact h | decide | exact rfl | exact (show (57 : Nat) ≠ 1 by decide) | exact ⟨by decide, (show (0 : Int) < 2 by decide)⟩ | exact ⟨by decide, (show (1 : Int) < 2 by decide)⟩ | exact ⟨by decide, (show (0 : Int) < 442 by decide)⟩) ?_
  refine ev_if (by first | exact h | decide | exact rfl | exact (show (57 : Nat) ≠ 1 by decide) | exact ⟨by decide, (show (0 : Int) < 2 by decide)⟩ | exact ⟨by decide, (show (1 : Int) < 2 by decide)⟩ | exact ⟨by decide, (show (0 : Int) < 442 by decide)⟩) ?_
  refine ev_ca (eX9 rfl) ?_
  refine ev_mo rfl rfl ?_
  refine ev_if (by first | exact h | decide | exact rfl | exact (show (57 : Nat) ≠ 1 by decide) | exact ⟨by decide, (show (0 : Int) < 2 by decide)⟩ | exact ⟨by decide, (show (1 : Int) < 2 by decide)⟩ | exact ⟨by decide, (show (0 : Int) < 442 by decide)⟩) ?_
  refine ev_lt ?_
  refine ev_nw ?_
  refine ev_mo rfl rfl ?_
  refine ev_if (by first | exact h | decide | exact rfl | exact (show (57 : Nat) ≠ 1 by decide) | exact ⟨by decide, (show (0 : Int) < 2 by decide)⟩ | exact ⟨by decide, (show (1 : Int) < 2 by decide)⟩ | exact ⟨by decide, (show (0 : Int) < 442 by decide)⟩) ?_
  refine ev_ca (eX2 rfl) ?_
  refine ev_mo rfl rfl ?_
  refine ev_if (by first | exact h | decide | exact rfl | exact (show (57 : Nat) ≠ 1 by decide) | exact ⟨by decide, (show (0 : Int) < 2 by decide)⟩ | exact ⟨by decide, (show (1 : Int) < 2 by decide)⟩ | exact ⟨by decide, (show (0 : Int) < 442 by decide)⟩) ?_
  refine ev_lt ?_
  refine ev_if (by first | exact h | decide | exact rfl | exact (show (57 : Nat) ≠ 1 by decide) | exact ⟨by decide, (show (0 : Int) < 2 by decide)⟩ | exact ⟨by decide, (show (1 : Int) < 2 by decide)⟩ | exact ⟨by decide, (show (0 : Int) < 442 by decide)⟩) ?_
  refine ev_nw ?_
  refine ev_mo rfl rfl ?_
  refine ev_nw ?_
  refine ev_mo rfl rfl ?_
  refine ev_if (by first | exact h | decide | exact rfl | exact (show (57 : Nat) ≠ 1 by decide) | exact ⟨by decide, (show (0 : Int) < 2 by decide)⟩ | exact ⟨by decide, (show (1 : Int) < 2 by decide)⟩ | exact ⟨by decide, (show (0 : Int) < 442 by decide)⟩) ?_
  refine ev_ca (eX5 (by decide)) ?_
  refine ev_mo rfl rfl ?_
  refine ev_if (by first | exact h | decide | exact rfl | exact (show (57 : Nat) ≠ 1 by decide) | exact ⟨by decide, (show (0 : Int) < 2 by decide)⟩ | exact ⟨by decide, (show (1 : Int) < 2 by decide)⟩ | exact ⟨by decide, (show (0 : Int) < 442 by decide)⟩) ?_
  refine ev_if (by first | exact h | decide | exact rfl | exact (show (57 : Nat) ≠ 1 by decide) | exact ⟨by decide, (show (0 : Int) < 2 by decide)⟩ | exact ⟨by decide, (show (1 : Int) < 2 by decide)⟩ | exact ⟨by decide, (show (0 : Int) < 442 by decide)⟩) ?_
  refine ev_if (by first | exact h | decide | exact rfl | exact (show (57 : Nat) ≠ 1 by decide) | exact ⟨by decide, (show (0 : Int) < 2 by decide)⟩ | exact ⟨by decide, (show (1 : Int) < 2 by decide)⟩ | exact ⟨by decide, (show (0 : Int) < 442 by decide)⟩) ?_
  refine ev_lt ?_
  refine ev_nw ?_
  refine ev_mo rfl rfl ?_
  refine ev_if (by first | exact h | decide | exact rfl | exact (show (57 : Nat) ≠ 1 by decide) | exact ⟨by decide, (show (0 : Int) < 2 by decide)⟩ | exact ⟨by decide, (show (1 : Int) < 2 by decide)⟩ | exact ⟨by decide, (show (0 : Int) < 442 by decide)⟩) ?_
  refine ev_ca (eX5 (by decide)) ?_
  refine ev_mo rfl rfl ?_
  refine ev_if (by first | exact h | decide | exact rfl | exact (show (57 : Nat) ≠ 1 by decide) | exact ⟨by decide, (show (0 : Int) < 2 by decide)⟩ | exact ⟨by decide, (show (1 : Int) < 2 by decide)⟩ | exact ⟨by decide, (show (0 : Int) < 442 by decide)⟩) ?_
  refine ev_if (by first | exact h | decide | exact rfl | exact (show (57 : Nat) ≠ 1 by decide) | exact ⟨by decide, (show (0 : Int) < 2 by decide)⟩ | exact ⟨by decide, (show (1 : Int) < 2 by decide)⟩ | exact ⟨by decide, (show (0 : Int) < 442 by decide)⟩) ?_
  refine ev_if (by first | exact h | decide | exact rfl | exact (show (57 : Nat) ≠ 1 by decide) | exact ⟨by decide, (show (0 : Int) < 2 by decide)⟩ | exact ⟨by decide, (show (1 : Int) < 2 by decide)⟩ | exact ⟨by decide, (show (0 : Int) < 442 by decide)⟩) ?_
  refine ev_lt ?_
  refine ev_if (by first | exact h | decide | exact rfl | exact (show (57 : Nat) ≠ 1 by decide) | exact ⟨by decide, (show (0 : Int) < 2 by decide)⟩ | exact ⟨by decide, (show (1 : Int) < 2 by decide)⟩ | exact ⟨by decide, (show (0 : Int) < 442 by decide)⟩) ?_
  refine ev_lt ?_
  refine ev_lt ?_
  refine ev_cl (e1) ?_
  exact rfl
