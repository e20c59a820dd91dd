-- WHAT new SowingHouseModel() LEAVES (made by gen_init.py)
def kX12 (K : am_K) : am_K := am_u1 (am_u1 (am_u1 (am_u1 (am_u1 (am_u1 (am_u1 (am_u1 (am_u1 (am_u1 (am_u1 (am_u1 (am_u1 (am_u1 (am_u1 (am_u1 (am_u1 (am_u1 (am_u1 (am_u1 (am_u1 (am_u1 (am_u1 K 86 (101, 32)) 87 (100, 32)) 88 (100, 2)) 89 (100, 32)) 90 (100, 32)) 91 (100, 32)) 92 (100, 32)) 93 (100, 40000)) 94 (100, 40000)) 95 (100, 40000)) 96 (100, 40000)) 97 (100, 40001)) 98 (100, 200064)) 99 (100, 200064)) 100 (100, 40000)) 101 (100, 40000)) 102 (100, 40000)) 103 (101, 32)) 104 (100, 35035)) 105 (100, 400)) 106 (100, 401)) 107 (100, 2)) 108 (102, 2)
def iX12 (I : am_I) : am_I := am_zr (am_zr (am_zr (am_zr (am_zr (am_zr (am_zr (am_zr (am_zr (am_zr (am_zr (am_zr (am_zr (am_zr (am_zr (am_zr (am_zr (am_zr (am_zr (am_zr (am_zr (am_zr (am_zr I 86 0) 87 0) 88 0) 89 0) 90 0) 91 0) 92 0) 93 0) 94 0) 95 0) 96 0) 97 0) 98 0) 99 0) 100 0) 101 0) 102 0) 103 0) 104 0) 105 0) 106 0) 107 0) 108 0
def fX12 (F : am_F) : am_F := am_u2 (am_zr (am_u2 (am_zr (am_u2 (am_zr (am_u2 (am_zr (am_u2 (am_zr (am_u2 (am_zr (am_u2 (am_zr (am_u2 (am_zr (am_u2 (am_zr (am_u2 (am_zr (am_u2 (am_zr (am_u2 (am_zr (am_u2 (am_zr (am_u2 (am_zr (am_u2 (am_zr (am_u2 (am_zr (am_u2 (am_zr (am_u2 (am_zr (am_u2 (am_zr (am_u2 (am_zr (am_u2 (am_zr (am_u2 (am_zr (am_u2 (am_zr F 86 0) 85 2 86) 87 0) 85 3 87) 88 0) 85 4 88) 89 0) 85 13 89) 90 0) 85 14 90) 91 0) 85 16 91) 92 0) 85 20 92) 93 0) 85 25 93) 94 0) 85 26 94) 95 0) 85 27 95) 96 0) 85 28 96) 97 0) 85 29 97) 98 0) 85 30 98) 99 0) 85 31 99) 100 0) 85 32 100) 101 0) 85 33 101) 102 0) 85 34 102) 103 0) 85 35 103) 104 0) 85 36 104) 105 0) 85 41 105) 106 0) 85 42 106) 107 0) 85 44 107) 108 0) 85 45 108
theorem mC_ok {K : am_K} {F : am_F} (h : K 85 = (12, 0)) : mw (kX12 K) (fX12 F) := ⟨h, rfl, rfl, rfl, rfl, rfl, rfl, rfl, rfl, rfl, rfl, rfl, rfl, rfl, rfl, rfl, rfl, rfl, rfl, rfl, rfl, rfl, rfl, rfl, rfl, rfl, rfl, rfl, rfl, rfl, rfl, rfl, rfl, rfl, rfl, rfl, rfl, rfl, rfl, rfl, rfl, rfl, rfl, rfl, rfl⟩
theorem mC_v {F : am_F} : fX12 F 85 33 = 101 ∧ fX12 F 85 34 = 102 := ⟨rfl, rfl⟩
theorem kM_up {K : am_K} (a : Nat) (h : a < 86) : kX12 K a = K a := by
  unfold kX12
  rw [am_u1_n (by omega), am_u1_n (by omega), am_u1_n (by omega), am_u1_n (by omega), am_u1_n (by omega), am_u1_n (by omega), am_u1_n (by omega), am_u1_n (by omega), am_u1_n (by omega), am_u1_n (by omega), am_u1_n (by omega), am_u1_n (by omega), am_u1_n (by omega), am_u1_n (by omega), am_u1_n (by omega), am_u1_n (by omega), am_u1_n (by omega), am_u1_n (by omega), am_u1_n (by omega), am_u1_n (by omega), am_u1_n (by omega), am_u1_n (by omega), am_u1_n (by omega)]
theorem fM_up {F : am_F} (a : Nat) (j : Int) (h : a < 85) : fX12 F a j = F a j := by
  unfold fX12
  rw [am_u2_a (by omega), am_zr_a (by omega), am_u2_a (by omega), am_zr_a (by omega), am_u2_a (by omega), am_zr_a (by omega), am_u2_a (by omega), am_zr_a (by omega), am_u2_a (by omega), am_zr_a (by omega), am_u2_a (by omega), am_zr_a (by omega), am_u2_a (by omega), am_zr_a (by omega), am_u2_a (by omega), am_zr_a (by omega), am_u2_a (by omega), am_zr_a (by omega), am_u2_a (by omega), am_zr_a (by omega), am_u2_a (by omega), am_zr_a (by omega), am_u2_a (by omega), am_zr_a (by omega), am_u2_a (by omega), am_zr_a (by omega), am_u2_a (by omega), am_zr_a (by omega), am_u2_a (by omega), am_zr_a (by omega), am_u2_a (by omega), am_zr_a (by omega), am_u2_a (by omega), am_zr_a (by omega), am_u2_a (by omega), am_zr_a (by omega), am_u2_a (by omega), am_zr_a (by omega), am_u2_a (by omega), am_zr_a (by omega), am_u2_a (by omega), am_zr_a (by omega), am_u2_a (by omega), am_zr_a (by omega), am_u2_a (by omega), am_zr_a (by omega)]
theorem iM_up {I : am_I} (a : Nat) (h : a < 86) : iX12 I a = I a := by
  funext j
  unfold iX12
  rw [am_zr_a (by omega), am_zr_a (by omega), am_zr_a (by omega), am_zr_a (by omega), am_zr_a (by omega), am_zr_a (by omega), am_zr_a (by omega), am_zr_a (by omega), am_zr_a (by omega), am_zr_a (by omega), am_zr_a (by omega), am_zr_a (by omega), am_zr_a (by omega), am_zr_a (by omega), am_zr_a (by omega), am_zr_a (by omega), am_zr_a (by omega), am_zr_a (by omega), am_zr_a (by omega), am_zr_a (by omega), am_zr_a (by omega), am_zr_a (by omega), am_zr_a (by omega)]
theorem eX12 {N : Nat} {K : am_K} {I : am_I} {F : am_F} (hN : 1000 < N) (hK : K 85 = (12, 0)) : ∃ J, X12_init N 85 86 K I F = some (0, 109, kX12 K, J, fX12 F, 23, 756195) ∧ mf (iX12 I) J 2 3 6 := by
  have h : (K 85).1 = 12 := by rw [hK]
  obtain ⟨J, e1, e2⟩ := m_fresh (N := N) (I := iX12 I) (mC_ok (F := F) hK) (R := 2) (C := 3) (A := 6) ⟨Or.inl ⟨rfl, rfl⟩, by decide, by decide⟩ (by omega)
  refine ⟨J, ?_, e2⟩
  unfold X12_init
  refine ev_if (by first | exact h | decide | exact rfl | exact (show (57 : Nat) ≠ 1 by decide) | exact ⟨by decide, (show (0 : Int) < 2 by decide)⟩ | exact ⟨by decide, (show (1 : Int) < 2 by decide)⟩ | exact ⟨by decide, (show (0 : Int) < 442 by decide)⟩) ?_
  refine ev_if (by first | exact h | decide | exact rfl | exact (show (57 : Nat) ≠ 1 by decide) | exact ⟨by decide, (show (0 : Int) < 2 by decide)⟩ | exact ⟨by decide, (show (1 : Int) < 2 by decide)⟩ | exact ⟨by decide, (show (0 : Int) < 442 by decide)⟩) ?_
  refine ev_nw ?_
  refine ev_mo rfl rfl ?_
  refine ev_if (by first | exact h | decide | exact rfl | exact (show (57 : Nat) ≠ 1 by decide) | exact ⟨by decide, (show (0 : Int) < 2 by decide)⟩ | exact ⟨by decide, (show (1 : Int) < 2 by decide)⟩ | exact ⟨by decide, (show (0 : Int) < 442 by decide)⟩) ?_
  refine ev_lt ?_
  refine ev_nw ?_
  refine ev_mo rfl rfl ?_
  refine ev_if (by first | exact h | decide | exact rfl | exact (show (57 : Nat) ≠ 1 by decide) | exact ⟨by decide, (show (0 : Int) < 2 by decide)⟩ | exact ⟨by decide, (show (1 : Int) < 2 by decide)⟩ | exact ⟨by decide, (show (0 : Int) < 442 by decide)⟩) ?_
  refine ev_lt ?_
  refine ev_if (by first | exact h | decide | exact rfl | exact (show (57 : Nat) ≠ 1 by decide) | exact ⟨by decide, (show (0 : Int) < 2 by decide)⟩ | exact ⟨by decide, (show (1 : Int) < 2 by decide)⟩ | exact ⟨by decide, (show (0 : Int) < 442 by decide)⟩) ?_
  refine ev_nw ?_
  refine ev_mo rfl rfl ?_
  refine ev_if (by first | exact h | decide | exact rfl | exact (show (57 : Nat) ≠ 1 by decide) | exact ⟨by decide, (show (0 : Int) < 2 by decide)⟩ | exact ⟨by decide, (show (1 : Int) < 2 by decide)⟩ | exact ⟨by decide, (show (0 : Int) < 442 by decide)⟩) ?_
  refine ev_lt ?_
  refine ev_nw ?_
  refine ev_mo rfl rfl ?_
  refine ev_if (by first | exact h | decide | exact rfl | exact (show (57 : Nat) ≠ 1 by decide) | exact ⟨by decide, (show (0 : Int) < 2 by decide)⟩ | exact ⟨by decide, (show (1 : Int) < 2 by decide)⟩ | exact ⟨by decide, (show (0 : Int) < 442 by decide)⟩) ?_
  refine ev_lt ?_
  refine ev_nw ?_
  refine ev_mo rfl rfl ?_
  refine ev_if (by first | exact h | decide | exact rfl | exact (show (57 : Nat) ≠ 1 by decide) | exact ⟨by decide, (show (0 : Int) < 2 by decide)⟩ | exact ⟨by decide, (show (1 : Int) < 2 by decide)⟩ | exact ⟨by decide, (show (0 : Int) < 442 by decide)⟩) ?_
  refine ev_lt ?_
  refine ev_nw ?_
  refine ev_mo rfl rfl ?_
  refine ev_if (by first | exact h | decide | exact rfl | exact (show (57 : Nat) ≠ 1 by decide) | exact ⟨by decide, (show (0 : Int) < 2 by decide)⟩ | exact ⟨by decide, (show (1 : Int) < 2 by decide)⟩ | exact ⟨by decide, (show (0 : Int) < 442 by decide)⟩) ?_
  refine ev_lt ?_
  refine ev_nw ?_
  refine ev_mo rfl rfl ?_
  refine ev_if (by first | exact h | decide | exact rfl | exact (show (57 : Nat) ≠ 1 by decide) | exact ⟨by decide, (show (0 : Int) < 2 by decide)⟩ | exact ⟨by decide, (show (1 : Int) < 2 by decide)⟩ | exact ⟨by decide, (show (0 : Int) < 442 by decide)⟩) ?_
  refine ev_lt ?_
  refine ev_if (by first | exact h | decide | exact rfl | exact (show (57 : Nat) ≠ 1 by decide) | exact ⟨by decide, (show (0 : Int) < 2 by decide)⟩ | exact ⟨by decide, (show (1 : Int) < 2 by decide)⟩ | exact ⟨by decide, (show (0 : Int) < 442 by decide)⟩) ?_
  refine ev_nw ?_
  refine ev_mo rfl rfl ?_
  refine ev_if (by first | exact h | decide | exact rfl | exact (show (57 : Nat) ≠ 1 by decide) | exact ⟨by decide, (show (0 : Int) < 2 by decide)⟩ | exact ⟨by decide, (show (1 : Int) < 2 by decide)⟩ | exact ⟨by decide, (show (0 : Int) < 442 by decide)⟩) ?_
  refine ev_lt ?_
  refine ev_nw ?_
  refine ev_mo rfl rfl ?_
  refine ev_if (by first | exact h | decide | exact rfl | exact (show (57 : Nat) ≠ 1 by decide) | exact ⟨by decide, (show (0 : Int) < 2 by decide)⟩ | exact ⟨by decide, (show (1 : Int) < 2 by decide)⟩ | exact ⟨by decide, (show (0 : Int) < 442 by decide)⟩) ?_
  refine ev_lt ?_
  refine ev_nw ?_
  refine ev_mo rfl rfl ?_
  refine ev_if (by first | exact h | decide | exact rfl | exact (show (57 : Nat) ≠ 1 by decide) | exact ⟨by decide, (show (0 : Int) < 2 by decide)⟩ | exact ⟨by decide, (show (1 : Int) < 2 by decide)⟩ | exact ⟨by decide, (show (0 : Int) < 442 by decide)⟩) ?_
  refine ev_lt ?_
  refine ev_nw ?_
  refine ev_mo rfl rfl ?_
  refine ev_if (by first | exact h | decide | exact rfl | exact (show (57 : Nat) ≠ 1 by decide) | exact ⟨by decide, (show (0 : Int) < 2 by decide)⟩ | exact ⟨by decide, (show (1 : Int) < 2 by decide)⟩ | exact ⟨by decide, (show (0 : Int) < 442 by decide)⟩) ?_
  refine ev_lt ?_
  refine ev_if (by first | exact h | decide | exact rfl | exact (show (57 : Nat) ≠ 1 by decide) | exact ⟨by decide, (show (0 : Int) < 2 by decide)⟩ | exact ⟨by decide, (show (1 : Int) < 2 by decide)⟩ | exact ⟨by decide, (show (0 : Int) < 442 by decide)⟩) ?_
  refine ev_nw ?_
  refine ev_mo rfl rfl ?_
  refine ev_if (by first | exact h | decide | exact rfl | exact (show (57 : Nat) ≠ 1 by decide) | exact ⟨by decide, (show (0 : Int) < 2 by decide)⟩ | exact ⟨by decide, (show (1 : Int) < 2 by decide)⟩ | exact ⟨by decide, (show (0 : Int) < 442 by decide)⟩) ?_
  refine ev_lt ?_
  refine ev_if (by first | exact h | decide | exact rfl | exact (show (57 : Nat) ≠ 1 by decide) | exact ⟨by decide, (show (0 : Int) < 2 by decide)⟩ | exact ⟨by decide, (show (1 : Int) < 2 by decide)⟩ | exact ⟨by decide, (show (0 : Int) < 442 by decide)⟩) ?_
  refine ev_nw ?_
  refine ev_mo rfl rfl ?_
  refine ev_if (by first | exact h | decide | exact rfl | exact (show (57 : Nat) ≠ 1 by decide) | exact ⟨by decide, (show (0 : Int) < 2 by decide)⟩ | exact ⟨by decide, (show (1 : Int) < 2 by decide)⟩ | exact ⟨by decide, (show (0 : Int) < 442 by decide)⟩) ?_
  refine ev_lt ?_
  refine ev_nw ?_
  refine ev_mo rfl rfl ?_
  refine ev_if (by first | exact h | decide | exact rfl | exact (show (57 : Nat) ≠ 1 by decide) | exact ⟨by decide, (show (0 : Int) < 2 by decide)⟩ | exact ⟨by decide, (show (1 : Int) < 2 by decide)⟩ | exact ⟨by decide, (show (0 : Int) < 442 by decide)⟩) ?_
  refine ev_lt ?_
  refine ev_nw ?_
  refine ev_mo rfl rfl ?_
  refine ev_if (by first | exact h | decide | exact rfl | exact (show (57 : Nat) ≠ 1 by decide) | exact ⟨by decide, (show (0 : Int) < 2 by decide)⟩ | exact ⟨by decide, (show (1 : Int) < 2 by decide)⟩ | exact ⟨by decide, (show (0 : Int) < 442 by decide)⟩) ?_
  refine ev_lt ?_
  refine ev_nw ?_
  refine ev_mo rfl rfl ?_
  refine ev_if (by first | exact h | decide | exact rfl | exact (show (57 : Nat) ≠ 1 by decide) | exact ⟨by decide, (show (0 : Int) < 2 by decide)⟩ | exact ⟨by decide, (show (1 : Int) < 2 by decide)⟩ | exact ⟨by decide, (show (0 : Int) < 442 by decide)⟩) ?_
  refine ev_lt ?_
  refine ev_nw ?_
  refine ev_mo rfl rfl ?_
  refine ev_if (by first | exact h | decide | exact rfl | exact (show (57 : Nat) ≠ 1 by decide) | exact ⟨by decide, (show (0 : Int) < 2 by decide)⟩ | exact ⟨by decide, (show (1 : Int) < 2 by decide)⟩ | exact ⟨by decide, (show (0 : Int) < 442 by decide)⟩) ?_
  refine ev_lt ?_
  refine ev_nw ?_
  refine ev_mo rfl rfl ?_
  refine ev_if (by first | exact h | decide | exact rfl | exact (show (57 : Nat) ≠ 1 by decide) | exact ⟨by decide, (show (0 : Int) < 2 by decide)⟩ | exact ⟨by decide, (show (1 : Int) < 2 by decide)⟩ | exact ⟨by decide, (show (0 : Int) < 442 by decide)⟩) ?_
  refine ev_lt ?_
  refine ev_if (by first | exact h | decide | exact rfl | exact (show (57 : Nat) ≠ 1 by decide) | exact ⟨by decide, (show (0 : Int) < 2 by decide)⟩ | exact ⟨by decide, (show (1 : Int) < 2 by decide)⟩ | exact ⟨by decide, (show (0 : Int) < 442 by decide)⟩) ?_
  refine ev_nw ?_
  refine ev_mo rfl rfl ?_
  refine ev_if (by first | exact h | decide | exact rfl | exact (show (57 : Nat) ≠ 1 by decide) | exact ⟨by decide, (show (0 : Int) < 2 by decide)⟩ | exact ⟨by decide, (show (1 : Int) < 2 by decide)⟩ | exact ⟨by decide, (show (0 : Int) < 442 by decide)⟩) ?_
  refine ev_lt ?_
  refine ev_if (by first | exact h | decide | exact rfl | exact (show (57 : Nat) ≠ 1 by decide) | exact ⟨by decide, (show (0 : Int) < 2 by decide)⟩ | exact ⟨by decide, (show (1 : Int) < 2 by decide)⟩ | exact ⟨by decide, (show (0 : Int) < 442 by decide)⟩) ?_
  refine ev_nw ?_
  refine ev_mo rfl rfl ?_
  refine ev_if (by first | exact h | decide | exact rfl | exact (show (57 : Nat) ≠ 1 by decide) | exact ⟨by decide, (show (0 : Int) < 2 by decide)⟩ | exact ⟨by decide, (show (1 : Int) < 2 by decide)⟩ | exact ⟨by decide, (show (0 : Int) < 442 by decide)⟩) ?_
  refine ev_lt ?_
  refine ev_if (by first | exact h | decide | exact rfl | exact (show (57 : Nat) ≠ 1 by decide) | exact ⟨by decide, (show (0 : Int) < 2 by decide)⟩ | exact ⟨by decide, (show (1 : Int) < 2 by decide)⟩ | exact ⟨by decide, (show (0 : Int) < 442 by decide)⟩) ?_
  refine ev_nw ?_
  refine ev_mo rfl rfl ?_
  refine ev_if (by first | exact h | decide | exact rfl | exact (show (57 : Nat) ≠ 1 by decide) | exact ⟨by decide, (show (0 : Int) < 2 by decide)⟩ | exact ⟨by decide, (show (1 : Int) < 2 by decide)⟩ | exact ⟨by decide, (show (0 : Int) < 442 by decide)⟩) ?_
  refine ev_lt ?_
  refine ev_nw ?_
  refine ev_mo rfl rfl ?_
  refine ev_if (by first | exact h | decide | exact rfl | exact (show (57 : Nat) ≠ 1 by decide) | exact ⟨by decide, (show (0 : Int) < 2 by decide)⟩ | exact ⟨by decide, (show (1 : Int) < 2 by decide)⟩ | exact ⟨by decide, (show (0 : Int) < 442 by decide)⟩) ?_
  refine ev_lt ?_
  refine ev_nw ?_
  refine ev_mo rfl rfl ?_
  refine ev_if (by first | exact h | decide | exact rfl | exact (show (57 : Nat) ≠ 1 by decide) | exact ⟨by decide, (show (0 : Int) < 2 by decide)⟩ | exact ⟨by decide, (show (1 : Int) < 2 by decide)⟩ | exact ⟨by decide, (show (0 : Int) < 442 by decide)⟩) ?_
  refine ev_lt ?_
  refine ev_cl (e1) ?_
  exact rfl
theorem cw.up {K K' : am_K} {F F' : am_F} (h : cw K F) (hK : ∀ a, a < 85 → K' a = K a) (hF : ∀ a j, a < 85 → F' a j = F a j) : cw K' F' := ⟨(hK 2 (by decide)).trans (cwK_2 h), (hK 3 (by decide)).trans (cwK_3 h), (hK 4 (by decide)).trans (cwK_4 h), (hK 5 (by decide)).trans (cwK_5 h), (hK 6 (by decide)).trans (cwK_6 h), (hK 7 (by decide)).trans (cwK_7 h), (hK 8 (by decide)).trans (cwK_8 h), (hK 9 (by decide)).trans (cwK_9 h), (hK 10 (by decide)).trans (cwK_10 h), (hK 11 (by decide)).trans (cwK_11 h), (hK 12 (by decide)).trans (cwK_12 h), (hK 13 (by decide)).trans (cwK_13 h), (hK 14 (by decide)).trans (cwK_14 h), (hK 15 (by decide)).trans (cwK_15 h), (hK 16 (by decide)).trans (cwK_16 h), (hK 17 (by decide)).trans (cwK_17 h), (hK 18 (by decide)).trans (cwK_18 h), (hK 19 (by decide)).trans (cwK_19 h), (hK 20 (by decide)).trans (cwK_20 h), (hK 21 (by decide)).trans (cwK_21 h), (hK 22 (by decide)).trans (cwK_22 h), (hK 55 (by decide)).trans (cwK_55 h), (hK 56 (by decide)).trans (cwK_56 h), (hK 57 (by decide)).trans (cwK_57 h), (hK 58 (by decide)).trans (cwK_58 h), (hK 59 (by decide)).trans (cwK_59 h), (hK 62 (by decide)).trans (cwK_62 h), (hK 63 (by decide)).trans (cwK_63 h), (hK 67 (by decide)).trans (cwK_67 h), (hK 72 (by decide)).trans (cwK_72 h), (hK 79 (by decide)).trans (cwK_79 h), (hK 80 (by decide)).trans (cwK_80 h), (hK 81 (by decide)).trans (cwK_81 h), (hK 82 (by decide)).trans (cwK_82 h), (hK 83 (by decide)).trans (cwK_83 h), (hK 84 (by decide)).trans (cwK_84 h), (hF 2 0 (by decide)).trans (cwF_2_0 h), (hF 2 1 (by decide)).trans (cwF_2_1 h), (hF 2 2 (by decide)).trans (cwF_2_2 h), (hF 2 3 (by decide)).trans (cwF_2_3 h), (hF 2 4 (by decide)).trans (cwF_2_4 h), (hF 2 5 (by decide)).trans (cwF_2_5 h), (hF 2 6 (by decide)).trans (cwF_2_6 h), (hF 2 7 (by decide)).trans (cwF_2_7 h), (hF 2 8 (by decide)).trans (cwF_2_8 h), (hF 3 4 (by decide)).trans (cwF_3_4 h), (hF 3 5 (by decide)).trans (cwF_3_5 h), (hF 3 6 (by decide)).trans (cwF_3_6 h), (hF 3 7 (by decide)).trans (cwF_3_7 h), (hF 3 8 (by decide)).trans (cwF_3_8 h), (hF 3 9 (by decide)).trans (cwF_3_9 h), (hF 3 10 (by decide)).trans (cwF_3_10 h), (hF 3 11 (by decide)).trans (cwF_3_11 h), (hF 3 12 (by decide)).trans (cwF_3_12 h), (hF 3 13 (by decide)).trans (cwF_3_13 h), (hF 3 14 (by decide)).trans (cwF_3_14 h), (hF 16 0 (by decide)).trans (cwF_16_0 h), (hF 16 1 (by decide)).trans (cwF_16_1 h), (hF 19 0 (by decide)).trans (cwF_19_0 h), (hF 19 1 (by decide)).trans (cwF_19_1 h), (hF 19 2 (by decide)).trans (cwF_19_2 h), (hF 19 4 (by decide)).trans (cwF_19_4 h), (hF 19 5 (by decide)).trans (cwF_19_5 h), (hF 19 6 (by decide)).trans (cwF_19_6 h), (hF 56 0 (by decide)).trans (cwF_56_0 h), (hF 56 1 (by decide)).trans (cwF_56_1 h), (hF 56 2 (by decide)).trans (cwF_56_2 h), (hF 62 0 (by decide)).trans (cwF_62_0 h), (hF 62 10 (by decide)).trans (cwF_62_10 h), (hF 62 11 (by decide)).trans (cwF_62_11 h), (hF 62 12 (by decide)).trans (cwF_62_12 h), (hF 63 4 (by decide)).trans (cwF_63_4 h), (hF 63 5 (by decide)).trans (cwF_63_5 h), (hF 63 6 (by decide)).trans (cwF_63_6 h), (hF 63 7 (by decide)).trans (cwF_63_7 h), (hF 63 8 (by decide)).trans (cwF_63_8 h), (hF 72 0 (by decide)).trans (cwF_72_0 h), (hF 79 3 (by decide)).trans (cwF_79_3 h), (hF 79 4 (by decide)).trans (cwF_79_4 h), (hF 82 0 (by decide)).trans (cwF_82_0 h), (hF 82 1 (by decide)).trans (cwF_82_1 h), fun j a b => (hK j (by omega)).trans (cw_rowK h j a b), fun x a b => (hF 22 x (by decide)).trans (cw_rowF h x a b)⟩
