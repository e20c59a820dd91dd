def M_X12_ok : am_M := (yX12_ok.cls, cX12_ok, 2, (some .int), am_room 0 0 0 0, false)
def X12_ok (N : Nat) (K : am_K) (F : am_F) (a0 : Nat) (I : am_I) (x1 : Int) : Option (Int × am_I) :=
  am_lt (am_u2 I a0 15 0) (fun I_1 => some (x1, I_1))
theorem w_X12_ok {η : am_E} {l : Launch} {N : Nat} {n : Nat} {K : am_K} {I : am_I} {F : am_F} {a0 : Nat} {r0 : Int × am_I} {x1 : Int} (h0 : (K a0).1 = 12) : X12_ok N K F a0 I x1 = some r0 → Ok η l M_X12_ok (am_qm η (am_pS 1 r0 n K F) 0 0) 0 [(0, qr a0), (1, qi x1)] [] n K I F 0 0 := by
  unfold X12_ok
  refine ok_aload_n (q := 1) 0 dX12_ok_0 rfl rfl rfl ?_
  refine ok_iconst (q := 2) (x := 0) dX12_ok_1 rfl rfl (by decide) ?_
  refine ok_putI (q := 5) (ci := 12) (k := 15) dX12_ok_2 rfl fo_X12_260 h0 ft_12_15 ff_12_15 (fun I_1 => ?_)
  refine ok_iload_n (q := 6) 1 dX12_ok_5 rfl rfl rfl ?_
  exact fi_ireturnS dX12_ok_6 rfl
theorem ct_X12_ok {η : am_E} {l : Launch} {N : Nat} {n : Nat} {K : am_K} {I : am_I} {F : am_F} {a0 : Nat} {r0 : Int × am_I} {x1 : Int} (h0 : (K a0).1 = 12) : X12_ok N K F a0 I x1 = some r0 → am_Ct η l yX12_ok cX12_ok 2 (some .int) 0 0 0 0 [qr a0, qi x1] n K I F (am_pS 1 r0 n K F) := fun g => am_Ct.of false (by decide) (by decide) (Nat.le_of_ble_eq_true rfl) (fun _ => w_X12_ok (N := N) h0 g)
def M_X12_no : am_M := (yX12_no.cls, cX12_no, 2, (some .int), am_room 0 0 0 0, false)
def X12_no (N : Nat) (K : am_K) (F : am_F) (a0 : Nat) (I : am_I) (x1 : Int) : Option (Int × am_I) :=
  am_lt (am_u2 I a0 15 x1) (fun I_1 => some ((-1), I_1))
theorem w_X12_no {η : am_E} {l : Launch} {N : Nat} {n : Nat} {K : am_K} {I : am_I} {F : am_F} {a0 : Nat} {r0 : Int × am_I} {x1 : Int} (h0 : (K a0).1 = 12) : X12_no N K F a0 I x1 = some r0 → Ok η l M_X12_no (am_qm η (am_pS 1 r0 n K F) 0 0) 0 [(0, qr a0), (1, qi x1)] [] n K I F 0 0 := by
  unfold X12_no
  refine ok_aload_n (q := 1) 0 dX12_no_0 rfl rfl rfl ?_
  refine ok_iload_n (q := 2) 1 dX12_no_1 rfl rfl rfl ?_
  refine ok_putI (q := 5) (ci := 12) (k := 15) dX12_no_2 rfl fo_X12_260 h0 ft_12_15 ff_12_15 (fun I_1 => ?_)
  refine ok_iconst (q := 6) (x := -1) dX12_no_5 rfl rfl (by decide) ?_
  exact fi_ireturnS dX12_no_6 rfl
theorem ct_X12_no {η : am_E} {l : Launch} {N : Nat} {n : Nat} {K : am_K} {I : am_I} {F : am_F} {a0 : Nat} {r0 : Int × am_I} {x1 : Int} (h0 : (K a0).1 = 12) : X12_no N K F a0 I x1 = some r0 → am_Ct η l yX12_no cX12_no 2 (some .int) 0 0 0 0 [qr a0, qi x1] n K I F (am_pS 1 r0 n K F) := fun g => am_Ct.of false (by decide) (by decide) (Nat.le_of_ble_eq_true rfl) (fun _ => w_X12_no (N := N) h0 g)
def M_X12_pitWhy : am_M := (yX12_pitWhy.cls, cX12_pitWhy, 3, (some .int), am_room 1 25 0 0, false)
def X12_pitWhy_b61 (N : Nat) (K : am_K) (F : am_F) (I : am_I) (a0 : Nat) (s0 : Int) : Option Int :=
  some (s0)
theorem w_X12_pitWhy_b61 {η : am_E} {l : Launch} {N : Nat} {n : Nat} {K : am_K} {I : am_I} {F : am_F} {a0 : Nat} {r0 : Int} {s0 : Int} (h0 : (K a0).1 = 12) : X12_pitWhy_b61 N K F I a0 s0 = some r0 → Ok η l M_X12_pitWhy (am_qm η (am_pS 1 (r0, I) n K F) 0 0) 61 [(0, qr a0)] [qi s0] n K I F 0 0 := by
  unfold X12_pitWhy_b61
  exact fi_ireturnP dX12_pitWhy_61 rfl
def X12_pitWhy (N : Nat) (K : am_K) (F : am_F) (I : am_I) (a0 : Nat) (x1 : Int) (x2 : Int) : Option Int :=
  if am_inI ((I a0 0) - 1) then am_cq (X12_isIn N K F I x1 0 ((I a0 0) - 1)) (fun v_2 => if v_2 = 0 then (X12_pitWhy_b61 N K F I a0 2) else (if am_inI ((I a0 1) - 1) then am_cq (X12_isIn N K F I x2 0 ((I a0 1) - 1)) (fun v_4 => if v_4 = 0 then (X12_pitWhy_b61 N K F I a0 3) else (if am_inI (x1 * (I a0 1)) then if am_inI ((x1 * (I a0 1)) + x2) then if (K (F a0 2)).1 = 101 then if (0 : Int) ≤ ((x1 * (I a0 1)) + x2) ∧ ((x1 * (I a0 1)) + x2) < (K (F a0 2)).2 then if (I (F a0 2) ((x1 * (I a0 1)) + x2)) = 0 then (X12_pitWhy_b61 N K F I a0 0) else (X12_pitWhy_b61 N K F I a0 1) else none else none else none else none)) else none)) else none
theorem w_X12_pitWhy {η : am_E} {l : Launch} {N : Nat} {n : Nat} {K : am_K} {I : am_I} {F : am_F} {a0 : Nat} {r0 : Int} {x1 : Int} {x2 : Int} (h0 : (K a0).1 = 12) : X12_pitWhy N K F I a0 x1 x2 = some r0 → Ok η l M_X12_pitWhy (am_qm η (am_pS 1 (r0, I) n K F) 0 0) 0 [(0, qr a0), (1, qi x1), (2, qi x2)] [] n K I F 0 0 := by
  unfold X12_pitWhy
  refine ok_iload_n (q := 1) 1 dX12_pitWhy_0 rfl rfl rfl ?_
  refine ok_i2l (q := 2) dX12_pitWhy_1 rfl ?_
  refine ok_lconst (q := 3) (x := 0) dX12_pitWhy_2 rfl rfl (by decide) ?_
  refine ok_aload_n (q := 4) 0 dX12_pitWhy_3 rfl rfl rfl ?_
  refine ok_getI (q := 7) (ci := 12) (k := 0) (x := I a0 0) dX12_pitWhy_4 rfl fo_X12_89 h0 rfl ?_
  refine ok_iconst (q := 8) (x := 1) dX12_pitWhy_7 rfl rfl (by decide) ?_
  refine fi_chk (fun h_1 => ?_)
  refine ok_isub (q := 9) dX12_pitWhy_8 rfl h_1 ?_
  refine ok_i2l (q := 10) dX12_pitWhy_9 rfl ?_
  refine fi_callS1P (q := 13) (as := [ql x1, ql 0, ql ((I a0 0) - 1)]) (st := []) dX12_pitWhy_10 rfl mo_X12_164 rfl rfl (Nat.le_of_ble_eq_true rfl) (Nat.le_of_ble_eq_true rfl) (Nat.le_of_ble_eq_true rfl) (Nat.zero_le _) (Nat.zero_le _) (fun _ hr => ct_X12_isIn (N := N) hr) (fun v_2 => ?_)
  refine ok_if_ne (q := 20) (q2 := 16) dX12_pitWhy_13 rfl rfl ?_ ?_
  · skip
    refine ok_iload_n (q := 21) 2 dX12_pitWhy_20 rfl rfl rfl ?_
    refine ok_i2l (q := 22) dX12_pitWhy_21 rfl ?_
    refine ok_lconst (q := 23) (x := 0) dX12_pitWhy_22 rfl rfl (by decide) ?_
    refine ok_aload_n (q := 24) 0 dX12_pitWhy_23 rfl rfl rfl ?_
    refine ok_getI (q := 27) (ci := 12) (k := 1) (x := I a0 1) dX12_pitWhy_24 rfl fo_X12_93 h0 rfl ?_
    refine ok_iconst (q := 28) (x := 1) dX12_pitWhy_27 rfl rfl (by decide) ?_
    refine fi_chk (fun h_3 => ?_)
    refine ok_isub (q := 29) dX12_pitWhy_28 rfl h_3 ?_
    refine ok_i2l (q := 30) dX12_pitWhy_29 rfl ?_
    refine fi_callS1P (q := 33) (as := [ql x2, ql 0, ql ((I a0 1) - 1)]) (st := []) dX12_pitWhy_30 rfl mo_X12_164 rfl rfl (Nat.le_of_ble_eq_true rfl) (Nat.le_of_ble_eq_true rfl) (Nat.le_of_ble_eq_true rfl) (Nat.zero_le _) (Nat.zero_le _) (fun _ hr => ct_X12_isIn (N := N) hr) (fun v_4 => ?_)
    refine ok_if_ne (q := 40) (q2 := 36) dX12_pitWhy_33 rfl rfl ?_ ?_
    · skip
      refine ok_aload_n (q := 41) 0 dX12_pitWhy_40 rfl rfl rfl ?_
      refine ok_getR (q := 44) (ci := 12) (k := 2) (x := F a0 2) dX12_pitWhy_41 rfl fo_X12_9 h0 rfl ?_
      refine ok_iload_n (q := 45) 1 dX12_pitWhy_44 rfl rfl rfl ?_
      refine ok_aload_n (q := 46) 0 dX12_pitWhy_45 rfl rfl rfl ?_
      refine ok_getI (q := 49) (ci := 12) (k := 1) (x := I a0 1) dX12_pitWhy_46 rfl fo_X12_93 h0 rfl ?_
      refine fi_chk (fun h_5 => ?_)
      refine ok_imul (q := 50) dX12_pitWhy_49 rfl h_5 ?_
      refine ok_iload_n (q := 51) 2 dX12_pitWhy_50 rfl rfl rfl ?_
      refine fi_chk (fun h_6 => ?_)
      refine ok_iadd (q := 52) dX12_pitWhy_51 rfl h_6 ?_
      refine fi_chk (fun h_7 => ?_)
      refine fi_chk (fun h_8 => ?_)
      refine ok_baload (q := 53) (v := I (F a0 2) ((x1 * (I a0 1)) + x2)) dX12_pitWhy_52 rfl h_7 h_8.1 h_8.2 rfl ?_
      refine ok_if_eq (q := 60) (q2 := 56) dX12_pitWhy_53 rfl rfl ?_ ?_
      · skip
        refine ok_iconst (q := 61) (x := 0) dX12_pitWhy_60 rfl rfl (by decide) ?_
        exact fun g => ok_pick [0] rfl (w_X12_pitWhy_b61 (N := N) h0 g)
      · skip
        refine ok_iconst (q := 57) (x := 1) dX12_pitWhy_56 rfl rfl (by decide) ?_
        refine ok_goto (q := 61) dX12_pitWhy_57 rfl ?_
        exact fun g => ok_pick [0] rfl (w_X12_pitWhy_b61 (N := N) h0 g)
    · skip
      refine ok_iconst (q := 37) (x := 3) dX12_pitWhy_36 rfl rfl (by decide) ?_
      refine ok_goto (q := 61) dX12_pitWhy_37 rfl ?_
      exact fun g => ok_pick [0] rfl (w_X12_pitWhy_b61 (N := N) h0 g)
  · skip
    refine ok_iconst (q := 17) (x := 2) dX12_pitWhy_16 rfl rfl (by decide) ?_
    refine ok_goto (q := 61) dX12_pitWhy_17 rfl ?_
    exact fun g => ok_pick [0] rfl (w_X12_pitWhy_b61 (N := N) h0 g)
theorem ct_X12_pitWhy {η : am_E} {l : Launch} {N : Nat} {n : Nat} {K : am_K} {I : am_I} {F : am_F} {a0 : Nat} {r0 : Int} {x1 : Int} {x2 : Int} (h0 : (K a0).1 = 12) : X12_pitWhy N K F I a0 x1 x2 = some r0 → am_Ct η l yX12_pitWhy cX12_pitWhy 3 (some .int) 1 25 0 0 [qr a0, qi x1, qi x2] n K I F (am_pS 1 (r0, I) n K F) := fun g => am_Ct.of false (by decide) (by decide) (Nat.le_of_ble_eq_true rfl) (fun _ => w_X12_pitWhy (N := N) h0 g)
def M_X12_board : am_M := (yX12_board.cls, cX12_board, 3, (some .int), am_room 1 26 0 0, false)
def X12_board_b22 (N : Nat) (K : am_K) (F : am_F) (a0 : Nat) (I : am_I) : Option (Int × am_I) :=
  am_cl (X12_no N K F a0 I 7) (fun v_1 I_2 => some (v_1, I_2))
theorem w_X12_board_b22 {η : am_E} {l : Launch} {N : Nat} {n : Nat} {K : am_K} {I : am_I} {F : am_F} {a0 : Nat} {r0 : Int × am_I} (h0 : (K a0).1 = 12) : X12_board_b22 N K F a0 I = some r0 → Ok η l M_X12_board (am_qm η (am_pS 1 r0 n K F) 0 0) 22 [(0, qr a0)] [] n K I F 0 0 := by
  unfold X12_board_b22
  refine ok_aload_n (q := 23) 0 dX12_board_22 rfl rfl rfl ?_
  refine ok_bipush (q := 25) (x := 7) dX12_board_23 rfl rfl (by decide) ?_
  refine fi_callV1S (q := 28) (as := [qi 7]) (st := []) dX12_board_25 rfl mo_X12_265 h0 rfl (Nat.le_of_ble_eq_true rfl) rfl rfl (Nat.le_of_ble_eq_true rfl) (Nat.le_of_ble_eq_true rfl) (Nat.le_of_ble_eq_true rfl) (Nat.zero_le _) (Nat.zero_le _) (fun _ hr => ct_X12_no (N := N) h0 hr) (fun v_1 I_2 => ?_)
  exact fi_ireturnS dX12_board_28 rfl
def X12_board_b10 (N : Nat) (K : am_K) (F : am_F) (a0 : Nat) (I : am_I) (x1 : Int) (x2 : Int) : Option (Int × am_I) :=
  am_cq (X12_isIn N K F I x2 1 8) (fun v_1 => if v_1 = 0 then (X12_board_b22 N K F a0 I) else (am_cl (X12_fresh N K F a0 I x1 x2) (fun _ I_2 => am_cq (X12_all N K F I_2 a0) (fun v_3 => am_cl (X12_ok N K F a0 I_2 v_3) (fun v_4 I_5 => some (v_4, I_5))))))
theorem w_X12_board_b10 {η : am_E} {l : Launch} {N : Nat} {n : Nat} {K : am_K} {I : am_I} {F : am_F} {a0 : Nat} {r0 : Int × am_I} {x1 : Int} {x2 : Int} (h0 : (K a0).1 = 12) : X12_board_b10 N K F a0 I x1 x2 = some r0 → Ok η l M_X12_board (am_qm η (am_pS 1 r0 n K F) 0 0) 10 [(0, qr a0), (1, qi x1), (2, qi x2)] [] n K I F 0 0 := by
  unfold X12_board_b10
  refine ok_iload_n (q := 11) 2 dX12_board_10 rfl rfl rfl ?_
  refine ok_i2l (q := 12) dX12_board_11 rfl ?_
  refine ok_lconst (q := 13) (x := 1) dX12_board_12 rfl rfl (by decide) ?_
  refine ok_ldc2 (q := 16) (x := 8) (v := 8) dX12_board_13 rfl kc_X12_263 rfl (by decide) ?_
  refine fi_callS1P (q := 19) (as := [ql x2, ql 1, ql 8]) (st := []) dX12_board_16 rfl mo_X12_164 rfl rfl (Nat.le_of_ble_eq_true rfl) (Nat.le_of_ble_eq_true rfl) (Nat.le_of_ble_eq_true rfl) (Nat.zero_le _) (Nat.zero_le _) (fun _ hr => ct_X12_isIn (N := N) hr) (fun v_1 => ?_)
  refine ok_if_ne (q := 29) (q2 := 22) dX12_board_19 rfl rfl ?_ ?_
  · skip
    refine ok_aload_n (q := 30) 0 dX12_board_29 rfl rfl rfl ?_
    refine ok_iload_n (q := 31) 1 dX12_board_30 rfl rfl rfl ?_
    refine ok_iload_n (q := 32) 2 dX12_board_31 rfl rfl rfl ?_
    refine fi_callV0S (q := 35) (as := [qi x1, qi x2]) (st := []) dX12_board_32 rfl mo_X12_85 h0 rfl (Nat.le_of_ble_eq_true rfl) rfl rfl (Nat.le_of_ble_eq_true rfl) (Nat.le_of_ble_eq_true rfl) (Nat.le_of_ble_eq_true rfl) (Nat.zero_le _) (Nat.zero_le _) (fun _ hr => ct_X12_fresh (N := N) h0 hr) (fun _ I_2 => ?_)
    refine ok_aload_n (q := 36) 0 dX12_board_35 rfl rfl rfl ?_
    refine ok_aload_n (q := 37) 0 dX12_board_36 rfl rfl rfl ?_
    refine fi_callV1P (q := 40) (as := []) (st := [qr a0]) dX12_board_37 rfl mo_X12_133 h0 rfl (Nat.le_of_ble_eq_true rfl) rfl rfl (Nat.le_of_ble_eq_true rfl) (Nat.le_of_ble_eq_true rfl) (Nat.le_of_ble_eq_true rfl) (Nat.zero_le _) (Nat.zero_le _) (fun _ hr => ct_X12_all (N := N) h0 hr) (fun v_3 => ?_)
    refine fi_callV1S (q := 43) (as := [qi v_3]) (st := []) dX12_board_40 rfl mo_X12_268 h0 rfl (Nat.le_of_ble_eq_true rfl) rfl rfl (Nat.le_of_ble_eq_true rfl) (Nat.le_of_ble_eq_true rfl) (Nat.le_of_ble_eq_true rfl) (Nat.zero_le _) (Nat.zero_le _) (fun _ hr => ct_X12_ok (N := N) h0 hr) (fun v_4 I_5 => ?_)
    exact fi_ireturnS dX12_board_43 rfl
  · skip
    exact fun g => ok_pick [0] rfl (w_X12_board_b22 (N := N) h0 g)
def X12_board (N : Nat) (K : am_K) (F : am_F) (a0 : Nat) (I : am_I) (x1 : Int) (x2 : Int) : Option (Int × am_I) :=
  if x1 = 2 then (X12_board_b10 N K F a0 I x1 x2) else (if x1 = 4 then (X12_board_b10 N K F a0 I x1 x2) else (X12_board_b22 N K F a0 I))
theorem w_X12_board {η : am_E} {l : Launch} {N : Nat} {n : Nat} {K : am_K} {I : am_I} {F : am_F} {a0 : Nat} {r0 : Int × am_I} {x1 : Int} {x2 : Int} (h0 : (K a0).1 = 12) : X12_board N K F a0 I x1 x2 = some r0 → Ok η l M_X12_board (am_qm η (am_pS 1 r0 n K F) 0 0) 0 [(0, qr a0), (1, qi x1), (2, qi x2)] [] n K I F 0 0 := by
  unfold X12_board
  refine ok_iload_n (q := 1) 1 dX12_board_0 rfl rfl rfl ?_
  refine ok_iconst (q := 2) (x := 2) dX12_board_1 rfl rfl (by decide) ?_
  refine ok_icmp_eq (q := 10) (q2 := 5) dX12_board_2 rfl rfl ?_ ?_
  · skip
    exact fun g => ok_pick [0, 1, 2] rfl (w_X12_board_b10 (N := N) h0 g)
  · skip
    refine ok_iload_n (q := 6) 1 dX12_board_5 rfl rfl rfl ?_
    refine ok_iconst (q := 7) (x := 4) dX12_board_6 rfl rfl (by decide) ?_
    refine ok_icmp_ne (q := 22) (q2 := 10) dX12_board_7 rfl rfl ?_ ?_
    · skip
      exact fun g => ok_pick [0] rfl (w_X12_board_b22 (N := N) h0 g)
    · skip
      exact fun g => ok_pick [0, 1, 2] rfl (w_X12_board_b10 (N := N) h0 g)
theorem ct_X12_board {η : am_E} {l : Launch} {N : Nat} {n : Nat} {K : am_K} {I : am_I} {F : am_F} {a0 : Nat} {r0 : Int × am_I} {x1 : Int} {x2 : Int} (h0 : (K a0).1 = 12) : X12_board N K F a0 I x1 x2 = some r0 → am_Ct η l yX12_board cX12_board 3 (some .int) 1 26 0 0 [qr a0, qi x1, qi x2] n K I F (am_pS 1 r0 n K F) := fun g => am_Ct.of false (by decide) (by decide) (Nat.le_of_ble_eq_true rfl) (fun _ => w_X12_board (N := N) h0 g)
def M_X12_lack : am_M := (yX12_lack.cls, cX12_lack, 5, (some .int), am_room 2 47 0 0, false)
def X12_lack_b42 (N : Nat) (K : am_K) (F : am_F) (a0 : Nat) (I : am_I) (x3 : Int) (x4 : Int) : Option (Int × am_I) :=
  if 0 < x3 then (am_cl (X12_no N K F a0 I x3) (fun v_9 I_10 => some (v_9, I_10))) else (if (K (F a0 2)).1 = 101 then if F a0 2 ≠ 1 then if (0 : Int) ≤ x4 ∧ x4 < (K (F a0 2)).2 then am_lt (am_u2 I (F a0 2) x4 1) (fun I_4 => am_cl (X12_otherGame N K F a0 I_4) (fun _ I_5 => am_cq (X12_there N K F I_5 a0) (fun v_6 => am_cl (X12_ok N K F a0 I_5 v_6) (fun v_7 I_8 => some (v_7, I_8))))) else none else none else none)
theorem w_X12_lack_b42 {η : am_E} {l : Launch} {N : Nat} {n : Nat} {K : am_K} {I : am_I} {F : am_F} {a0 : Nat} {r0 : Int × am_I} {x3 : Int} {x4 : Int} (h0 : (K a0).1 = 12) : X12_lack_b42 N K F a0 I x3 x4 = some r0 → Ok η l M_X12_lack (am_qm η (am_pS 1 r0 n K F) 0 0) 42 [(0, qr a0), (3, qi x3), (4, qi x4)] [] n K I F 0 0 := by
  unfold X12_lack_b42
  refine ok_iload_n (q := 43) 1 dX12_lack_42 rfl rfl rfl ?_
  refine ok_if_le (q := 52) (q2 := 46) dX12_lack_43 rfl rfl ?_ ?_
  · skip
    refine ok_aload_n (q := 53) 0 dX12_lack_52 rfl rfl rfl ?_
    refine ok_getR (q := 56) (ci := 12) (k := 2) (x := F a0 2) dX12_lack_53 rfl fo_X12_9 h0 rfl ?_
    refine ok_iload (q := 58) 2 dX12_lack_56 rfl rfl ?_
    refine ok_iconst (q := 59) (x := 1) dX12_lack_58 rfl rfl (by decide) ?_
    refine fi_chk (fun h_1 => ?_)
    refine fi_chk (fun h_2 => ?_)
    refine fi_chk (fun h_3 => ?_)
    refine ok_bastore (q := 60) dX12_lack_59 rfl h_1 h_2 h_3.1 h_3.2 (by decide) (fun I_4 => ?_)
    refine ok_aload_n (q := 61) 0 dX12_lack_60 rfl rfl rfl ?_
    refine fi_callV0S (q := 64) (as := []) (st := []) dX12_lack_61 rfl mo_X12_274 h0 rfl (Nat.le_of_ble_eq_true rfl) rfl rfl (Nat.le_of_ble_eq_true rfl) (Nat.le_of_ble_eq_true rfl) (Nat.le_of_ble_eq_true rfl) (Nat.zero_le _) (Nat.zero_le _) (fun _ hr => ct_X12_otherGame (N := N) h0 hr) (fun _ I_5 => ?_)
    refine ok_aload_n (q := 65) 0 dX12_lack_64 rfl rfl rfl ?_
    refine ok_aload_n (q := 66) 0 dX12_lack_65 rfl rfl rfl ?_
    refine fi_callV1P (q := 69) (as := []) (st := [qr a0]) dX12_lack_66 rfl mo_X12_180 h0 rfl (Nat.le_of_ble_eq_true rfl) rfl rfl (Nat.le_of_ble_eq_true rfl) (Nat.le_of_ble_eq_true rfl) (Nat.le_of_ble_eq_true rfl) (Nat.zero_le _) (Nat.zero_le _) (fun _ hr => ct_X12_there (N := N) h0 hr) (fun v_6 => ?_)
    refine fi_callV1S (q := 72) (as := [qi v_6]) (st := []) dX12_lack_69 rfl mo_X12_268 h0 rfl (Nat.le_of_ble_eq_true rfl) rfl rfl (Nat.le_of_ble_eq_true rfl) (Nat.le_of_ble_eq_true rfl) (Nat.le_of_ble_eq_true rfl) (Nat.zero_le _) (Nat.zero_le _) (fun _ hr => ct_X12_ok (N := N) h0 hr) (fun v_7 I_8 => ?_)
    exact fi_ireturnS dX12_lack_72 rfl
  · skip
    refine ok_aload_n (q := 47) 0 dX12_lack_46 rfl rfl rfl ?_
    refine ok_iload_n (q := 48) 1 dX12_lack_47 rfl rfl rfl ?_
    refine fi_callV1S (q := 51) (as := [qi x3]) (st := []) dX12_lack_48 rfl mo_X12_265 h0 rfl (Nat.le_of_ble_eq_true rfl) rfl rfl (Nat.le_of_ble_eq_true rfl) (Nat.le_of_ble_eq_true rfl) (Nat.le_of_ble_eq_true rfl) (Nat.zero_le _) (Nat.zero_le _) (fun _ hr => ct_X12_no (N := N) h0 hr) (fun v_9 I_10 => ?_)
    exact fi_ireturnS dX12_lack_51 rfl
def X12_lack_b39 (N : Nat) (K : am_K) (F : am_F) (a0 : Nat) (I : am_I) (x4 : Int) : Option (Int × am_I) :=
  X12_lack_b42 N K F a0 I 7 x4
theorem w_X12_lack_b39 {η : am_E} {l : Launch} {N : Nat} {n : Nat} {K : am_K} {I : am_I} {F : am_F} {a0 : Nat} {r0 : Int × am_I} {x4 : Int} (h0 : (K a0).1 = 12) : X12_lack_b39 N K F a0 I x4 = some r0 → Ok η l M_X12_lack (am_qm η (am_pS 1 r0 n K F) 0 0) 39 [(0, qr a0), (4, qi x4)] [] n K I F 0 0 := by
  unfold X12_lack_b39
  refine ok_bipush (q := 41) (x := 7) dX12_lack_39 rfl rfl (by decide) ?_
  refine ok_istore_n (q := 42) (ls' := [(3, qi 7), (0, qr a0), (4, qi x4)]) dX12_lack_41 rfl rfl (Nat.le_of_ble_eq_true rfl) rfl ?_
  exact fun g => ok_pick [1, 0, 2] rfl (w_X12_lack_b42 (N := N) h0 g)
def X12_lack (N : Nat) (K : am_K) (F : am_F) (a0 : Nat) (I : am_I) (x1 : Int) (x2 : Int) : Option (Int × am_I) :=
  am_cq (X12_pitWhy N K F I a0 x1 x2) (fun v_1 => am_lt (am_wI ((am_wI (x1 * (I a0 1))) + x2)) (fun x4_2 => if v_1 = 0 then (if (K (F a0 3)).1 = 100 then if (0 : Int) ≤ x4_2 ∧ x4_2 < (K (F a0 3)).2 then if (I (F a0 3) x4_2) ≤ 0 then (am_cq (X12_there N K F I a0) (fun v_5 => if v_5 = 1 then (X12_lack_b39 N K F a0 I x4_2) else (X12_lack_b42 N K F a0 I v_1 x4_2))) else (X12_lack_b39 N K F a0 I x4_2) else none else none) else (X12_lack_b42 N K F a0 I v_1 x4_2)))
theorem w_X12_lack {η : am_E} {l : Launch} {N : Nat} {n : Nat} {K : am_K} {I : am_I} {F : am_F} {a0 : Nat} {r0 : Int × am_I} {x1 : Int} {x2 : Int} (h0 : (K a0).1 = 12) : X12_lack N K F a0 I x1 x2 = some r0 → Ok η l M_X12_lack (am_qm η (am_pS 1 r0 n K F) 0 0) 0 [(0, qr a0), (1, qi x1), (2, qi x2)] [] n K I F 0 0 := by
  unfold X12_lack
  refine ok_aload_n (q := 1) 0 dX12_lack_0 rfl rfl rfl ?_
  refine ok_iload_n (q := 2) 1 dX12_lack_1 rfl rfl rfl ?_
  refine ok_iload_n (q := 3) 2 dX12_lack_2 rfl rfl rfl ?_
  refine fi_callV1P (q := 6) (as := [qi x1, qi x2]) (st := []) dX12_lack_3 rfl mo_X12_271 h0 rfl (Nat.le_of_ble_eq_true rfl) rfl rfl (Nat.le_of_ble_eq_true rfl) (Nat.le_of_ble_eq_true rfl) (Nat.le_of_ble_eq_true rfl) (Nat.zero_le _) (Nat.zero_le _) (fun _ hr => ct_X12_pitWhy (N := N) h0 hr) (fun v_1 => ?_)
  refine ok_istore_n (q := 7) (ls' := [(3, qi v_1), (0, qr a0), (1, qi x1), (2, qi x2)]) dX12_lack_6 rfl rfl (Nat.le_of_ble_eq_true rfl) rfl ?_
  refine ok_iload_n (q := 8) 2 dX12_lack_7 rfl rfl rfl ?_
  refine ok_aload_n (q := 9) 1 dX12_lack_8 rfl rfl rfl ?_
  refine ok_getI (q := 12) (ci := 12) (k := 1) (x := I a0 1) dX12_lack_9 rfl fo_X12_93 h0 rfl ?_
  refine ok_imulW (q := 13) dX12_lack_12 rfl ?_
  refine ok_iload_n (q := 14) 3 dX12_lack_13 rfl rfl rfl ?_
  refine ok_iaddW (q := 15) dX12_lack_14 rfl ?_
  refine ok_istoreL (q := 17) (fun x4_2 => [(4, qi x4_2), (3, qi v_1), (0, qr a0), (1, qi x1), (2, qi x2)]) dX12_lack_15 rfl (Nat.le_of_ble_eq_true rfl) (fun _ => rfl) (fun x4_2 => ?_)
  refine ok_iload_n (q := 18) 1 dX12_lack_17 rfl rfl rfl ?_
  refine ok_if_ne (q := 42) (q2 := 21) dX12_lack_18 rfl rfl ?_ ?_
  · skip
    exact fun g => ok_pick [2, 1, 0] rfl (w_X12_lack_b42 (N := N) h0 g)
  · skip
    refine ok_aload_n (q := 22) 2 dX12_lack_21 rfl rfl rfl ?_
    refine ok_getR (q := 25) (ci := 12) (k := 3) (x := F a0 3) dX12_lack_22 rfl fo_X12_13 h0 rfl ?_
    refine ok_iload (q := 27) 0 dX12_lack_25 rfl rfl ?_
    refine fi_chk (fun h_3 => ?_)
    refine fi_chk (fun h_4 => ?_)
    refine ok_iaload (q := 28) (v := I (F a0 3) x4_2) dX12_lack_27 rfl h_3 h_4.1 h_4.2 rfl ?_
    refine ok_if_gt (q := 39) (q2 := 31) dX12_lack_28 rfl rfl ?_ ?_
    · skip
      exact fun g => ok_pick [2, 0] rfl (w_X12_lack_b39 (N := N) h0 g)
    · skip
      refine ok_aload_n (q := 32) 2 dX12_lack_31 rfl rfl rfl ?_
      refine fi_callV1P (q := 35) (as := []) (st := []) dX12_lack_32 rfl mo_X12_180 h0 rfl (Nat.le_of_ble_eq_true rfl) rfl rfl (Nat.le_of_ble_eq_true rfl) (Nat.le_of_ble_eq_true rfl) (Nat.le_of_ble_eq_true rfl) (Nat.zero_le _) (Nat.zero_le _) (fun _ hr => ct_X12_there (N := N) h0 hr) (fun v_5 => ?_)
      refine ok_iconst (q := 36) (x := 1) dX12_lack_35 rfl rfl (by decide) ?_
      refine ok_icmp_ne (q := 42) (q2 := 39) dX12_lack_36 rfl rfl ?_ ?_
      · skip
        exact fun g => ok_pick [2, 1, 0] rfl (w_X12_lack_b42 (N := N) h0 g)
      · skip
        exact fun g => ok_pick [2, 0] rfl (w_X12_lack_b39 (N := N) h0 g)
theorem ct_X12_lack {η : am_E} {l : Launch} {N : Nat} {n : Nat} {K : am_K} {I : am_I} {F : am_F} {a0 : Nat} {r0 : Int × am_I} {x1 : Int} {x2 : Int} (h0 : (K a0).1 = 12) : X12_lack N K F a0 I x1 x2 = some r0 → am_Ct η l yX12_lack cX12_lack 5 (some .int) 2 47 0 0 [qr a0, qi x1, qi x2] n K I F (am_pS 1 r0 n K F) := fun g => am_Ct.of false (by decide) (by decide) (Nat.le_of_ble_eq_true rfl) (fun _ => w_X12_lack (N := N) h0 g)
def M_X12_seeds : am_M := (yX12_seeds.cls, cX12_seeds, 5, (some .int), am_room 2 47 0 0, false)
def X12_seeds_b29 (N : Nat) (K : am_K) (F : am_F) (a0 : Nat) (I : am_I) (x1 : Int) (x2 : Int) (x3 : Int) (x4 : Int) : Option (Int × am_I) :=
  if 0 < x4 then (am_cl (X12_no N K F a0 I x4) (fun v_11 I_12 => some (v_11, I_12))) else (if am_inI (x1 * (I a0 1)) then if am_inI ((x1 * (I a0 1)) + x2) then if (K (F a0 3)).1 = 100 then if F a0 3 ≠ 1 then if (0 : Int) ≤ ((x1 * (I a0 1)) + x2) ∧ ((x1 * (I a0 1)) + x2) < (K (F a0 3)).2 then am_lt (am_u2 I (F a0 3) ((x1 * (I a0 1)) + x2) x3) (fun I_6 => am_cl (X12_forget N K F a0 I_6) (fun _ I_7 => am_cq (X12_seedsOf N K F I_7 a0 (F a0 3)) (fun v_8 => am_cl (X12_ok N K F a0 I_7 v_8) (fun v_9 I_10 => some (v_9, I_10))))) else none else none else none else none else none)
theorem w_X12_seeds_b29 {η : am_E} {l : Launch} {N : Nat} {n : Nat} {K : am_K} {I : am_I} {F : am_F} {a0 : Nat} {r0 : Int × am_I} {x1 : Int} {x2 : Int} {x3 : Int} {x4 : Int} (h0 : (K a0).1 = 12) : X12_seeds_b29 N K F a0 I x1 x2 x3 x4 = some r0 → Ok η l M_X12_seeds (am_qm η (am_pS 1 r0 n K F) 0 0) 29 [(0, qr a0), (1, qi x1), (2, qi x2), (3, qi x3), (4, qi x4)] [] n K I F 0 0 := by
  unfold X12_seeds_b29
  refine ok_iload (q := 31) 4 dX12_seeds_29 rfl rfl ?_
  refine ok_if_le (q := 41) (q2 := 34) dX12_seeds_31 rfl rfl ?_ ?_
  · skip
    refine ok_aload_n (q := 42) 0 dX12_seeds_41 rfl rfl rfl ?_
    refine ok_getR (q := 45) (ci := 12) (k := 3) (x := F a0 3) dX12_seeds_42 rfl fo_X12_13 h0 rfl ?_
    refine ok_iload_n (q := 46) 1 dX12_seeds_45 rfl rfl rfl ?_
    refine ok_aload_n (q := 47) 0 dX12_seeds_46 rfl rfl rfl ?_
    refine ok_getI (q := 50) (ci := 12) (k := 1) (x := I a0 1) dX12_seeds_47 rfl fo_X12_93 h0 rfl ?_
    refine fi_chk (fun h_1 => ?_)
    refine ok_imul (q := 51) dX12_seeds_50 rfl h_1 ?_
    refine ok_iload_n (q := 52) 2 dX12_seeds_51 rfl rfl rfl ?_
    refine fi_chk (fun h_2 => ?_)
    refine ok_iadd (q := 53) dX12_seeds_52 rfl h_2 ?_
    refine ok_iload_n (q := 54) 3 dX12_seeds_53 rfl rfl rfl ?_
    refine fi_chk (fun h_3 => ?_)
    refine fi_chk (fun h_4 => ?_)
    refine fi_chk (fun h_5 => ?_)
    refine ok_iastore (q := 55) dX12_seeds_54 rfl h_3 h_4 h_5.1 h_5.2 (fun I_6 => ?_)
    refine ok_aload_n (q := 56) 0 dX12_seeds_55 rfl rfl rfl ?_
    refine fi_callV0S (q := 59) (as := []) (st := []) dX12_seeds_56 rfl mo_X12_248 h0 rfl (Nat.le_of_ble_eq_true rfl) rfl rfl (Nat.le_of_ble_eq_true rfl) (Nat.le_of_ble_eq_true rfl) (Nat.le_of_ble_eq_true rfl) (Nat.zero_le _) (Nat.zero_le _) (fun _ hr => ct_X12_forget (N := N) h0 hr) (fun _ I_7 => ?_)
    refine ok_aload_n (q := 60) 0 dX12_seeds_59 rfl rfl rfl ?_
    refine ok_aload_n (q := 61) 0 dX12_seeds_60 rfl rfl rfl ?_
    refine ok_aload_n (q := 62) 0 dX12_seeds_61 rfl rfl rfl ?_
    refine ok_getR (q := 65) (ci := 12) (k := 3) (x := F a0 3) dX12_seeds_62 rfl fo_X12_13 h0 rfl ?_
    refine fi_callV1P (q := 68) (as := [qr (F a0 3)]) (st := [qr a0]) dX12_seeds_65 rfl mo_X12_189 h0 rfl (Nat.le_of_ble_eq_true rfl) rfl rfl (Nat.le_of_ble_eq_true rfl) (Nat.le_of_ble_eq_true rfl) (Nat.le_of_ble_eq_true rfl) (Nat.zero_le _) (Nat.zero_le _) (fun _ hr => ct_X12_seedsOf (N := N) h0 hr) (fun v_8 => ?_)
    refine fi_callV1S (q := 71) (as := [qi v_8]) (st := []) dX12_seeds_68 rfl mo_X12_268 h0 rfl (Nat.le_of_ble_eq_true rfl) rfl rfl (Nat.le_of_ble_eq_true rfl) (Nat.le_of_ble_eq_true rfl) (Nat.le_of_ble_eq_true rfl) (Nat.zero_le _) (Nat.zero_le _) (fun _ hr => ct_X12_ok (N := N) h0 hr) (fun v_9 I_10 => ?_)
    exact fi_ireturnS dX12_seeds_71 rfl
  · skip
    refine ok_aload_n (q := 35) 0 dX12_seeds_34 rfl rfl rfl ?_
    refine ok_iload (q := 37) 4 dX12_seeds_35 rfl rfl ?_
    refine fi_callV1S (q := 40) (as := [qi x4]) (st := []) dX12_seeds_37 rfl mo_X12_265 h0 rfl (Nat.le_of_ble_eq_true rfl) rfl rfl (Nat.le_of_ble_eq_true rfl) (Nat.le_of_ble_eq_true rfl) (Nat.le_of_ble_eq_true rfl) (Nat.zero_le _) (Nat.zero_le _) (fun _ hr => ct_X12_no (N := N) h0 hr) (fun v_11 I_12 => ?_)
    exact fi_ireturnS dX12_seeds_40 rfl
def X12_seeds (N : Nat) (K : am_K) (F : am_F) (a0 : Nat) (I : am_I) (x1 : Int) (x2 : Int) (x3 : Int) : Option (Int × am_I) :=
  am_cq (X12_pitWhy N K F I a0 x1 x2) (fun v_1 => if v_1 = 0 then (am_cq (X12_isIn N K F I x3 0 60) (fun v_2 => if v_2 = 0 then (X12_seeds_b29 N K F a0 I x1 x2 x3 7) else (X12_seeds_b29 N K F a0 I x1 x2 x3 v_1))) else (X12_seeds_b29 N K F a0 I x1 x2 x3 v_1))
theorem w_X12_seeds {η : am_E} {l : Launch} {N : Nat} {n : Nat} {K : am_K} {I : am_I} {F : am_F} {a0 : Nat} {r0 : Int × am_I} {x1 : Int} {x2 : Int} {x3 : Int} (h0 : (K a0).1 = 12) : X12_seeds N K F a0 I x1 x2 x3 = some r0 → Ok η l M_X12_seeds (am_qm η (am_pS 1 r0 n K F) 0 0) 0 [(0, qr a0), (1, qi x1), (2, qi x2), (3, qi x3)] [] n K I F 0 0 := by
  unfold X12_seeds
  refine ok_aload_n (q := 1) 0 dX12_seeds_0 rfl rfl rfl ?_
  refine ok_iload_n (q := 2) 1 dX12_seeds_1 rfl rfl rfl ?_
  refine ok_iload_n (q := 3) 2 dX12_seeds_2 rfl rfl rfl ?_
  refine fi_callV1P (q := 6) (as := [qi x1, qi x2]) (st := []) dX12_seeds_3 rfl mo_X12_271 h0 rfl (Nat.le_of_ble_eq_true rfl) rfl rfl (Nat.le_of_ble_eq_true rfl) (Nat.le_of_ble_eq_true rfl) (Nat.le_of_ble_eq_true rfl) (Nat.zero_le _) (Nat.zero_le _) (fun _ hr => ct_X12_pitWhy (N := N) h0 hr) (fun v_1 => ?_)
  refine ok_istore (q := 8) (ls' := [(4, qi v_1), (0, qr a0), (1, qi x1), (2, qi x2), (3, qi x3)]) dX12_seeds_6 rfl (Nat.le_of_ble_eq_true rfl) rfl ?_
  refine ok_iload (q := 10) 0 dX12_seeds_8 rfl rfl ?_
  refine ok_if_ne (q := 29) (q2 := 13) dX12_seeds_10 rfl rfl ?_ ?_
  · skip
    exact fun g => ok_pick [1, 2, 3, 4, 0] rfl (w_X12_seeds_b29 (N := N) h0 g)
  · skip
    refine ok_iload_n (q := 14) 4 dX12_seeds_13 rfl rfl rfl ?_
    refine ok_i2l (q := 15) dX12_seeds_14 rfl ?_
    refine ok_lconst (q := 16) (x := 0) dX12_seeds_15 rfl rfl (by decide) ?_
    refine ok_ldc2 (q := 19) (x := 60) (v := 60) dX12_seeds_16 rfl kc_X12_277 rfl (by decide) ?_
    refine fi_callS1P (q := 22) (as := [ql x3, ql 0, ql 60]) (st := []) dX12_seeds_19 rfl mo_X12_164 rfl rfl (Nat.le_of_ble_eq_true rfl) (Nat.le_of_ble_eq_true rfl) (Nat.le_of_ble_eq_true rfl) (Nat.zero_le _) (Nat.zero_le _) (fun _ hr => ct_X12_isIn (N := N) hr) (fun v_2 => ?_)
    refine ok_if_ne (q := 29) (q2 := 25) dX12_seeds_22 rfl rfl ?_ ?_
    · skip
      exact fun g => ok_pick [1, 2, 3, 4, 0] rfl (w_X12_seeds_b29 (N := N) h0 g)
    · skip
      refine ok_bipush (q := 27) (x := 7) dX12_seeds_25 rfl rfl (by decide) ?_
      refine ok_istore (q := 29) (ls' := [(4, qi 7), (0, qr a0), (1, qi x1), (2, qi x2), (3, qi x3)]) dX12_seeds_27 rfl (Nat.le_of_ble_eq_true rfl) rfl ?_
      exact fun g => ok_pick [1, 2, 3, 4, 0] rfl (w_X12_seeds_b29 (N := N) h0 g)
theorem ct_X12_seeds {η : am_E} {l : Launch} {N : Nat} {n : Nat} {K : am_K} {I : am_I} {F : am_F} {a0 : Nat} {r0 : Int × am_I} {x1 : Int} {x2 : Int} {x3 : Int} (h0 : (K a0).1 = 12) : X12_seeds N K F a0 I x1 x2 x3 = some r0 → am_Ct η l yX12_seeds cX12_seeds 5 (some .int) 2 47 0 0 [qr a0, qi x1, qi x2, qi x3] n K I F (am_pS 1 r0 n K F) := fun g => am_Ct.of false (by decide) (by decide) (Nat.le_of_ble_eq_true rfl) (fun _ => w_X12_seeds (N := N) h0 g)
def M_X12_store : am_M := (yX12_store.cls, cX12_store, 3, (some .int), am_room 1 25 0 0, false)
def X12_store (N : Nat) (K : am_K) (F : am_F) (a0 : Nat) (I : am_I) (x1 : Int) (x2 : Int) : Option (Int × am_I) :=
  am_cq (X12_isIn N K F I x1 0 1) (fun v_1 => if v_1 = 0 then (am_cl (X12_no N K F a0 I 3) (fun v_12 I_13 => some (v_12, I_13))) else (am_cq (X12_isIn N K F I x2 0 1000) (fun v_2 => if v_2 = 0 then (am_cl (X12_no N K F a0 I 7) (fun v_10 I_11 => some (v_10, I_11))) else (if (K (F a0 4)).1 = 100 then if F a0 4 ≠ 1 then if (0 : Int) ≤ x1 ∧ x1 < (K (F a0 4)).2 then am_lt (am_u2 I (F a0 4) x1 x2) (fun I_6 => am_cl (X12_forget N K F a0 I_6) (fun _ I_7 => am_cl (X12_ok N K F a0 I_7 x2) (fun v_8 I_9 => some (v_8, I_9)))) else none else none else none))))
theorem w_X12_store {η : am_E} {l : Launch} {N : Nat} {n : Nat} {K : am_K} {I : am_I} {F : am_F} {a0 : Nat} {r0 : Int × am_I} {x1 : Int} {x2 : Int} (h0 : (K a0).1 = 12) : X12_store N K F a0 I x1 x2 = some r0 → Ok η l M_X12_store (am_qm η (am_pS 1 r0 n K F) 0 0) 0 [(0, qr a0), (1, qi x1), (2, qi x2)] [] n K I F 0 0 := by
  unfold X12_store
  refine ok_iload_n (q := 1) 1 dX12_store_0 rfl rfl rfl ?_
  refine ok_i2l (q := 2) dX12_store_1 rfl ?_
  refine ok_lconst (q := 3) (x := 0) dX12_store_2 rfl rfl (by decide) ?_
  refine ok_lconst (q := 4) (x := 1) dX12_store_3 rfl rfl (by decide) ?_
  refine fi_callS1P (q := 7) (as := [ql x1, ql 0, ql 1]) (st := []) dX12_store_4 rfl mo_X12_164 rfl rfl (Nat.le_of_ble_eq_true rfl) (Nat.le_of_ble_eq_true rfl) (Nat.le_of_ble_eq_true rfl) (Nat.zero_le _) (Nat.zero_le _) (fun _ hr => ct_X12_isIn (N := N) hr) (fun v_1 => ?_)
  refine ok_if_ne (q := 16) (q2 := 10) dX12_store_7 rfl rfl ?_ ?_
  · skip
    refine ok_iload_n (q := 17) 2 dX12_store_16 rfl rfl rfl ?_
    refine ok_i2l (q := 18) dX12_store_17 rfl ?_
    refine ok_lconst (q := 19) (x := 0) dX12_store_18 rfl rfl (by decide) ?_
    refine ok_ldc2 (q := 22) (x := 1000) (v := 1000) dX12_store_19 rfl kc_X12_279 rfl (by decide) ?_
    refine fi_callS1P (q := 25) (as := [ql x2, ql 0, ql 1000]) (st := []) dX12_store_22 rfl mo_X12_164 rfl rfl (Nat.le_of_ble_eq_true rfl) (Nat.le_of_ble_eq_true rfl) (Nat.le_of_ble_eq_true rfl) (Nat.zero_le _) (Nat.zero_le _) (fun _ hr => ct_X12_isIn (N := N) hr) (fun v_2 => ?_)
    refine ok_if_ne (q := 35) (q2 := 28) dX12_store_25 rfl rfl ?_ ?_
    · skip
      refine ok_aload_n (q := 36) 0 dX12_store_35 rfl rfl rfl ?_
      refine ok_getR (q := 39) (ci := 12) (k := 4) (x := F a0 4) dX12_store_36 rfl fo_X12_17 h0 rfl ?_
      refine ok_iload_n (q := 40) 1 dX12_store_39 rfl rfl rfl ?_
      refine ok_iload_n (q := 41) 2 dX12_store_40 rfl rfl rfl ?_
      refine fi_chk (fun h_3 => ?_)
      refine fi_chk (fun h_4 => ?_)
      refine fi_chk (fun h_5 => ?_)
      refine ok_iastore (q := 42) dX12_store_41 rfl h_3 h_4 h_5.1 h_5.2 (fun I_6 => ?_)
      refine ok_aload_n (q := 43) 0 dX12_store_42 rfl rfl rfl ?_
      refine fi_callV0S (q := 46) (as := []) (st := []) dX12_store_43 rfl mo_X12_248 h0 rfl (Nat.le_of_ble_eq_true rfl) rfl rfl (Nat.le_of_ble_eq_true rfl) (Nat.le_of_ble_eq_true rfl) (Nat.le_of_ble_eq_true rfl) (Nat.zero_le _) (Nat.zero_le _) (fun _ hr => ct_X12_forget (N := N) h0 hr) (fun _ I_7 => ?_)
      refine ok_aload_n (q := 47) 0 dX12_store_46 rfl rfl rfl ?_
      refine ok_iload_n (q := 48) 2 dX12_store_47 rfl rfl rfl ?_
      refine fi_callV1S (q := 51) (as := [qi x2]) (st := []) dX12_store_48 rfl mo_X12_268 h0 rfl (Nat.le_of_ble_eq_true rfl) rfl rfl (Nat.le_of_ble_eq_true rfl) (Nat.le_of_ble_eq_true rfl) (Nat.le_of_ble_eq_true rfl) (Nat.zero_le _) (Nat.zero_le _) (fun _ hr => ct_X12_ok (N := N) h0 hr) (fun v_8 I_9 => ?_)
      exact fi_ireturnS dX12_store_51 rfl
    · skip
      refine ok_aload_n (q := 29) 0 dX12_store_28 rfl rfl rfl ?_
      refine ok_bipush (q := 31) (x := 7) dX12_store_29 rfl rfl (by decide) ?_
      refine fi_callV1S (q := 34) (as := [qi 7]) (st := []) dX12_store_31 rfl mo_X12_265 h0 rfl (Nat.le_of_ble_eq_true rfl) rfl rfl (Nat.le_of_ble_eq_true rfl) (Nat.le_of_ble_eq_true rfl) (Nat.le_of_ble_eq_true rfl) (Nat.zero_le _) (Nat.zero_le _) (fun _ hr => ct_X12_no (N := N) h0 hr) (fun v_10 I_11 => ?_)
      exact fi_ireturnS dX12_store_34 rfl
  · skip
    refine ok_aload_n (q := 11) 0 dX12_store_10 rfl rfl rfl ?_
    refine ok_iconst (q := 12) (x := 3) dX12_store_11 rfl rfl (by decide) ?_
    refine fi_callV1S (q := 15) (as := [qi 3]) (st := []) dX12_store_12 rfl mo_X12_265 h0 rfl (Nat.le_of_ble_eq_true rfl) rfl rfl (Nat.le_of_ble_eq_true rfl) (Nat.le_of_ble_eq_true rfl) (Nat.le_of_ble_eq_true rfl) (Nat.zero_le _) (Nat.zero_le _) (fun _ hr => ct_X12_no (N := N) h0 hr) (fun v_12 I_13 => ?_)
    exact fi_ireturnS dX12_store_15 rfl
theorem ct_X12_store {η : am_E} {l : Launch} {N : Nat} {n : Nat} {K : am_K} {I : am_I} {F : am_F} {a0 : Nat} {r0 : Int × am_I} {x1 : Int} {x2 : Int} (h0 : (K a0).1 = 12) : X12_store N K F a0 I x1 x2 = some r0 → am_Ct η l yX12_store cX12_store 3 (some .int) 1 25 0 0 [qr a0, qi x1, qi x2] n K I F (am_pS 1 r0 n K F) := fun g => am_Ct.of false (by decide) (by decide) (Nat.le_of_ble_eq_true rfl) (fun _ => w_X12_store (N := N) h0 g)
def M_X12_side : am_M := (yX12_side.cls, cX12_side, 2, (some .int), am_room 1 25 0 0, false)
def X12_side (N : Nat) (K : am_K) (F : am_F) (a0 : Nat) (I : am_I) (x1 : Int) : Option (Int × am_I) :=
  am_cq (X12_isIn N K F I x1 0 1) (fun v_1 => if v_1 = 0 then (am_cl (X12_no N K F a0 I 3) (fun v_6 I_7 => some (v_6, I_7))) else (am_lt (am_u2 I a0 5 x1) (fun I_2 => am_cl (X12_forget N K F a0 I_2) (fun _ I_3 => am_cl (X12_ok N K F a0 I_3 x1) (fun v_4 I_5 => some (v_4, I_5))))))
theorem w_X12_side {η : am_E} {l : Launch} {N : Nat} {n : Nat} {K : am_K} {I : am_I} {F : am_F} {a0 : Nat} {r0 : Int × am_I} {x1 : Int} (h0 : (K a0).1 = 12) : X12_side N K F a0 I x1 = some r0 → Ok η l M_X12_side (am_qm η (am_pS 1 r0 n K F) 0 0) 0 [(0, qr a0), (1, qi x1)] [] n K I F 0 0 := by
  unfold X12_side
  refine ok_iload_n (q := 1) 1 dX12_side_0 rfl rfl rfl ?_
  refine ok_i2l (q := 2) dX12_side_1 rfl ?_
  refine ok_lconst (q := 3) (x := 0) dX12_side_2 rfl rfl (by decide) ?_
  refine ok_lconst (q := 4) (x := 1) dX12_side_3 rfl rfl (by decide) ?_
  refine fi_callS1P (q := 7) (as := [ql x1, ql 0, ql 1]) (st := []) dX12_side_4 rfl mo_X12_164 rfl rfl (Nat.le_of_ble_eq_true rfl) (Nat.le_of_ble_eq_true rfl) (Nat.le_of_ble_eq_true rfl) (Nat.zero_le _) (Nat.zero_le _) (fun _ hr => ct_X12_isIn (N := N) hr) (fun v_1 => ?_)
  refine ok_if_ne (q := 16) (q2 := 10) dX12_side_7 rfl rfl ?_ ?_
  · skip
    refine ok_aload_n (q := 17) 0 dX12_side_16 rfl rfl rfl ?_
    refine ok_iload_n (q := 18) 1 dX12_side_17 rfl rfl rfl ?_
    refine ok_putI (q := 21) (ci := 12) (k := 5) dX12_side_18 rfl fo_X12_96 h0 ft_12_5 ff_12_5 (fun I_2 => ?_)
    refine ok_aload_n (q := 22) 0 dX12_side_21 rfl rfl rfl ?_
    refine fi_callV0S (q := 25) (as := []) (st := []) dX12_side_22 rfl mo_X12_248 h0 rfl (Nat.le_of_ble_eq_true rfl) rfl rfl (Nat.le_of_ble_eq_true rfl) (Nat.le_of_ble_eq_true rfl) (Nat.le_of_ble_eq_true rfl) (Nat.zero_le _) (Nat.zero_le _) (fun _ hr => ct_X12_forget (N := N) h0 hr) (fun _ I_3 => ?_)
    refine ok_aload_n (q := 26) 0 dX12_side_25 rfl rfl rfl ?_
    refine ok_iload_n (q := 27) 1 dX12_side_26 rfl rfl rfl ?_
    refine fi_callV1S (q := 30) (as := [qi x1]) (st := []) dX12_side_27 rfl mo_X12_268 h0 rfl (Nat.le_of_ble_eq_true rfl) rfl rfl (Nat.le_of_ble_eq_true rfl) (Nat.le_of_ble_eq_true rfl) (Nat.le_of_ble_eq_true rfl) (Nat.zero_le _) (Nat.zero_le _) (fun _ hr => ct_X12_ok (N := N) h0 hr) (fun v_4 I_5 => ?_)
    exact fi_ireturnS dX12_side_30 rfl
  · skip
    refine ok_aload_n (q := 11) 0 dX12_side_10 rfl rfl rfl ?_
    refine ok_iconst (q := 12) (x := 3) dX12_side_11 rfl rfl (by decide) ?_
    refine fi_callV1S (q := 15) (as := [qi 3]) (st := []) dX12_side_12 rfl mo_X12_265 h0 rfl (Nat.le_of_ble_eq_true rfl) rfl rfl (Nat.le_of_ble_eq_true rfl) (Nat.le_of_ble_eq_true rfl) (Nat.le_of_ble_eq_true rfl) (Nat.zero_le _) (Nat.zero_le _) (fun _ hr => ct_X12_no (N := N) h0 hr) (fun v_6 I_7 => ?_)
    exact fi_ireturnS dX12_side_15 rfl
theorem ct_X12_side {η : am_E} {l : Launch} {N : Nat} {n : Nat} {K : am_K} {I : am_I} {F : am_F} {a0 : Nat} {r0 : Int × am_I} {x1 : Int} (h0 : (K a0).1 = 12) : X12_side N K F a0 I x1 = some r0 → am_Ct η l yX12_side cX12_side 2 (some .int) 1 25 0 0 [qr a0, qi x1] n K I F (am_pS 1 r0 n K F) := fun g => am_Ct.of false (by decide) (by decide) (Nat.le_of_ble_eq_true rfl) (fun _ => w_X12_side (N := N) h0 g)
def M_X12_rule : am_M := (yX12_rule.cls, cX12_rule, 2, (some .int), am_room 2 40 0 0, false)
def X12_rule (N : Nat) (K : am_K) (F : am_F) (a0 : Nat) (I : am_I) (x1 : Int) : Option (Int × am_I) :=
  am_cq (X12_isIn N K F I x1 0 3) (fun v_1 => if v_1 = 0 then (am_cl (X12_no N K F a0 I 7) (fun v_9 I_10 => some (v_9, I_10))) else (am_lt (am_u2 I a0 6 x1) (fun I_2 => am_lt (am_u2 I_2 a0 7 10) (fun I_3 => am_lt (am_u2 I_3 a0 8 2) (fun I_4 => am_lt (am_u2 I_4 a0 9 3) (fun I_5 => am_cl (X12_otherGame N K F a0 I_5) (fun _ I_6 => am_cl (X12_ok N K F a0 I_6 (I_6 a0 6)) (fun v_7 I_8 => some (v_7, I_8)))))))))
theorem w_X12_rule {η : am_E} {l : Launch} {N : Nat} {n : Nat} {K : am_K} {I : am_I} {F : am_F} {a0 : Nat} {r0 : Int × am_I} {x1 : Int} (h0 : (K a0).1 = 12) : X12_rule N K F a0 I x1 = some r0 → Ok η l M_X12_rule (am_qm η (am_pS 1 r0 n K F) 0 0) 0 [(0, qr a0), (1, qi x1)] [] n K I F 0 0 := by
  unfold X12_rule
  refine ok_iload_n (q := 1) 1 dX12_rule_0 rfl rfl rfl ?_
  refine ok_i2l (q := 2) dX12_rule_1 rfl ?_
  refine ok_lconst (q := 3) (x := 0) dX12_rule_2 rfl rfl (by decide) ?_
  refine ok_ldc2 (q := 6) (x := 3) (v := 3) dX12_rule_3 rfl kc_X12_281 rfl (by decide) ?_
  refine fi_callS1P (q := 9) (as := [ql x1, ql 0, ql 3]) (st := []) dX12_rule_6 rfl mo_X12_164 rfl rfl (Nat.le_of_ble_eq_true rfl) (Nat.le_of_ble_eq_true rfl) (Nat.le_of_ble_eq_true rfl) (Nat.zero_le _) (Nat.zero_le _) (fun _ hr => ct_X12_isIn (N := N) hr) (fun v_1 => ?_)
  refine ok_if_ne (q := 19) (q2 := 12) dX12_rule_9 rfl rfl ?_ ?_
  · skip
    refine ok_aload_n (q := 20) 0 dX12_rule_19 rfl rfl rfl ?_
    refine ok_iload_n (q := 21) 1 dX12_rule_20 rfl rfl rfl ?_
    refine ok_putI (q := 24) (ci := 12) (k := 6) dX12_rule_21 rfl fo_X12_99 h0 ft_12_6 ff_12_6 (fun I_2 => ?_)
    refine ok_aload_n (q := 25) 0 dX12_rule_24 rfl rfl rfl ?_
    refine ok_bipush (q := 27) (x := 10) dX12_rule_25 rfl rfl (by decide) ?_
    refine ok_putI (q := 30) (ci := 12) (k := 7) dX12_rule_27 rfl fo_X12_102 h0 ft_12_7 ff_12_7 (fun I_3 => ?_)
    refine ok_aload_n (q := 31) 0 dX12_rule_30 rfl rfl rfl ?_
    refine ok_iconst (q := 32) (x := 2) dX12_rule_31 rfl rfl (by decide) ?_
    refine ok_putI (q := 35) (ci := 12) (k := 8) dX12_rule_32 rfl fo_X12_105 h0 ft_12_8 ff_12_8 (fun I_4 => ?_)
    refine ok_aload_n (q := 36) 0 dX12_rule_35 rfl rfl rfl ?_
    refine ok_iconst (q := 37) (x := 3) dX12_rule_36 rfl rfl (by decide) ?_
    refine ok_putI (q := 40) (ci := 12) (k := 9) dX12_rule_37 rfl fo_X12_108 h0 ft_12_9 ff_12_9 (fun I_5 => ?_)
    refine ok_aload_n (q := 41) 0 dX12_rule_40 rfl rfl rfl ?_
    refine fi_callV0S (q := 44) (as := []) (st := []) dX12_rule_41 rfl mo_X12_274 h0 rfl (Nat.le_of_ble_eq_true rfl) rfl rfl (Nat.le_of_ble_eq_true rfl) (Nat.le_of_ble_eq_true rfl) (Nat.le_of_ble_eq_true rfl) (Nat.zero_le _) (Nat.zero_le _) (fun _ hr => ct_X12_otherGame (N := N) h0 hr) (fun _ I_6 => ?_)
    refine ok_aload_n (q := 45) 0 dX12_rule_44 rfl rfl rfl ?_
    refine ok_aload_n (q := 46) 0 dX12_rule_45 rfl rfl rfl ?_
    refine ok_getI (q := 49) (ci := 12) (k := 6) (x := I_6 a0 6) dX12_rule_46 rfl fo_X12_99 h0 rfl ?_
    refine fi_callV1S (q := 52) (as := [qi (I_6 a0 6)]) (st := []) dX12_rule_49 rfl mo_X12_268 h0 rfl (Nat.le_of_ble_eq_true rfl) rfl rfl (Nat.le_of_ble_eq_true rfl) (Nat.le_of_ble_eq_true rfl) (Nat.le_of_ble_eq_true rfl) (Nat.zero_le _) (Nat.zero_le _) (fun _ hr => ct_X12_ok (N := N) h0 hr) (fun v_7 I_8 => ?_)
    exact fi_ireturnS dX12_rule_52 rfl
  · skip
    refine ok_aload_n (q := 13) 0 dX12_rule_12 rfl rfl rfl ?_
    refine ok_bipush (q := 15) (x := 7) dX12_rule_13 rfl rfl (by decide) ?_
    refine fi_callV1S (q := 18) (as := [qi 7]) (st := []) dX12_rule_15 rfl mo_X12_265 h0 rfl (Nat.le_of_ble_eq_true rfl) rfl rfl (Nat.le_of_ble_eq_true rfl) (Nat.le_of_ble_eq_true rfl) (Nat.le_of_ble_eq_true rfl) (Nat.zero_le _) (Nat.zero_le _) (fun _ hr => ct_X12_no (N := N) h0 hr) (fun v_9 I_10 => ?_)
    exact fi_ireturnS dX12_rule_18 rfl
theorem ct_X12_rule {η : am_E} {l : Launch} {N : Nat} {n : Nat} {K : am_K} {I : am_I} {F : am_F} {a0 : Nat} {r0 : Int × am_I} {x1 : Int} (h0 : (K a0).1 = 12) : X12_rule N K F a0 I x1 = some r0 → am_Ct η l yX12_rule cX12_rule 2 (some .int) 2 40 0 0 [qr a0, qi x1] n K I F (am_pS 1 r0 n K F) := fun g => am_Ct.of false (by decide) (by decide) (Nat.le_of_ble_eq_true rfl) (fun _ => w_X12_rule (N := N) h0 g)
def M_X12_rounds : am_M := (yX12_rounds.cls, cX12_rounds, 2, (some .int), am_room 2 40 0 0, false)
def X12_rounds (N : Nat) (K : am_K) (F : am_F) (a0 : Nat) (I : am_I) (x1 : Int) : Option (Int × am_I) :=
  am_cq (X12_isIn N K F I x1 1 50) (fun v_1 => if v_1 = 0 then (am_cl (X12_no N K F a0 I 7) (fun v_8 I_9 => some (v_8, I_9))) else (if (I a0 6) = 1 then (am_lt (am_u2 I a0 7 x1) (fun I_2 => am_cl (X12_otherGame N K F a0 I_2) (fun _ I_3 => am_cl (X12_ok N K F a0 I_3 x1) (fun v_4 I_5 => some (v_4, I_5))))) else (am_cl (X12_no N K F a0 I 4) (fun v_6 I_7 => some (v_6, I_7)))))
theorem w_X12_rounds {η : am_E} {l : Launch} {N : Nat} {n : Nat} {K : am_K} {I : am_I} {F : am_F} {a0 : Nat} {r0 : Int × am_I} {x1 : Int} (h0 : (K a0).1 = 12) : X12_rounds N K F a0 I x1 = some r0 → Ok η l M_X12_rounds (am_qm η (am_pS 1 r0 n K F) 0 0) 0 [(0, qr a0), (1, qi x1)] [] n K I F 0 0 := by
  unfold X12_rounds
  refine ok_iload_n (q := 1) 1 dX12_rounds_0 rfl rfl rfl ?_
  refine ok_i2l (q := 2) dX12_rounds_1 rfl ?_
  refine ok_lconst (q := 3) (x := 1) dX12_rounds_2 rfl rfl (by decide) ?_
  refine ok_ldc2 (q := 6) (x := 50) (v := 50) dX12_rounds_3 rfl kc_X12_283 rfl (by decide) ?_
  refine fi_callS1P (q := 9) (as := [ql x1, ql 1, ql 50]) (st := []) dX12_rounds_6 rfl mo_X12_164 rfl rfl (Nat.le_of_ble_eq_true rfl) (Nat.le_of_ble_eq_true rfl) (Nat.le_of_ble_eq_true rfl) (Nat.zero_le _) (Nat.zero_le _) (fun _ hr => ct_X12_isIn (N := N) hr) (fun v_1 => ?_)
  refine ok_if_ne (q := 19) (q2 := 12) dX12_rounds_9 rfl rfl ?_ ?_
  · skip
    refine ok_aload_n (q := 20) 0 dX12_rounds_19 rfl rfl rfl ?_
    refine ok_getI (q := 23) (ci := 12) (k := 6) (x := I a0 6) dX12_rounds_20 rfl fo_X12_99 h0 rfl ?_
    refine ok_iconst (q := 24) (x := 1) dX12_rounds_23 rfl rfl (by decide) ?_
    refine ok_icmp_eq (q := 33) (q2 := 27) dX12_rounds_24 rfl rfl ?_ ?_
    · skip
      refine ok_aload_n (q := 34) 0 dX12_rounds_33 rfl rfl rfl ?_
      refine ok_iload_n (q := 35) 1 dX12_rounds_34 rfl rfl rfl ?_
      refine ok_putI (q := 38) (ci := 12) (k := 7) dX12_rounds_35 rfl fo_X12_102 h0 ft_12_7 ff_12_7 (fun I_2 => ?_)
      refine ok_aload_n (q := 39) 0 dX12_rounds_38 rfl rfl rfl ?_
      refine fi_callV0S (q := 42) (as := []) (st := []) dX12_rounds_39 rfl mo_X12_274 h0 rfl (Nat.le_of_ble_eq_true rfl) rfl rfl (Nat.le_of_ble_eq_true rfl) (Nat.le_of_ble_eq_true rfl) (Nat.le_of_ble_eq_true rfl) (Nat.zero_le _) (Nat.zero_le _) (fun _ hr => ct_X12_otherGame (N := N) h0 hr) (fun _ I_3 => ?_)
      refine ok_aload_n (q := 43) 0 dX12_rounds_42 rfl rfl rfl ?_
      refine ok_iload_n (q := 44) 1 dX12_rounds_43 rfl rfl rfl ?_
      refine fi_callV1S (q := 47) (as := [qi x1]) (st := []) dX12_rounds_44 rfl mo_X12_268 h0 rfl (Nat.le_of_ble_eq_true rfl) rfl rfl (Nat.le_of_ble_eq_true rfl) (Nat.le_of_ble_eq_true rfl) (Nat.le_of_ble_eq_true rfl) (Nat.zero_le _) (Nat.zero_le _) (fun _ hr => ct_X12_ok (N := N) h0 hr) (fun v_4 I_5 => ?_)
      exact fi_ireturnS dX12_rounds_47 rfl
    · skip
      refine ok_aload_n (q := 28) 0 dX12_rounds_27 rfl rfl rfl ?_
      refine ok_iconst (q := 29) (x := 4) dX12_rounds_28 rfl rfl (by decide) ?_
      refine fi_callV1S (q := 32) (as := [qi 4]) (st := []) dX12_rounds_29 rfl mo_X12_265 h0 rfl (Nat.le_of_ble_eq_true rfl) rfl rfl (Nat.le_of_ble_eq_true rfl) (Nat.le_of_ble_eq_true rfl) (Nat.le_of_ble_eq_true rfl) (Nat.zero_le _) (Nat.zero_le _) (fun _ hr => ct_X12_no (N := N) h0 hr) (fun v_6 I_7 => ?_)
      exact fi_ireturnS dX12_rounds_32 rfl
  · skip
    refine ok_aload_n (q := 13) 0 dX12_rounds_12 rfl rfl rfl ?_
    refine ok_bipush (q := 15) (x := 7) dX12_rounds_13 rfl rfl (by decide) ?_
    refine fi_callV1S (q := 18) (as := [qi 7]) (st := []) dX12_rounds_15 rfl mo_X12_265 h0 rfl (Nat.le_of_ble_eq_true rfl) rfl rfl (Nat.le_of_ble_eq_true rfl) (Nat.le_of_ble_eq_true rfl) (Nat.le_of_ble_eq_true rfl) (Nat.zero_le _) (Nat.zero_le _) (fun _ hr => ct_X12_no (N := N) h0 hr) (fun v_8 I_9 => ?_)
    exact fi_ireturnS dX12_rounds_18 rfl
theorem ct_X12_rounds {η : am_E} {l : Launch} {N : Nat} {n : Nat} {K : am_K} {I : am_I} {F : am_F} {a0 : Nat} {r0 : Int × am_I} {x1 : Int} (h0 : (K a0).1 = 12) : X12_rounds N K F a0 I x1 = some r0 → am_Ct η l yX12_rounds cX12_rounds 2 (some .int) 2 40 0 0 [qr a0, qi x1] n K I F (am_pS 1 r0 n K F) := fun g => am_Ct.of false (by decide) (by decide) (Nat.le_of_ble_eq_true rfl) (fun _ => w_X12_rounds (N := N) h0 g)
def M_X12_takes : am_M := (yX12_takes.cls, cX12_takes, 3, (some .int), am_room 2 40 0 0, false)
def X12_takes_b23 (N : Nat) (K : am_K) (F : am_F) (a0 : Nat) (I : am_I) : Option (Int × am_I) :=
  am_cl (X12_no N K F a0 I 7) (fun v_1 I_2 => some (v_1, I_2))
theorem w_X12_takes_b23 {η : am_E} {l : Launch} {N : Nat} {n : Nat} {K : am_K} {I : am_I} {F : am_F} {a0 : Nat} {r0 : Int × am_I} (h0 : (K a0).1 = 12) : X12_takes_b23 N K F a0 I = some r0 → Ok η l M_X12_takes (am_qm η (am_pS 1 r0 n K F) 0 0) 23 [(0, qr a0)] [] n K I F 0 0 := by
  unfold X12_takes_b23
  refine ok_aload_n (q := 24) 0 dX12_takes_23 rfl rfl rfl ?_
  refine ok_bipush (q := 26) (x := 7) dX12_takes_24 rfl rfl (by decide) ?_
  refine fi_callV1S (q := 29) (as := [qi 7]) (st := []) dX12_takes_26 rfl mo_X12_265 h0 rfl (Nat.le_of_ble_eq_true rfl) rfl rfl (Nat.le_of_ble_eq_true rfl) (Nat.le_of_ble_eq_true rfl) (Nat.le_of_ble_eq_true rfl) (Nat.zero_le _) (Nat.zero_le _) (fun _ hr => ct_X12_no (N := N) h0 hr) (fun v_1 I_2 => ?_)
  exact fi_ireturnS dX12_takes_29 rfl
def X12_takes (N : Nat) (K : am_K) (F : am_F) (a0 : Nat) (I : am_I) (x1 : Int) (x2 : Int) : Option (Int × am_I) :=
  am_cq (X12_isIn N K F I x2 1 20) (fun v_1 => if v_1 = 0 then (X12_takes_b23 N K F a0 I) else (am_cq (X12_isIn N K F I x1 1 x2) (fun v_2 => if v_2 = 0 then (X12_takes_b23 N K F a0 I) else (if (I a0 6) = 2 then (am_lt (am_u2 I a0 8 x1) (fun I_3 => am_lt (am_u2 I_3 a0 9 x2) (fun I_4 => am_cl (X12_otherGame N K F a0 I_4) (fun _ I_5 => am_cl (X12_ok N K F a0 I_5 (I_5 a0 9)) (fun v_6 I_7 => some (v_6, I_7)))))) else (am_cl (X12_no N K F a0 I 4) (fun v_8 I_9 => some (v_8, I_9)))))))
theorem w_X12_takes {η : am_E} {l : Launch} {N : Nat} {n : Nat} {K : am_K} {I : am_I} {F : am_F} {a0 : Nat} {r0 : Int × am_I} {x1 : Int} {x2 : Int} (h0 : (K a0).1 = 12) : X12_takes N K F a0 I x1 x2 = some r0 → Ok η l M_X12_takes (am_qm η (am_pS 1 r0 n K F) 0 0) 0 [(0, qr a0), (1, qi x1), (2, qi x2)] [] n K I F 0 0 := by
  unfold X12_takes
  refine ok_iload_n (q := 1) 2 dX12_takes_0 rfl rfl rfl ?_
  refine ok_i2l (q := 2) dX12_takes_1 rfl ?_
  refine ok_lconst (q := 3) (x := 1) dX12_takes_2 rfl rfl (by decide) ?_
  refine ok_ldc2 (q := 6) (x := 20) (v := 20) dX12_takes_3 rfl kc_X12_285 rfl (by decide) ?_
  refine fi_callS1P (q := 9) (as := [ql x2, ql 1, ql 20]) (st := []) dX12_takes_6 rfl mo_X12_164 rfl rfl (Nat.le_of_ble_eq_true rfl) (Nat.le_of_ble_eq_true rfl) (Nat.le_of_ble_eq_true rfl) (Nat.zero_le _) (Nat.zero_le _) (fun _ hr => ct_X12_isIn (N := N) hr) (fun v_1 => ?_)
  refine ok_if_eq (q := 23) (q2 := 12) dX12_takes_9 rfl rfl ?_ ?_
  · skip
    exact fun g => ok_pick [0] rfl (w_X12_takes_b23 (N := N) h0 g)
  · skip
    refine ok_iload_n (q := 13) 1 dX12_takes_12 rfl rfl rfl ?_
    refine ok_i2l (q := 14) dX12_takes_13 rfl ?_
    refine ok_lconst (q := 15) (x := 1) dX12_takes_14 rfl rfl (by decide) ?_
    refine ok_iload_n (q := 16) 2 dX12_takes_15 rfl rfl rfl ?_
    refine ok_i2l (q := 17) dX12_takes_16 rfl ?_
    refine fi_callS1P (q := 20) (as := [ql x1, ql 1, ql x2]) (st := []) dX12_takes_17 rfl mo_X12_164 rfl rfl (Nat.le_of_ble_eq_true rfl) (Nat.le_of_ble_eq_true rfl) (Nat.le_of_ble_eq_true rfl) (Nat.zero_le _) (Nat.zero_le _) (fun _ hr => ct_X12_isIn (N := N) hr) (fun v_2 => ?_)
    refine ok_if_ne (q := 30) (q2 := 23) dX12_takes_20 rfl rfl ?_ ?_
    · skip
      refine ok_aload_n (q := 31) 0 dX12_takes_30 rfl rfl rfl ?_
      refine ok_getI (q := 34) (ci := 12) (k := 6) (x := I a0 6) dX12_takes_31 rfl fo_X12_99 h0 rfl ?_
      refine ok_iconst (q := 35) (x := 2) dX12_takes_34 rfl rfl (by decide) ?_
      refine ok_icmp_eq (q := 44) (q2 := 38) dX12_takes_35 rfl rfl ?_ ?_
      · skip
        refine ok_aload_n (q := 45) 0 dX12_takes_44 rfl rfl rfl ?_
        refine ok_iload_n (q := 46) 1 dX12_takes_45 rfl rfl rfl ?_
        refine ok_putI (q := 49) (ci := 12) (k := 8) dX12_takes_46 rfl fo_X12_105 h0 ft_12_8 ff_12_8 (fun I_3 => ?_)
        refine ok_aload_n (q := 50) 0 dX12_takes_49 rfl rfl rfl ?_
        refine ok_iload_n (q := 51) 2 dX12_takes_50 rfl rfl rfl ?_
        refine ok_putI (q := 54) (ci := 12) (k := 9) dX12_takes_51 rfl fo_X12_108 h0 ft_12_9 ff_12_9 (fun I_4 => ?_)
        refine ok_aload_n (q := 55) 0 dX12_takes_54 rfl rfl rfl ?_
        refine fi_callV0S (q := 58) (as := []) (st := []) dX12_takes_55 rfl mo_X12_274 h0 rfl (Nat.le_of_ble_eq_true rfl) rfl rfl (Nat.le_of_ble_eq_true rfl) (Nat.le_of_ble_eq_true rfl) (Nat.le_of_ble_eq_true rfl) (Nat.zero_le _) (Nat.zero_le _) (fun _ hr => ct_X12_otherGame (N := N) h0 hr) (fun _ I_5 => ?_)
        refine ok_aload_n (q := 59) 0 dX12_takes_58 rfl rfl rfl ?_
        refine ok_aload_n (q := 60) 0 dX12_takes_59 rfl rfl rfl ?_
        refine ok_getI (q := 63) (ci := 12) (k := 9) (x := I_5 a0 9) dX12_takes_60 rfl fo_X12_108 h0 rfl ?_
        refine fi_callV1S (q := 66) (as := [qi (I_5 a0 9)]) (st := []) dX12_takes_63 rfl mo_X12_268 h0 rfl (Nat.le_of_ble_eq_true rfl) rfl rfl (Nat.le_of_ble_eq_true rfl) (Nat.le_of_ble_eq_true rfl) (Nat.le_of_ble_eq_true rfl) (Nat.zero_le _) (Nat.zero_le _) (fun _ hr => ct_X12_ok (N := N) h0 hr) (fun v_6 I_7 => ?_)
        exact fi_ireturnS dX12_takes_66 rfl
      · skip
        refine ok_aload_n (q := 39) 0 dX12_takes_38 rfl rfl rfl ?_
        refine ok_iconst (q := 40) (x := 4) dX12_takes_39 rfl rfl (by decide) ?_
        refine fi_callV1S (q := 43) (as := [qi 4]) (st := []) dX12_takes_40 rfl mo_X12_265 h0 rfl (Nat.le_of_ble_eq_true rfl) rfl rfl (Nat.le_of_ble_eq_true rfl) (Nat.le_of_ble_eq_true rfl) (Nat.le_of_ble_eq_true rfl) (Nat.zero_le _) (Nat.zero_le _) (fun _ hr => ct_X12_no (N := N) h0 hr) (fun v_8 I_9 => ?_)
        exact fi_ireturnS dX12_takes_43 rfl
    · skip
      exact fun g => ok_pick [0] rfl (w_X12_takes_b23 (N := N) h0 g)
theorem ct_X12_takes {η : am_E} {l : Launch} {N : Nat} {n : Nat} {K : am_K} {I : am_I} {F : am_F} {a0 : Nat} {r0 : Int × am_I} {x1 : Int} {x2 : Int} (h0 : (K a0).1 = 12) : X12_takes N K F a0 I x1 x2 = some r0 → am_Ct η l yX12_takes cX12_takes 3 (some .int) 2 40 0 0 [qr a0, qi x1, qi x2] n K I F (am_pS 1 r0 n K F) := fun g => am_Ct.of false (by decide) (by decide) (Nat.le_of_ble_eq_true rfl) (fun _ => w_X12_takes (N := N) h0 g)
def M_X12_least : am_M := (yX12_least.cls, cX12_least, 2, (some .int), am_room 2 40 0 0, false)
def X12_least (N : Nat) (K : am_K) (F : am_F) (a0 : Nat) (I : am_I) (x1 : Int) : Option (Int × am_I) :=
  am_cq (X12_isIn N K F I x1 1 4) (fun v_1 => if v_1 = 0 then (am_cl (X12_no N K F a0 I 7) (fun v_6 I_7 => some (v_6, I_7))) else (am_lt (am_u2 I a0 10 x1) (fun I_2 => am_cl (X12_otherGame N K F a0 I_2) (fun _ I_3 => am_cl (X12_ok N K F a0 I_3 x1) (fun v_4 I_5 => some (v_4, I_5))))))
theorem w_X12_least {η : am_E} {l : Launch} {N : Nat} {n : Nat} {K : am_K} {I : am_I} {F : am_F} {a0 : Nat} {r0 : Int × am_I} {x1 : Int} (h0 : (K a0).1 = 12) : X12_least N K F a0 I x1 = some r0 → Ok η l M_X12_least (am_qm η (am_pS 1 r0 n K F) 0 0) 0 [(0, qr a0), (1, qi x1)] [] n K I F 0 0 := by
  unfold X12_least
  refine ok_iload_n (q := 1) 1 dX12_least_0 rfl rfl rfl ?_
  refine ok_i2l (q := 2) dX12_least_1 rfl ?_
  refine ok_lconst (q := 3) (x := 1) dX12_least_2 rfl rfl (by decide) ?_
  refine ok_ldc2 (q := 6) (x := 4) (v := 4) dX12_least_3 rfl kc_X12_287 rfl (by decide) ?_
  refine fi_callS1P (q := 9) (as := [ql x1, ql 1, ql 4]) (st := []) dX12_least_6 rfl mo_X12_164 rfl rfl (Nat.le_of_ble_eq_true rfl) (Nat.le_of_ble_eq_true rfl) (Nat.le_of_ble_eq_true rfl) (Nat.zero_le _) (Nat.zero_le _) (fun _ hr => ct_X12_isIn (N := N) hr) (fun v_1 => ?_)
  refine ok_if_ne (q := 19) (q2 := 12) dX12_least_9 rfl rfl ?_ ?_
  · skip
    refine ok_aload_n (q := 20) 0 dX12_least_19 rfl rfl rfl ?_
    refine ok_iload_n (q := 21) 1 dX12_least_20 rfl rfl rfl ?_
    refine ok_putI (q := 24) (ci := 12) (k := 10) dX12_least_21 rfl fo_X12_111 h0 ft_12_10 ff_12_10 (fun I_2 => ?_)
    refine ok_aload_n (q := 25) 0 dX12_least_24 rfl rfl rfl ?_
    refine fi_callV0S (q := 28) (as := []) (st := []) dX12_least_25 rfl mo_X12_274 h0 rfl (Nat.le_of_ble_eq_true rfl) rfl rfl (Nat.le_of_ble_eq_true rfl) (Nat.le_of_ble_eq_true rfl) (Nat.le_of_ble_eq_true rfl) (Nat.zero_le _) (Nat.zero_le _) (fun _ hr => ct_X12_otherGame (N := N) h0 hr) (fun _ I_3 => ?_)
    refine ok_aload_n (q := 29) 0 dX12_least_28 rfl rfl rfl ?_
    refine ok_iload_n (q := 30) 1 dX12_least_29 rfl rfl rfl ?_
    refine fi_callV1S (q := 33) (as := [qi x1]) (st := []) dX12_least_30 rfl mo_X12_268 h0 rfl (Nat.le_of_ble_eq_true rfl) rfl rfl (Nat.le_of_ble_eq_true rfl) (Nat.le_of_ble_eq_true rfl) (Nat.le_of_ble_eq_true rfl) (Nat.zero_le _) (Nat.zero_le _) (fun _ hr => ct_X12_ok (N := N) h0 hr) (fun v_4 I_5 => ?_)
    exact fi_ireturnS dX12_least_33 rfl
  · skip
    refine ok_aload_n (q := 13) 0 dX12_least_12 rfl rfl rfl ?_
    refine ok_bipush (q := 15) (x := 7) dX12_least_13 rfl rfl (by decide) ?_
    refine fi_callV1S (q := 18) (as := [qi 7]) (st := []) dX12_least_15 rfl mo_X12_265 h0 rfl (Nat.le_of_ble_eq_true rfl) rfl rfl (Nat.le_of_ble_eq_true rfl) (Nat.le_of_ble_eq_true rfl) (Nat.le_of_ble_eq_true rfl) (Nat.zero_le _) (Nat.zero_le _) (fun _ hr => ct_X12_no (N := N) h0 hr) (fun v_6 I_7 => ?_)
    exact fi_ireturnS dX12_least_18 rfl
theorem ct_X12_least {η : am_E} {l : Launch} {N : Nat} {n : Nat} {K : am_K} {I : am_I} {F : am_F} {a0 : Nat} {r0 : Int × am_I} {x1 : Int} (h0 : (K a0).1 = 12) : X12_least N K F a0 I x1 = some r0 → am_Ct η l yX12_least cX12_least 2 (some .int) 2 40 0 0 [qr a0, qi x1] n K I F (am_pS 1 r0 n K F) := fun g => am_Ct.of false (by decide) (by decide) (Nat.le_of_ble_eq_true rfl) (fun _ => w_X12_least (N := N) h0 g)
def M_X12_feeding : am_M := (yX12_feeding.cls, cX12_feeding, 2, (some .int), am_room 2 40 0 0, false)
def X12_feeding_b28 (N : Nat) (K : am_K) (F : am_F) (a0 : Nat) (I : am_I) (x1 : Int) (s0 : Int) (t1 : Nat) : Option (Int × am_I) :=
  if (K t1).1 = 12 then if s0 = 0 ∨ s0 = 1 then am_lt (am_u2 I t1 11 s0) (fun I_3 => am_cl (X12_otherGame N K F a0 I_3) (fun _ I_4 => am_cl (X12_ok N K F a0 I_4 x1) (fun v_5 I_6 => some (v_5, I_6)))) else none else none
theorem w_X12_feeding_b28 {η : am_E} {l : Launch} {N : Nat} {n : Nat} {K : am_K} {I : am_I} {F : am_F} {a0 : Nat} {r0 : Int × am_I} {x1 : Int} {s0 : Int} {t1 : Nat} (h0 : (K a0).1 = 12) : X12_feeding_b28 N K F a0 I x1 s0 t1 = some r0 → Ok η l M_X12_feeding (am_qm η (am_pS 1 r0 n K F) 0 0) 28 [(0, qr a0), (1, qi x1)] [qi s0, qr t1] n K I F 0 0 := by
  unfold X12_feeding_b28
  refine fi_chk (fun h_1 => ?_)
  refine fi_chk (fun h_2 => ?_)
  refine ok_putZ (q := 31) (ci := 12) (k := 11) dX12_feeding_28 rfl fo_X12_114 h_1 ft_12_11 h_2 ff_12_11 (fun I_3 => ?_)
  refine ok_aload_n (q := 32) 0 dX12_feeding_31 rfl rfl rfl ?_
  refine fi_callV0S (q := 35) (as := []) (st := []) dX12_feeding_32 rfl mo_X12_274 h0 rfl (Nat.le_of_ble_eq_true rfl) rfl rfl (Nat.le_of_ble_eq_true rfl) (Nat.le_of_ble_eq_true rfl) (Nat.le_of_ble_eq_true rfl) (Nat.zero_le _) (Nat.zero_le _) (fun _ hr => ct_X12_otherGame (N := N) h0 hr) (fun _ I_4 => ?_)
  refine ok_aload_n (q := 36) 0 dX12_feeding_35 rfl rfl rfl ?_
  refine ok_iload_n (q := 37) 1 dX12_feeding_36 rfl rfl rfl ?_
  refine fi_callV1S (q := 40) (as := [qi x1]) (st := []) dX12_feeding_37 rfl mo_X12_268 h0 rfl (Nat.le_of_ble_eq_true rfl) rfl rfl (Nat.le_of_ble_eq_true rfl) (Nat.le_of_ble_eq_true rfl) (Nat.le_of_ble_eq_true rfl) (Nat.zero_le _) (Nat.zero_le _) (fun _ hr => ct_X12_ok (N := N) h0 hr) (fun v_5 I_6 => ?_)
  exact fi_ireturnS dX12_feeding_40 rfl
def X12_feeding (N : Nat) (K : am_K) (F : am_F) (a0 : Nat) (I : am_I) (x1 : Int) : Option (Int × am_I) :=
  am_cq (X12_isIn N K F I x1 0 1) (fun v_1 => if v_1 = 0 then (am_cl (X12_no N K F a0 I 7) (fun v_2 I_3 => some (v_2, I_3))) else (if x1 = 1 then (X12_feeding_b28 N K F a0 I x1 1 a0) else (X12_feeding_b28 N K F a0 I x1 0 a0)))
theorem w_X12_feeding {η : am_E} {l : Launch} {N : Nat} {n : Nat} {K : am_K} {I : am_I} {F : am_F} {a0 : Nat} {r0 : Int × am_I} {x1 : Int} (h0 : (K a0).1 = 12) : X12_feeding N K F a0 I x1 = some r0 → Ok η l M_X12_feeding (am_qm η (am_pS 1 r0 n K F) 0 0) 0 [(0, qr a0), (1, qi x1)] [] n K I F 0 0 := by
  unfold X12_feeding
  refine ok_iload_n (q := 1) 1 dX12_feeding_0 rfl rfl rfl ?_
  refine ok_i2l (q := 2) dX12_feeding_1 rfl ?_
  refine ok_lconst (q := 3) (x := 0) dX12_feeding_2 rfl rfl (by decide) ?_
  refine ok_lconst (q := 4) (x := 1) dX12_feeding_3 rfl rfl (by decide) ?_
  refine fi_callS1P (q := 7) (as := [ql x1, ql 0, ql 1]) (st := []) dX12_feeding_4 rfl mo_X12_164 rfl rfl (Nat.le_of_ble_eq_true rfl) (Nat.le_of_ble_eq_true rfl) (Nat.le_of_ble_eq_true rfl) (Nat.zero_le _) (Nat.zero_le _) (fun _ hr => ct_X12_isIn (N := N) hr) (fun v_1 => ?_)
  refine ok_if_ne (q := 17) (q2 := 10) dX12_feeding_7 rfl rfl ?_ ?_
  · skip
    refine ok_aload_n (q := 18) 0 dX12_feeding_17 rfl rfl rfl ?_
    refine ok_iload_n (q := 19) 1 dX12_feeding_18 rfl rfl rfl ?_
    refine ok_iconst (q := 20) (x := 1) dX12_feeding_19 rfl rfl (by decide) ?_
    refine ok_icmp_ne (q := 27) (q2 := 23) dX12_feeding_20 rfl rfl ?_ ?_
    · skip
      refine ok_iconst (q := 28) (x := 0) dX12_feeding_27 rfl rfl (by decide) ?_
      exact fun g => ok_pick [0, 1] rfl (w_X12_feeding_b28 (N := N) h0 g)
    · skip
      refine ok_iconst (q := 24) (x := 1) dX12_feeding_23 rfl rfl (by decide) ?_
      refine ok_goto (q := 28) dX12_feeding_24 rfl ?_
      exact fun g => ok_pick [0, 1] rfl (w_X12_feeding_b28 (N := N) h0 g)
  · skip
    refine ok_aload_n (q := 11) 0 dX12_feeding_10 rfl rfl rfl ?_
    refine ok_bipush (q := 13) (x := 7) dX12_feeding_11 rfl rfl (by decide) ?_
    refine fi_callV1S (q := 16) (as := [qi 7]) (st := []) dX12_feeding_13 rfl mo_X12_265 h0 rfl (Nat.le_of_ble_eq_true rfl) rfl rfl (Nat.le_of_ble_eq_true rfl) (Nat.le_of_ble_eq_true rfl) (Nat.le_of_ble_eq_true rfl) (Nat.zero_le _) (Nat.zero_le _) (fun _ hr => ct_X12_no (N := N) h0 hr) (fun v_2 I_3 => ?_)
    exact fi_ireturnS dX12_feeding_16 rfl
theorem ct_X12_feeding {η : am_E} {l : Launch} {N : Nat} {n : Nat} {K : am_K} {I : am_I} {F : am_F} {a0 : Nat} {r0 : Int × am_I} {x1 : Int} (h0 : (K a0).1 = 12) : X12_feeding N K F a0 I x1 = some r0 → am_Ct η l yX12_feeding cX12_feeding 2 (some .int) 2 40 0 0 [qr a0, qi x1] n K I F (am_pS 1 r0 n K F) := fun g => am_Ct.of false (by decide) (by decide) (Nat.le_of_ble_eq_true rfl) (fun _ => w_X12_feeding (N := N) h0 g)
def M_X12_ends : am_M := (yX12_ends.cls, cX12_ends, 2, (some .int), am_room 2 40 0 0, false)
def X12_ends (N : Nat) (K : am_K) (F : am_F) (a0 : Nat) (I : am_I) (x1 : Int) : Option (Int × am_I) :=
  am_cq (X12_isIn N K F I x1 0 2) (fun v_1 => if v_1 = 0 then (am_cl (X12_no N K F a0 I 7) (fun v_6 I_7 => some (v_6, I_7))) else (am_lt (am_u2 I a0 12 x1) (fun I_2 => am_cl (X12_otherGame N K F a0 I_2) (fun _ I_3 => am_cl (X12_ok N K F a0 I_3 x1) (fun v_4 I_5 => some (v_4, I_5))))))
theorem w_X12_ends {η : am_E} {l : Launch} {N : Nat} {n : Nat} {K : am_K} {I : am_I} {F : am_F} {a0 : Nat} {r0 : Int × am_I} {x1 : Int} (h0 : (K a0).1 = 12) : X12_ends N K F a0 I x1 = some r0 → Ok η l M_X12_ends (am_qm η (am_pS 1 r0 n K F) 0 0) 0 [(0, qr a0), (1, qi x1)] [] n K I F 0 0 := by
  unfold X12_ends
  refine ok_iload_n (q := 1) 1 dX12_ends_0 rfl rfl rfl ?_
  refine ok_i2l (q := 2) dX12_ends_1 rfl ?_
  refine ok_lconst (q := 3) (x := 0) dX12_ends_2 rfl rfl (by decide) ?_
  refine ok_ldc2 (q := 6) (x := 2) (v := 2) dX12_ends_3 rfl kc_X12_187 rfl (by decide) ?_
  refine fi_callS1P (q := 9) (as := [ql x1, ql 0, ql 2]) (st := []) dX12_ends_6 rfl mo_X12_164 rfl rfl (Nat.le_of_ble_eq_true rfl) (Nat.le_of_ble_eq_true rfl) (Nat.le_of_ble_eq_true rfl) (Nat.zero_le _) (Nat.zero_le _) (fun _ hr => ct_X12_isIn (N := N) hr) (fun v_1 => ?_)
  refine ok_if_ne (q := 19) (q2 := 12) dX12_ends_9 rfl rfl ?_ ?_
  · skip
    refine ok_aload_n (q := 20) 0 dX12_ends_19 rfl rfl rfl ?_
    refine ok_iload_n (q := 21) 1 dX12_ends_20 rfl rfl rfl ?_
    refine ok_putI (q := 24) (ci := 12) (k := 12) dX12_ends_21 rfl fo_X12_118 h0 ft_12_12 ff_12_12 (fun I_2 => ?_)
    refine ok_aload_n (q := 25) 0 dX12_ends_24 rfl rfl rfl ?_
    refine fi_callV0S (q := 28) (as := []) (st := []) dX12_ends_25 rfl mo_X12_274 h0 rfl (Nat.le_of_ble_eq_true rfl) rfl rfl (Nat.le_of_ble_eq_true rfl) (Nat.le_of_ble_eq_true rfl) (Nat.le_of_ble_eq_true rfl) (Nat.zero_le _) (Nat.zero_le _) (fun _ hr => ct_X12_otherGame (N := N) h0 hr) (fun _ I_3 => ?_)
    refine ok_aload_n (q := 29) 0 dX12_ends_28 rfl rfl rfl ?_
    refine ok_iload_n (q := 30) 1 dX12_ends_29 rfl rfl rfl ?_
    refine fi_callV1S (q := 33) (as := [qi x1]) (st := []) dX12_ends_30 rfl mo_X12_268 h0 rfl (Nat.le_of_ble_eq_true rfl) rfl rfl (Nat.le_of_ble_eq_true rfl) (Nat.le_of_ble_eq_true rfl) (Nat.le_of_ble_eq_true rfl) (Nat.zero_le _) (Nat.zero_le _) (fun _ hr => ct_X12_ok (N := N) h0 hr) (fun v_4 I_5 => ?_)
    exact fi_ireturnS dX12_ends_33 rfl
  · skip
    refine ok_aload_n (q := 13) 0 dX12_ends_12 rfl rfl rfl ?_
    refine ok_bipush (q := 15) (x := 7) dX12_ends_13 rfl rfl (by decide) ?_
    refine fi_callV1S (q := 18) (as := [qi 7]) (st := []) dX12_ends_15 rfl mo_X12_265 h0 rfl (Nat.le_of_ble_eq_true rfl) rfl rfl (Nat.le_of_ble_eq_true rfl) (Nat.le_of_ble_eq_true rfl) (Nat.le_of_ble_eq_true rfl) (Nat.zero_le _) (Nat.zero_le _) (fun _ hr => ct_X12_no (N := N) h0 hr) (fun v_6 I_7 => ?_)
    exact fi_ireturnS dX12_ends_18 rfl
theorem ct_X12_ends {η : am_E} {l : Launch} {N : Nat} {n : Nat} {K : am_K} {I : am_I} {F : am_F} {a0 : Nat} {r0 : Int × am_I} {x1 : Int} (h0 : (K a0).1 = 12) : X12_ends N K F a0 I x1 = some r0 → am_Ct η l yX12_ends cX12_ends 2 (some .int) 2 40 0 0 [qr a0, qi x1] n K I F (am_pS 1 r0 n K F) := fun g => am_Ct.of false (by decide) (by decide) (Nat.le_of_ble_eq_true rfl) (fun _ => w_X12_ends (N := N) h0 g)
def M_X12_move : am_M := (yX12_move.cls, cX12_move, 5, (some .int), am_room 5 120 0 0, false)
def X12_move_b142 (N : Nat) (K : am_K) (F : am_F) (a0 : Nat) (I : am_I) (s0 : Int) : Option (Int × am_I) :=
  some (s0, I)
theorem w_X12_move_b142 {η : am_E} {l : Launch} {N : Nat} {n : Nat} {K : am_K} {I : am_I} {F : am_F} {a0 : Nat} {r0 : Int × am_I} {s0 : Int} (h0 : (K a0).1 = 12) : X12_move_b142 N K F a0 I s0 = some r0 → Ok η l M_X12_move (am_qm η (am_pS 1 r0 n K F) 0 0) 142 [(0, qr a0)] [qi s0] n K I F 0 0 := by
  unfold X12_move_b142
  exact fi_ireturnS dX12_move_142 rfl
def X12_move_b120 (N : Nat) (K : am_K) (F : am_F) (a0 : Nat) (I : am_I) (x3 : Int) (x4 : Int) : Option (Int × am_I) :=
  if 0 < x3 then (am_cl (X12_no N K F a0 I x3) (fun v_5 I_6 => X12_move_b142 N K F a0 I_6 v_5)) else (am_cl (X12_moveFrom N K F a0 I x4) (fun v_1 I_2 => am_cl (X12_ok N K F a0 I_2 v_1) (fun v_3 I_4 => X12_move_b142 N K F a0 I_4 v_3)))
theorem w_X12_move_b120 {η : am_E} {l : Launch} {N : Nat} {n : Nat} {K : am_K} {I : am_I} {F : am_F} {a0 : Nat} {r0 : Int × am_I} {x3 : Int} {x4 : Int} (h0 : (K a0).1 = 12) : X12_move_b120 N K F a0 I x3 x4 = some r0 → Ok η l M_X12_move (am_qm η (am_pS 1 r0 n K F) 0 0) 120 [(0, qr a0), (3, qi x3), (4, qi x4)] [] n K I F 0 0 := by
  unfold X12_move_b120
  refine ok_iload_n (q := 121) 1 dX12_move_120 rfl rfl rfl ?_
  refine ok_if_le (q := 132) (q2 := 124) dX12_move_121 rfl rfl ?_ ?_
  · skip
    refine ok_aload_n (q := 133) 0 dX12_move_132 rfl rfl rfl ?_
    refine ok_aload_n (q := 134) 0 dX12_move_133 rfl rfl rfl ?_
    refine ok_iload (q := 136) 2 dX12_move_134 rfl rfl ?_
    refine fi_callV1S (q := 139) (as := [qi x4]) (st := [qr a0]) dX12_move_136 rfl mo_X12_289 h0 rfl (Nat.le_of_ble_eq_true rfl) rfl rfl (Nat.le_of_ble_eq_true rfl) (Nat.le_of_ble_eq_true rfl) (Nat.le_of_ble_eq_true rfl) (Nat.zero_le _) (Nat.zero_le _) (fun _ hr => ct_X12_moveFrom (N := N) h0 hr) (fun v_1 I_2 => ?_)
    refine fi_callV1S (q := 142) (as := [qi v_1]) (st := []) dX12_move_139 rfl mo_X12_268 h0 rfl (Nat.le_of_ble_eq_true rfl) rfl rfl (Nat.le_of_ble_eq_true rfl) (Nat.le_of_ble_eq_true rfl) (Nat.le_of_ble_eq_true rfl) (Nat.zero_le _) (Nat.zero_le _) (fun _ hr => ct_X12_ok (N := N) h0 hr) (fun v_3 I_4 => ?_)
    exact fun g => ok_pick [0] rfl (w_X12_move_b142 (N := N) h0 g)
  · skip
    refine ok_aload_n (q := 125) 0 dX12_move_124 rfl rfl rfl ?_
    refine ok_iload_n (q := 126) 1 dX12_move_125 rfl rfl rfl ?_
    refine fi_callV1S (q := 129) (as := [qi x3]) (st := []) dX12_move_126 rfl mo_X12_265 h0 rfl (Nat.le_of_ble_eq_true rfl) rfl rfl (Nat.le_of_ble_eq_true rfl) (Nat.le_of_ble_eq_true rfl) (Nat.le_of_ble_eq_true rfl) (Nat.zero_le _) (Nat.zero_le _) (fun _ hr => ct_X12_no (N := N) h0 hr) (fun v_5 I_6 => ?_)
    refine ok_goto (q := 142) dX12_move_129 rfl ?_
    exact fun g => ok_pick [0] rfl (w_X12_move_b142 (N := N) h0 g)
def X12_move_b119 (N : Nat) (K : am_K) (F : am_F) (a0 : Nat) (I : am_I) (x4 : Int) (s0 : Int) : Option (Int × am_I) :=
  X12_move_b120 N K F a0 I s0 x4
theorem w_X12_move_b119 {η : am_E} {l : Launch} {N : Nat} {n : Nat} {K : am_K} {I : am_I} {F : am_F} {a0 : Nat} {r0 : Int × am_I} {x4 : Int} {s0 : Int} (h0 : (K a0).1 = 12) : X12_move_b119 N K F a0 I x4 s0 = some r0 → Ok η l M_X12_move (am_qm η (am_pS 1 r0 n K F) 0 0) 119 [(0, qr a0), (4, qi x4)] [qi s0] n K I F 0 0 := by
  unfold X12_move_b119
  refine ok_istore_n (q := 120) (ls' := [(3, qi s0), (0, qr a0), (4, qi x4)]) dX12_move_119 rfl rfl (Nat.le_of_ble_eq_true rfl) rfl ?_
  exact fun g => ok_pick [1, 0, 2] rfl (w_X12_move_b120 (N := N) h0 g)
def X12_move_b83 (N : Nat) (K : am_K) (F : am_F) (a0 : Nat) (I : am_I) (x3 : Int) (x4 : Int) : Option (Int × am_I) :=
  if x3 = 0 then (am_cl (X12_mayMove N K F a0 I (F a0 3) (I a0 5) (F a0 35)) (fun v_1 I_2 => if (K (F a0 35)).1 = 101 then if (0 : Int) ≤ x4 ∧ x4 < (K (F a0 35)).2 then if (I_2 (F a0 35) x4) = 0 then (X12_move_b119 N K F a0 I_2 x4 5) else (X12_move_b119 N K F a0 I_2 x4 0) else none else none)) else (X12_move_b120 N K F a0 I x3 x4)
theorem w_X12_move_b83 {η : am_E} {l : Launch} {N : Nat} {n : Nat} {K : am_K} {I : am_I} {F : am_F} {a0 : Nat} {r0 : Int × am_I} {x3 : Int} {x4 : Int} (h0 : (K a0).1 = 12) : X12_move_b83 N K F a0 I x3 x4 = some r0 → Ok η l M_X12_move (am_qm η (am_pS 1 r0 n K F) 0 0) 83 [(0, qr a0), (3, qi x3), (4, qi x4)] [] n K I F 0 0 := by
  unfold X12_move_b83
  refine ok_iload_n (q := 84) 1 dX12_move_83 rfl rfl rfl ?_
  refine ok_if_ne (q := 120) (q2 := 87) dX12_move_84 rfl rfl ?_ ?_
  · skip
    exact fun g => ok_pick [0, 1, 2] rfl (w_X12_move_b120 (N := N) h0 g)
  · skip
    refine ok_aload_n (q := 88) 0 dX12_move_87 rfl rfl rfl ?_
    refine ok_aload_n (q := 89) 0 dX12_move_88 rfl rfl rfl ?_
    refine ok_getR (q := 92) (ci := 12) (k := 3) (x := F a0 3) dX12_move_89 rfl fo_X12_13 h0 rfl ?_
    refine ok_aload_n (q := 93) 0 dX12_move_92 rfl rfl rfl ?_
    refine ok_getI (q := 96) (ci := 12) (k := 5) (x := I a0 5) dX12_move_93 rfl fo_X12_96 h0 rfl ?_
    refine ok_aload_n (q := 97) 0 dX12_move_96 rfl rfl rfl ?_
    refine ok_getR (q := 100) (ci := 12) (k := 35) (x := F a0 35) dX12_move_97 rfl fo_X12_65 h0 rfl ?_
    refine fi_callV1S (q := 103) (as := [qr (F a0 3), qi (I a0 5), qr (F a0 35)]) (st := []) dX12_move_100 rfl mo_X12_201 h0 rfl (Nat.le_of_ble_eq_true rfl) rfl rfl (Nat.le_of_ble_eq_true rfl) (Nat.le_of_ble_eq_true rfl) (Nat.le_of_ble_eq_true rfl) (Nat.zero_le _) (Nat.zero_le _) (fun _ hr => ct_X12_mayMove (N := N) h0 hr) (fun v_1 I_2 => ?_)
    refine ok_pop (q := 104) dX12_move_103 rfl rfl ?_
    refine ok_aload_n (q := 105) 0 dX12_move_104 rfl rfl rfl ?_
    refine ok_getR (q := 108) (ci := 12) (k := 35) (x := F a0 35) dX12_move_105 rfl fo_X12_65 h0 rfl ?_
    refine ok_iload (q := 110) 2 dX12_move_108 rfl rfl ?_
    refine fi_chk (fun h_3 => ?_)
    refine fi_chk (fun h_4 => ?_)
    refine ok_baload (q := 111) (v := I_2 (F a0 35) x4) dX12_move_110 rfl h_3 h_4.1 h_4.2 rfl ?_
    refine ok_if_eq (q := 118) (q2 := 114) dX12_move_111 rfl rfl ?_ ?_
    · skip
      refine ok_iconst (q := 119) (x := 5) dX12_move_118 rfl rfl (by decide) ?_
      exact fun g => ok_pick [0, 2] rfl (w_X12_move_b119 (N := N) h0 g)
    · skip
      refine ok_iconst (q := 115) (x := 0) dX12_move_114 rfl rfl (by decide) ?_
      refine ok_goto (q := 119) dX12_move_115 rfl ?_
      exact fun g => ok_pick [0, 2] rfl (w_X12_move_b119 (N := N) h0 g)
def X12_move_b82 (N : Nat) (K : am_K) (F : am_F) (a0 : Nat) (I : am_I) (x4 : Int) (s0 : Int) : Option (Int × am_I) :=
  X12_move_b83 N K F a0 I s0 x4
theorem w_X12_move_b82 {η : am_E} {l : Launch} {N : Nat} {n : Nat} {K : am_K} {I : am_I} {F : am_F} {a0 : Nat} {r0 : Int × am_I} {x4 : Int} {s0 : Int} (h0 : (K a0).1 = 12) : X12_move_b82 N K F a0 I x4 s0 = some r0 → Ok η l M_X12_move (am_qm η (am_pS 1 r0 n K F) 0 0) 82 [(0, qr a0), (4, qi x4)] [qi s0] n K I F 0 0 := by
  unfold X12_move_b82
  refine ok_istore_n (q := 83) (ls' := [(3, qi s0), (0, qr a0), (4, qi x4)]) dX12_move_82 rfl rfl (Nat.le_of_ble_eq_true rfl) rfl ?_
  exact fun g => ok_pick [1, 0, 2] rfl (w_X12_move_b83 (N := N) h0 g)
def X12_move_b24 (N : Nat) (K : am_K) (F : am_F) (a0 : Nat) (I : am_I) (x1 : Int) (x2 : Int) (x3 : Int) : Option (Int × am_I) :=
  am_lt (am_wI ((am_wI (x1 * (I a0 1))) + x2)) (fun x4_1 => if x3 = 0 then (am_cq (X12_isOwn N K F I a0 (F a0 3) (I a0 5) x4_1) (fun v_2 => if v_2 = 0 then (X12_move_b83 N K F a0 I x3 x4_1) else (am_cl (X12_make N K F a0 I (F a0 3) (I a0 5) x4_1) (fun _ I_3 => if (I_3 a0 18) = 0 then (X12_move_b82 N K F a0 I_3 x4_1 0) else (X12_move_b82 N K F a0 I_3 x4_1 6))))) else (X12_move_b83 N K F a0 I x3 x4_1))
theorem w_X12_move_b24 {η : am_E} {l : Launch} {N : Nat} {n : Nat} {K : am_K} {I : am_I} {F : am_F} {a0 : Nat} {r0 : Int × am_I} {x1 : Int} {x2 : Int} {x3 : Int} (h0 : (K a0).1 = 12) : X12_move_b24 N K F a0 I x1 x2 x3 = some r0 → Ok η l M_X12_move (am_qm η (am_pS 1 r0 n K F) 0 0) 24 [(0, qr a0), (1, qi x1), (2, qi x2), (3, qi x3)] [] n K I F 0 0 := by
  unfold X12_move_b24
  refine ok_iload_n (q := 25) 1 dX12_move_24 rfl rfl rfl ?_
  refine ok_aload_n (q := 26) 0 dX12_move_25 rfl rfl rfl ?_
  refine ok_getI (q := 29) (ci := 12) (k := 1) (x := I a0 1) dX12_move_26 rfl fo_X12_93 h0 rfl ?_
  refine ok_imulW (q := 30) dX12_move_29 rfl ?_
  refine ok_iload_n (q := 31) 2 dX12_move_30 rfl rfl rfl ?_
  refine ok_iaddW (q := 32) dX12_move_31 rfl ?_
  refine ok_istoreL (q := 34) (fun x4_1 => [(4, qi x4_1), (0, qr a0), (1, qi x1), (2, qi x2), (3, qi x3)]) dX12_move_32 rfl (Nat.le_of_ble_eq_true rfl) (fun _ => rfl) (fun x4_1 => ?_)
  refine ok_iload_n (q := 35) 4 dX12_move_34 rfl rfl rfl ?_
  refine ok_if_ne (q := 83) (q2 := 38) dX12_move_35 rfl rfl ?_ ?_
  · skip
    exact fun g => ok_pick [1, 4, 0] rfl (w_X12_move_b83 (N := N) h0 g)
  · skip
    refine ok_aload_n (q := 39) 1 dX12_move_38 rfl rfl rfl ?_
    refine ok_aload_n (q := 40) 1 dX12_move_39 rfl rfl rfl ?_
    refine ok_getR (q := 43) (ci := 12) (k := 3) (x := F a0 3) dX12_move_40 rfl fo_X12_13 h0 rfl ?_
    refine ok_aload_n (q := 44) 1 dX12_move_43 rfl rfl rfl ?_
    refine ok_getI (q := 47) (ci := 12) (k := 5) (x := I a0 5) dX12_move_44 rfl fo_X12_96 h0 rfl ?_
    refine ok_iload (q := 49) 0 dX12_move_47 rfl rfl ?_
    refine fi_callV1P (q := 52) (as := [qr (F a0 3), qi (I a0 5), qi x4_1]) (st := []) dX12_move_49 rfl mo_X12_168 h0 rfl (Nat.le_of_ble_eq_true rfl) rfl rfl (Nat.le_of_ble_eq_true rfl) (Nat.le_of_ble_eq_true rfl) (Nat.le_of_ble_eq_true rfl) (Nat.zero_le _) (Nat.zero_le _) (fun _ hr => ct_X12_isOwn (N := N) h0 hr) (fun v_2 => ?_)
    refine ok_if_eq (q := 83) (q2 := 55) dX12_move_52 rfl rfl ?_ ?_
    · skip
      exact fun g => ok_pick [1, 4, 0] rfl (w_X12_move_b83 (N := N) h0 g)
    · skip
      refine ok_aload_n (q := 56) 1 dX12_move_55 rfl rfl rfl ?_
      refine ok_aload_n (q := 57) 1 dX12_move_56 rfl rfl rfl ?_
      refine ok_getR (q := 60) (ci := 12) (k := 3) (x := F a0 3) dX12_move_57 rfl fo_X12_13 h0 rfl ?_
      refine ok_aload_n (q := 61) 1 dX12_move_60 rfl rfl rfl ?_
      refine ok_getI (q := 64) (ci := 12) (k := 5) (x := I a0 5) dX12_move_61 rfl fo_X12_96 h0 rfl ?_
      refine ok_iload (q := 66) 0 dX12_move_64 rfl rfl ?_
      refine fi_callV0S (q := 69) (as := [qr (F a0 3), qi (I a0 5), qi x4_1]) (st := []) dX12_move_66 rfl mo_X12_172 h0 rfl (Nat.le_of_ble_eq_true rfl) rfl rfl (Nat.le_of_ble_eq_true rfl) (Nat.le_of_ble_eq_true rfl) (Nat.le_of_ble_eq_true rfl) (Nat.zero_le _) (Nat.zero_le _) (fun _ hr => ct_X12_make (N := N) h0 hr) (fun _ I_3 => ?_)
      refine ok_aload_n (q := 70) 1 dX12_move_69 rfl rfl rfl ?_
      refine ok_getI (q := 73) (ci := 12) (k := 18) (x := I_3 a0 18) dX12_move_70 rfl fo_X12_155 h0 rfl ?_
      refine ok_if_eq (q := 81) (q2 := 76) dX12_move_73 rfl rfl ?_ ?_
      · skip
        refine ok_iconst (q := 82) (x := 0) dX12_move_81 rfl rfl (by decide) ?_
        exact fun g => ok_pick [1, 0] rfl (w_X12_move_b82 (N := N) h0 g)
      · skip
        refine ok_bipush (q := 78) (x := 6) dX12_move_76 rfl rfl (by decide) ?_
        refine ok_goto (q := 82) dX12_move_78 rfl ?_
        exact fun g => ok_pick [1, 0] rfl (w_X12_move_b82 (N := N) h0 g)
def X12_move (N : Nat) (K : am_K) (F : am_F) (a0 : Nat) (I : am_I) (x1 : Int) (x2 : Int) : Option (Int × am_I) :=
  am_cq (X12_pitWhy N K F I a0 x1 x2) (fun v_1 => if v_1 = 0 then (if (I a0 37) = 1000 then (X12_move_b24 N K F a0 I x1 x2 10) else (X12_move_b24 N K F a0 I x1 x2 v_1)) else (X12_move_b24 N K F a0 I x1 x2 v_1))
theorem w_X12_move {η : am_E} {l : Launch} {N : Nat} {n : Nat} {K : am_K} {I : am_I} {F : am_F} {a0 : Nat} {r0 : Int × am_I} {x1 : Int} {x2 : Int} (h0 : (K a0).1 = 12) : X12_move N K F a0 I x1 x2 = some r0 → Ok η l M_X12_move (am_qm η (am_pS 1 r0 n K F) 0 0) 0 [(0, qr a0), (1, qi x1), (2, qi x2)] [] n K I F 0 0 := by
  unfold X12_move
  refine ok_aload_n (q := 1) 0 dX12_move_0 rfl rfl rfl ?_
  refine ok_iload_n (q := 2) 1 dX12_move_1 rfl rfl rfl ?_
  refine ok_iload_n (q := 3) 2 dX12_move_2 rfl rfl rfl ?_
  refine fi_callV1P (q := 6) (as := [qi x1, qi x2]) (st := []) dX12_move_3 rfl mo_X12_271 h0 rfl (Nat.le_of_ble_eq_true rfl) rfl rfl (Nat.le_of_ble_eq_true rfl) (Nat.le_of_ble_eq_true rfl) (Nat.le_of_ble_eq_true rfl) (Nat.zero_le _) (Nat.zero_le _) (fun _ hr => ct_X12_pitWhy (N := N) h0 hr) (fun v_1 => ?_)
  refine ok_istore_n (q := 7) (ls' := [(3, qi v_1), (0, qr a0), (1, qi x1), (2, qi x2)]) dX12_move_6 rfl rfl (Nat.le_of_ble_eq_true rfl) rfl ?_
  refine ok_iload_n (q := 8) 0 dX12_move_7 rfl rfl rfl ?_
  refine ok_if_ne (q := 24) (q2 := 11) dX12_move_8 rfl rfl ?_ ?_
  · skip
    exact fun g => ok_pick [1, 2, 3, 0] rfl (w_X12_move_b24 (N := N) h0 g)
  · skip
    refine ok_aload_n (q := 12) 1 dX12_move_11 rfl rfl rfl ?_
    refine ok_getI (q := 15) (ci := 12) (k := 37) (x := I a0 37) dX12_move_12 rfl fo_X12_121 h0 rfl ?_
    refine ok_sipush (q := 18) (x := 1000) dX12_move_15 rfl rfl (by decide) ?_
    refine ok_icmp_ne (q := 24) (q2 := 21) dX12_move_18 rfl rfl ?_ ?_
    · skip
      exact fun g => ok_pick [1, 2, 3, 0] rfl (w_X12_move_b24 (N := N) h0 g)
    · skip
      refine ok_bipush (q := 23) (x := 10) dX12_move_21 rfl rfl (by decide) ?_
      refine ok_istore_n (q := 24) (ls' := [(3, qi 10), (0, qr a0), (1, qi x1), (2, qi x2)]) dX12_move_23 rfl rfl (Nat.le_of_ble_eq_true rfl) rfl ?_
      exact fun g => ok_pick [1, 2, 3, 0] rfl (w_X12_move_b24 (N := N) h0 g)
theorem ct_X12_move {η : am_E} {l : Launch} {N : Nat} {n : Nat} {K : am_K} {I : am_I} {F : am_F} {a0 : Nat} {r0 : Int × am_I} {x1 : Int} {x2 : Int} (h0 : (K a0).1 = 12) : X12_move N K F a0 I x1 x2 = some r0 → am_Ct η l yX12_move cX12_move 5 (some .int) 5 120 0 0 [qr a0, qi x1, qi x2] n K I F (am_pS 1 r0 n K F) := fun g => am_Ct.of false (by decide) (by decide) (Nat.le_of_ble_eq_true rfl) (fun _ => w_X12_move (N := N) h0 g)
def M_X12_undo : am_M := (yX12_undo.cls, cX12_undo, 1, (some .int), am_room 1 23 0 0, false)
def X12_undo (N : Nat) (K : am_K) (F : am_F) (a0 : Nat) (I : am_I) : Option (Int × am_I) :=
  if (I a0 37) = 0 then (am_cl (X12_no N K F a0 I 8) (fun v_8 I_9 => some (v_8, I_9))) else (if am_inI ((I a0 37) - 1) then am_lt (am_u2 I a0 37 ((I a0 37) - 1)) (fun I_2 => if am_inI ((I_2 a0 38) + 1) then am_lt (am_u2 I_2 a0 38 ((I_2 a0 38) + 1)) (fun I_4 => am_cl (X12_bring N K F a0 I_4 (I_4 a0 37)) (fun _ I_5 => am_cl (X12_ok N K F a0 I_5 (I_5 a0 37)) (fun v_6 I_7 => some (v_6, I_7)))) else none) else none)
theorem w_X12_undo {η : am_E} {l : Launch} {N : Nat} {n : Nat} {K : am_K} {I : am_I} {F : am_F} {a0 : Nat} {r0 : Int × am_I} (h0 : (K a0).1 = 12) : X12_undo N K F a0 I = some r0 → Ok η l M_X12_undo (am_qm η (am_pS 1 r0 n K F) 0 0) 0 [(0, qr a0)] [] n K I F 0 0 := by
  unfold X12_undo
  refine ok_aload_n (q := 1) 0 dX12_undo_0 rfl rfl rfl ?_
  refine ok_getI (q := 4) (ci := 12) (k := 37) (x := I a0 37) dX12_undo_1 rfl fo_X12_121 h0 rfl ?_
  refine ok_if_ne (q := 14) (q2 := 7) dX12_undo_4 rfl rfl ?_ ?_
  · skip
    refine ok_aload_n (q := 15) 0 dX12_undo_14 rfl rfl rfl ?_
    refine ok_dup (q := 16) dX12_undo_15 rfl rfl ?_
    refine ok_getI (q := 19) (ci := 12) (k := 37) (x := I a0 37) dX12_undo_16 rfl fo_X12_121 h0 rfl ?_
    refine ok_iconst (q := 20) (x := 1) dX12_undo_19 rfl rfl (by decide) ?_
    refine fi_chk (fun h_1 => ?_)
    refine ok_isub (q := 21) dX12_undo_20 rfl h_1 ?_
    refine ok_putI (q := 24) (ci := 12) (k := 37) dX12_undo_21 rfl fo_X12_121 h0 ft_12_37 ff_12_37 (fun I_2 => ?_)
    refine ok_aload_n (q := 25) 0 dX12_undo_24 rfl rfl rfl ?_
    refine ok_dup (q := 26) dX12_undo_25 rfl rfl ?_
    refine ok_getI (q := 29) (ci := 12) (k := 38) (x := I_2 a0 38) dX12_undo_26 rfl fo_X12_124 h0 rfl ?_
    refine ok_iconst (q := 30) (x := 1) dX12_undo_29 rfl rfl (by decide) ?_
    refine fi_chk (fun h_3 => ?_)
    refine ok_iadd (q := 31) dX12_undo_30 rfl h_3 ?_
    refine ok_putI (q := 34) (ci := 12) (k := 38) dX12_undo_31 rfl fo_X12_124 h0 ft_12_38 ff_12_38 (fun I_4 => ?_)
    refine ok_aload_n (q := 35) 0 dX12_undo_34 rfl rfl rfl ?_
    refine ok_aload_n (q := 36) 0 dX12_undo_35 rfl rfl rfl ?_
    refine ok_getI (q := 39) (ci := 12) (k := 37) (x := I_4 a0 37) dX12_undo_36 rfl fo_X12_121 h0 rfl ?_
    refine fi_callV0S (q := 42) (as := [qi (I_4 a0 37)]) (st := []) dX12_undo_39 rfl mo_X12_292 h0 rfl (Nat.le_of_ble_eq_true rfl) rfl rfl (Nat.le_of_ble_eq_true rfl) (Nat.le_of_ble_eq_true rfl) (Nat.le_of_ble_eq_true rfl) (Nat.zero_le _) (Nat.zero_le _) (fun _ hr => ct_X12_bring (N := N) h0 hr) (fun _ I_5 => ?_)
    refine ok_aload_n (q := 43) 0 dX12_undo_42 rfl rfl rfl ?_
    refine ok_aload_n (q := 44) 0 dX12_undo_43 rfl rfl rfl ?_
    refine ok_getI (q := 47) (ci := 12) (k := 37) (x := I_5 a0 37) dX12_undo_44 rfl fo_X12_121 h0 rfl ?_
    refine fi_callV1S (q := 50) (as := [qi (I_5 a0 37)]) (st := []) dX12_undo_47 rfl mo_X12_268 h0 rfl (Nat.le_of_ble_eq_true rfl) rfl rfl (Nat.le_of_ble_eq_true rfl) (Nat.le_of_ble_eq_true rfl) (Nat.le_of_ble_eq_true rfl) (Nat.zero_le _) (Nat.zero_le _) (fun _ hr => ct_X12_ok (N := N) h0 hr) (fun v_6 I_7 => ?_)
    exact fi_ireturnS dX12_undo_50 rfl
  · skip
    refine ok_aload_n (q := 8) 0 dX12_undo_7 rfl rfl rfl ?_
    refine ok_bipush (q := 10) (x := 8) dX12_undo_8 rfl rfl (by decide) ?_
    refine fi_callV1S (q := 13) (as := [qi 8]) (st := []) dX12_undo_10 rfl mo_X12_265 h0 rfl (Nat.le_of_ble_eq_true rfl) rfl rfl (Nat.le_of_ble_eq_true rfl) (Nat.le_of_ble_eq_true rfl) (Nat.le_of_ble_eq_true rfl) (Nat.zero_le _) (Nat.zero_le _) (fun _ hr => ct_X12_no (N := N) h0 hr) (fun v_8 I_9 => ?_)
    exact fi_ireturnS dX12_undo_13 rfl
theorem ct_X12_undo {η : am_E} {l : Launch} {N : Nat} {n : Nat} {K : am_K} {I : am_I} {F : am_F} {a0 : Nat} {r0 : Int × am_I} (h0 : (K a0).1 = 12) : X12_undo N K F a0 I = some r0 → am_Ct η l yX12_undo cX12_undo 1 (some .int) 1 23 0 0 [qr a0] n K I F (am_pS 1 r0 n K F) := fun g => am_Ct.of false (by decide) (by decide) (Nat.le_of_ble_eq_true rfl) (fun _ => w_X12_undo (N := N) h0 g)
def M_X12_redo : am_M := (yX12_redo.cls, cX12_redo, 1, (some .int), am_room 1 23 0 0, false)
def X12_redo (N : Nat) (K : am_K) (F : am_F) (a0 : Nat) (I : am_I) : Option (Int × am_I) :=
  if (I a0 38) = 0 then (am_cl (X12_no N K F a0 I 8) (fun v_8 I_9 => some (v_8, I_9))) else (if am_inI ((I a0 37) + 1) then am_lt (am_u2 I a0 37 ((I a0 37) + 1)) (fun I_2 => if am_inI ((I_2 a0 38) - 1) then am_lt (am_u2 I_2 a0 38 ((I_2 a0 38) - 1)) (fun I_4 => am_cl (X12_bring N K F a0 I_4 (I_4 a0 37)) (fun _ I_5 => am_cl (X12_ok N K F a0 I_5 (I_5 a0 37)) (fun v_6 I_7 => some (v_6, I_7)))) else none) else none)
theorem w_X12_redo {η : am_E} {l : Launch} {N : Nat} {n : Nat} {K : am_K} {I : am_I} {F : am_F} {a0 : Nat} {r0 : Int × am_I} (h0 : (K a0).1 = 12) : X12_redo N K F a0 I = some r0 → Ok η l M_X12_redo (am_qm η (am_pS 1 r0 n K F) 0 0) 0 [(0, qr a0)] [] n K I F 0 0 := by
  unfold X12_redo
  refine ok_aload_n (q := 1) 0 dX12_redo_0 rfl rfl rfl ?_
  refine ok_getI (q := 4) (ci := 12) (k := 38) (x := I a0 38) dX12_redo_1 rfl fo_X12_124 h0 rfl ?_
  refine ok_if_ne (q := 14) (q2 := 7) dX12_redo_4 rfl rfl ?_ ?_
  · skip
    refine ok_aload_n (q := 15) 0 dX12_redo_14 rfl rfl rfl ?_
    refine ok_dup (q := 16) dX12_redo_15 rfl rfl ?_
    refine ok_getI (q := 19) (ci := 12) (k := 37) (x := I a0 37) dX12_redo_16 rfl fo_X12_121 h0 rfl ?_
    refine ok_iconst (q := 20) (x := 1) dX12_redo_19 rfl rfl (by decide) ?_
    refine fi_chk (fun h_1 => ?_)
    refine ok_iadd (q := 21) dX12_redo_20 rfl h_1 ?_
    refine ok_putI (q := 24) (ci := 12) (k := 37) dX12_redo_21 rfl fo_X12_121 h0 ft_12_37 ff_12_37 (fun I_2 => ?_)
    refine ok_aload_n (q := 25) 0 dX12_redo_24 rfl rfl rfl ?_
    refine ok_dup (q := 26) dX12_redo_25 rfl rfl ?_
    refine ok_getI (q := 29) (ci := 12) (k := 38) (x := I_2 a0 38) dX12_redo_26 rfl fo_X12_124 h0 rfl ?_
    refine ok_iconst (q := 30) (x := 1) dX12_redo_29 rfl rfl (by decide) ?_
    refine fi_chk (fun h_3 => ?_)
    refine ok_isub (q := 31) dX12_redo_30 rfl h_3 ?_
    refine ok_putI (q := 34) (ci := 12) (k := 38) dX12_redo_31 rfl fo_X12_124 h0 ft_12_38 ff_12_38 (fun I_4 => ?_)
    refine ok_aload_n (q := 35) 0 dX12_redo_34 rfl rfl rfl ?_
    refine ok_aload_n (q := 36) 0 dX12_redo_35 rfl rfl rfl ?_
    refine ok_getI (q := 39) (ci := 12) (k := 37) (x := I_4 a0 37) dX12_redo_36 rfl fo_X12_121 h0 rfl ?_
    refine fi_callV0S (q := 42) (as := [qi (I_4 a0 37)]) (st := []) dX12_redo_39 rfl mo_X12_292 h0 rfl (Nat.le_of_ble_eq_true rfl) rfl rfl (Nat.le_of_ble_eq_true rfl) (Nat.le_of_ble_eq_true rfl) (Nat.le_of_ble_eq_true rfl) (Nat.zero_le _) (Nat.zero_le _) (fun _ hr => ct_X12_bring (N := N) h0 hr) (fun _ I_5 => ?_)
    refine ok_aload_n (q := 43) 0 dX12_redo_42 rfl rfl rfl ?_
    refine ok_aload_n (q := 44) 0 dX12_redo_43 rfl rfl rfl ?_
    refine ok_getI (q := 47) (ci := 12) (k := 37) (x := I_5 a0 37) dX12_redo_44 rfl fo_X12_121 h0 rfl ?_
    refine fi_callV1S (q := 50) (as := [qi (I_5 a0 37)]) (st := []) dX12_redo_47 rfl mo_X12_268 h0 rfl (Nat.le_of_ble_eq_true rfl) rfl rfl (Nat.le_of_ble_eq_true rfl) (Nat.le_of_ble_eq_true rfl) (Nat.le_of_ble_eq_true rfl) (Nat.zero_le _) (Nat.zero_le _) (fun _ hr => ct_X12_ok (N := N) h0 hr) (fun v_6 I_7 => ?_)
    exact fi_ireturnS dX12_redo_50 rfl
  · skip
    refine ok_aload_n (q := 8) 0 dX12_redo_7 rfl rfl rfl ?_
    refine ok_bipush (q := 10) (x := 8) dX12_redo_8 rfl rfl (by decide) ?_
    refine fi_callV1S (q := 13) (as := [qi 8]) (st := []) dX12_redo_10 rfl mo_X12_265 h0 rfl (Nat.le_of_ble_eq_true rfl) rfl rfl (Nat.le_of_ble_eq_true rfl) (Nat.le_of_ble_eq_true rfl) (Nat.le_of_ble_eq_true rfl) (Nat.zero_le _) (Nat.zero_le _) (fun _ hr => ct_X12_no (N := N) h0 hr) (fun v_8 I_9 => ?_)
    exact fi_ireturnS dX12_redo_13 rfl
theorem ct_X12_redo {η : am_E} {l : Launch} {N : Nat} {n : Nat} {K : am_K} {I : am_I} {F : am_F} {a0 : Nat} {r0 : Int × am_I} (h0 : (K a0).1 = 12) : X12_redo N K F a0 I = some r0 → am_Ct η l yX12_redo cX12_redo 1 (some .int) 1 23 0 0 [qr a0] n K I F (am_pS 1 r0 n K F) := fun g => am_Ct.of false (by decide) (by decide) (Nat.le_of_ble_eq_true rfl) (fun _ => w_X12_redo (N := N) h0 g)
def M_X12_pit : am_M := (yX12_pit.cls, cX12_pit, 4, (some .int), am_room 2 47 0 0, false)
def X12_pit_b36 (N : Nat) (K : am_K) (F : am_F) (a0 : Nat) (I : am_I) (s0 : Int) : Option (Int × am_I) :=
  some (s0, I)
theorem w_X12_pit_b36 {η : am_E} {l : Launch} {N : Nat} {n : Nat} {K : am_K} {I : am_I} {F : am_F} {a0 : Nat} {r0 : Int × am_I} {s0 : Int} (h0 : (K a0).1 = 12) : X12_pit_b36 N K F a0 I s0 = some r0 → Ok η l M_X12_pit (am_qm η (am_pS 1 r0 n K F) 0 0) 36 [(0, qr a0)] [qi s0] n K I F 0 0 := by
  unfold X12_pit_b36
  exact fi_ireturnS dX12_pit_36 rfl
def X12_pit (N : Nat) (K : am_K) (F : am_F) (a0 : Nat) (I : am_I) (x1 : Int) (x2 : Int) : Option (Int × am_I) :=
  am_cq (X12_pitWhy N K F I a0 x1 x2) (fun v_1 => if 0 < v_1 then (am_cl (X12_no N K F a0 I v_1) (fun v_8 I_9 => X12_pit_b36 N K F a0 I_9 v_8)) else (if am_inI (x1 * (I a0 1)) then if am_inI ((x1 * (I a0 1)) + x2) then if (K (F a0 3)).1 = 100 then if (0 : Int) ≤ ((x1 * (I a0 1)) + x2) ∧ ((x1 * (I a0 1)) + x2) < (K (F a0 3)).2 then am_cl (X12_ok N K F a0 I (I (F a0 3) ((x1 * (I a0 1)) + x2))) (fun v_6 I_7 => X12_pit_b36 N K F a0 I_7 v_6) else none else none else none else none))
theorem w_X12_pit {η : am_E} {l : Launch} {N : Nat} {n : Nat} {K : am_K} {I : am_I} {F : am_F} {a0 : Nat} {r0 : Int × am_I} {x1 : Int} {x2 : Int} (h0 : (K a0).1 = 12) : X12_pit N K F a0 I x1 x2 = some r0 → Ok η l M_X12_pit (am_qm η (am_pS 1 r0 n K F) 0 0) 0 [(0, qr a0), (1, qi x1), (2, qi x2)] [] n K I F 0 0 := by
  unfold X12_pit
  refine ok_aload_n (q := 1) 0 dX12_pit_0 rfl rfl rfl ?_
  refine ok_iload_n (q := 2) 1 dX12_pit_1 rfl rfl rfl ?_
  refine ok_iload_n (q := 3) 2 dX12_pit_2 rfl rfl rfl ?_
  refine fi_callV1P (q := 6) (as := [qi x1, qi x2]) (st := []) dX12_pit_3 rfl mo_X12_271 h0 rfl (Nat.le_of_ble_eq_true rfl) rfl rfl (Nat.le_of_ble_eq_true rfl) (Nat.le_of_ble_eq_true rfl) (Nat.le_of_ble_eq_true rfl) (Nat.zero_le _) (Nat.zero_le _) (fun _ hr => ct_X12_pitWhy (N := N) h0 hr) (fun v_1 => ?_)
  refine ok_istore_n (q := 7) (ls' := [(3, qi v_1), (0, qr a0), (1, qi x1), (2, qi x2)]) dX12_pit_6 rfl rfl (Nat.le_of_ble_eq_true rfl) rfl ?_
  refine ok_iload_n (q := 8) 0 dX12_pit_7 rfl rfl rfl ?_
  refine ok_if_le (q := 19) (q2 := 11) dX12_pit_8 rfl rfl ?_ ?_
  · skip
    refine ok_aload_n (q := 20) 1 dX12_pit_19 rfl rfl rfl ?_
    refine ok_aload_n (q := 21) 1 dX12_pit_20 rfl rfl rfl ?_
    refine ok_getR (q := 24) (ci := 12) (k := 3) (x := F a0 3) dX12_pit_21 rfl fo_X12_13 h0 rfl ?_
    refine ok_iload_n (q := 25) 2 dX12_pit_24 rfl rfl rfl ?_
    refine ok_aload_n (q := 26) 1 dX12_pit_25 rfl rfl rfl ?_
    refine ok_getI (q := 29) (ci := 12) (k := 1) (x := I a0 1) dX12_pit_26 rfl fo_X12_93 h0 rfl ?_
    refine fi_chk (fun h_2 => ?_)
    refine ok_imul (q := 30) dX12_pit_29 rfl h_2 ?_
    refine ok_iload_n (q := 31) 3 dX12_pit_30 rfl rfl rfl ?_
    refine fi_chk (fun h_3 => ?_)
    refine ok_iadd (q := 32) dX12_pit_31 rfl h_3 ?_
    refine fi_chk (fun h_4 => ?_)
    refine fi_chk (fun h_5 => ?_)
    refine ok_iaload (q := 33) (v := I (F a0 3) ((x1 * (I a0 1)) + x2)) dX12_pit_32 rfl h_4 h_5.1 h_5.2 rfl ?_
    refine fi_callV1S (q := 36) (as := [qi (I (F a0 3) ((x1 * (I a0 1)) + x2))]) (st := []) dX12_pit_33 rfl mo_X12_268 h0 rfl (Nat.le_of_ble_eq_true rfl) rfl rfl (Nat.le_of_ble_eq_true rfl) (Nat.le_of_ble_eq_true rfl) (Nat.le_of_ble_eq_true rfl) (Nat.zero_le _) (Nat.zero_le _) (fun _ hr => ct_X12_ok (N := N) h0 hr) (fun v_6 I_7 => ?_)
    exact fun g => ok_pick [1] rfl (w_X12_pit_b36 (N := N) h0 g)
  · skip
    refine ok_aload_n (q := 12) 1 dX12_pit_11 rfl rfl rfl ?_
    refine ok_iload_n (q := 13) 0 dX12_pit_12 rfl rfl rfl ?_
    refine fi_callV1S (q := 16) (as := [qi v_1]) (st := []) dX12_pit_13 rfl mo_X12_265 h0 rfl (Nat.le_of_ble_eq_true rfl) rfl rfl (Nat.le_of_ble_eq_true rfl) (Nat.le_of_ble_eq_true rfl) (Nat.le_of_ble_eq_true rfl) (Nat.zero_le _) (Nat.zero_le _) (fun _ hr => ct_X12_no (N := N) h0 hr) (fun v_8 I_9 => ?_)
    refine ok_goto (q := 36) dX12_pit_16 rfl ?_
    exact fun g => ok_pick [1] rfl (w_X12_pit_b36 (N := N) h0 g)
theorem ct_X12_pit {η : am_E} {l : Launch} {N : Nat} {n : Nat} {K : am_K} {I : am_I} {F : am_F} {a0 : Nat} {r0 : Int × am_I} {x1 : Int} {x2 : Int} (h0 : (K a0).1 = 12) : X12_pit N K F a0 I x1 x2 = some r0 → am_Ct η l yX12_pit cX12_pit 4 (some .int) 2 47 0 0 [qr a0, qi x1, qi x2] n K I F (am_pS 1 r0 n K F) := fun g => am_Ct.of false (by decide) (by decide) (Nat.le_of_ble_eq_true rfl) (fun _ => w_X12_pit (N := N) h0 g)
def M_X12_stored : am_M := (yX12_stored.cls, cX12_stored, 2, (some .int), am_room 1 25 0 0, false)
def X12_stored_b28 (N : Nat) (K : am_K) (F : am_F) (a0 : Nat) (I : am_I) (s0 : Int) : Option (Int × am_I) :=
  some (s0, I)
theorem w_X12_stored_b28 {η : am_E} {l : Launch} {N : Nat} {n : Nat} {K : am_K} {I : am_I} {F : am_F} {a0 : Nat} {r0 : Int × am_I} {s0 : Int} (h0 : (K a0).1 = 12) : X12_stored_b28 N K F a0 I s0 = some r0 → Ok η l M_X12_stored (am_qm η (am_pS 1 r0 n K F) 0 0) 28 [(0, qr a0)] [qi s0] n K I F 0 0 := by
  unfold X12_stored_b28
  exact fi_ireturnS dX12_stored_28 rfl
def X12_stored (N : Nat) (K : am_K) (F : am_F) (a0 : Nat) (I : am_I) (x1 : Int) : Option (Int × am_I) :=
  am_cq (X12_isIn N K F I x1 0 1) (fun v_1 => if v_1 = 0 then (am_cl (X12_no N K F a0 I 3) (fun v_6 I_7 => X12_stored_b28 N K F a0 I_7 v_6)) else (if (K (F a0 4)).1 = 100 then if (0 : Int) ≤ x1 ∧ x1 < (K (F a0 4)).2 then am_cl (X12_ok N K F a0 I (I (F a0 4) x1)) (fun v_4 I_5 => X12_stored_b28 N K F a0 I_5 v_4) else none else none))
theorem w_X12_stored {η : am_E} {l : Launch} {N : Nat} {n : Nat} {K : am_K} {I : am_I} {F : am_F} {a0 : Nat} {r0 : Int × am_I} {x1 : Int} (h0 : (K a0).1 = 12) : X12_stored N K F a0 I x1 = some r0 → Ok η l M_X12_stored (am_qm η (am_pS 1 r0 n K F) 0 0) 0 [(0, qr a0), (1, qi x1)] [] n K I F 0 0 := by
  unfold X12_stored
  refine ok_iload_n (q := 1) 1 dX12_stored_0 rfl rfl rfl ?_
  refine ok_i2l (q := 2) dX12_stored_1 rfl ?_
  refine ok_lconst (q := 3) (x := 0) dX12_stored_2 rfl rfl (by decide) ?_
  refine ok_lconst (q := 4) (x := 1) dX12_stored_3 rfl rfl (by decide) ?_
  refine fi_callS1P (q := 7) (as := [ql x1, ql 0, ql 1]) (st := []) dX12_stored_4 rfl mo_X12_164 rfl rfl (Nat.le_of_ble_eq_true rfl) (Nat.le_of_ble_eq_true rfl) (Nat.le_of_ble_eq_true rfl) (Nat.zero_le _) (Nat.zero_le _) (fun _ hr => ct_X12_isIn (N := N) hr) (fun v_1 => ?_)
  refine ok_if_ne (q := 18) (q2 := 10) dX12_stored_7 rfl rfl ?_ ?_
  · skip
    refine ok_aload_n (q := 19) 0 dX12_stored_18 rfl rfl rfl ?_
    refine ok_aload_n (q := 20) 0 dX12_stored_19 rfl rfl rfl ?_
    refine ok_getR (q := 23) (ci := 12) (k := 4) (x := F a0 4) dX12_stored_20 rfl fo_X12_17 h0 rfl ?_
    refine ok_iload_n (q := 24) 1 dX12_stored_23 rfl rfl rfl ?_
    refine fi_chk (fun h_2 => ?_)
    refine fi_chk (fun h_3 => ?_)
    refine ok_iaload (q := 25) (v := I (F a0 4) x1) dX12_stored_24 rfl h_2 h_3.1 h_3.2 rfl ?_
    refine fi_callV1S (q := 28) (as := [qi (I (F a0 4) x1)]) (st := []) dX12_stored_25 rfl mo_X12_268 h0 rfl (Nat.le_of_ble_eq_true rfl) rfl rfl (Nat.le_of_ble_eq_true rfl) (Nat.le_of_ble_eq_true rfl) (Nat.le_of_ble_eq_true rfl) (Nat.zero_le _) (Nat.zero_le _) (fun _ hr => ct_X12_ok (N := N) h0 hr) (fun v_4 I_5 => ?_)
    exact fun g => ok_pick [0] rfl (w_X12_stored_b28 (N := N) h0 g)
  · skip
    refine ok_aload_n (q := 11) 0 dX12_stored_10 rfl rfl rfl ?_
    refine ok_iconst (q := 12) (x := 3) dX12_stored_11 rfl rfl (by decide) ?_
    refine fi_callV1S (q := 15) (as := [qi 3]) (st := []) dX12_stored_12 rfl mo_X12_265 h0 rfl (Nat.le_of_ble_eq_true rfl) rfl rfl (Nat.le_of_ble_eq_true rfl) (Nat.le_of_ble_eq_true rfl) (Nat.le_of_ble_eq_true rfl) (Nat.zero_le _) (Nat.zero_le _) (fun _ hr => ct_X12_no (N := N) h0 hr) (fun v_6 I_7 => ?_)
    refine ok_goto (q := 28) dX12_stored_15 rfl ?_
    exact fun g => ok_pick [0] rfl (w_X12_stored_b28 (N := N) h0 g)
theorem ct_X12_stored {η : am_E} {l : Launch} {N : Nat} {n : Nat} {K : am_K} {I : am_I} {F : am_F} {a0 : Nat} {r0 : Int × am_I} {x1 : Int} (h0 : (K a0).1 = 12) : X12_stored N K F a0 I x1 = some r0 → am_Ct η l yX12_stored cX12_stored 2 (some .int) 1 25 0 0 [qr a0, qi x1] n K I F (am_pS 1 r0 n K F) := fun g => am_Ct.of false (by decide) (by decide) (Nat.le_of_ble_eq_true rfl) (fun _ => w_X12_stored (N := N) h0 g)
def M_X12_allowed : am_M := (yX12_allowed.cls, cX12_allowed, 1, (some .int), am_room 5 120 0 0, false)
def X12_allowed (N : Nat) (K : am_K) (F : am_F) (a0 : Nat) (I : am_I) : Option (Int × am_I) :=
  am_cl (X12_mayMove N K F a0 I (F a0 3) (I a0 5) (F a0 35)) (fun v_1 I_2 => some (v_1, I_2))
theorem w_X12_allowed {η : am_E} {l : Launch} {N : Nat} {n : Nat} {K : am_K} {I : am_I} {F : am_F} {a0 : Nat} {r0 : Int × am_I} (h0 : (K a0).1 = 12) : X12_allowed N K F a0 I = some r0 → Ok η l M_X12_allowed (am_qm η (am_pS 1 r0 n K F) 0 0) 0 [(0, qr a0)] [] n K I F 0 0 := by
  unfold X12_allowed
  refine ok_aload_n (q := 1) 0 dX12_allowed_0 rfl rfl rfl ?_
  refine ok_aload_n (q := 2) 0 dX12_allowed_1 rfl rfl rfl ?_
  refine ok_getR (q := 5) (ci := 12) (k := 3) (x := F a0 3) dX12_allowed_2 rfl fo_X12_13 h0 rfl ?_
  refine ok_aload_n (q := 6) 0 dX12_allowed_5 rfl rfl rfl ?_
  refine ok_getI (q := 9) (ci := 12) (k := 5) (x := I a0 5) dX12_allowed_6 rfl fo_X12_96 h0 rfl ?_
  refine ok_aload_n (q := 10) 0 dX12_allowed_9 rfl rfl rfl ?_
  refine ok_getR (q := 13) (ci := 12) (k := 35) (x := F a0 35) dX12_allowed_10 rfl fo_X12_65 h0 rfl ?_
  refine fi_callV1S (q := 16) (as := [qr (F a0 3), qi (I a0 5), qr (F a0 35)]) (st := []) dX12_allowed_13 rfl mo_X12_201 h0 rfl (Nat.le_of_ble_eq_true rfl) rfl rfl (Nat.le_of_ble_eq_true rfl) (Nat.le_of_ble_eq_true rfl) (Nat.le_of_ble_eq_true rfl) (Nat.zero_le _) (Nat.zero_le _) (fun _ hr => ct_X12_mayMove (N := N) h0 hr) (fun v_1 I_2 => ?_)
  exact fi_ireturnS dX12_allowed_16 rfl
theorem ct_X12_allowed {η : am_E} {l : Launch} {N : Nat} {n : Nat} {K : am_K} {I : am_I} {F : am_F} {a0 : Nat} {r0 : Int × am_I} (h0 : (K a0).1 = 12) : X12_allowed N K F a0 I = some r0 → am_Ct η l yX12_allowed cX12_allowed 1 (some .int) 5 120 0 0 [qr a0] n K I F (am_pS 1 r0 n K F) := fun g => am_Ct.of false (by decide) (by decide) (Nat.le_of_ble_eq_true rfl) (fun _ => w_X12_allowed (N := N) h0 g)
def M_X12_over : am_M := (yX12_over.cls, cX12_over, 1, (some .int), am_room 6 140 0 0, false)
def X12_over_b12 (N : Nat) (K : am_K) (F : am_F) (a0 : Nat) (I : am_I) (s0 : Int) : Option (Int × am_I) :=
  some (s0, I)
theorem w_X12_over_b12 {η : am_E} {l : Launch} {N : Nat} {n : Nat} {K : am_K} {I : am_I} {F : am_F} {a0 : Nat} {r0 : Int × am_I} {s0 : Int} (h0 : (K a0).1 = 12) : X12_over_b12 N K F a0 I s0 = some r0 → Ok η l M_X12_over (am_qm η (am_pS 1 r0 n K F) 0 0) 12 [(0, qr a0)] [qi s0] n K I F 0 0 := by
  unfold X12_over_b12
  exact fi_ireturnS dX12_over_12 rfl
def X12_over (N : Nat) (K : am_K) (F : am_F) (a0 : Nat) (I : am_I) : Option (Int × am_I) :=
  am_cl (X12_allowed N K F a0 I) (fun v_1 I_2 => if v_1 = 0 then (X12_over_b12 N K F a0 I_2 1) else (X12_over_b12 N K F a0 I_2 0))
theorem w_X12_over {η : am_E} {l : Launch} {N : Nat} {n : Nat} {K : am_K} {I : am_I} {F : am_F} {a0 : Nat} {r0 : Int × am_I} (h0 : (K a0).1 = 12) : X12_over N K F a0 I = some r0 → Ok η l M_X12_over (am_qm η (am_pS 1 r0 n K F) 0 0) 0 [(0, qr a0)] [] n K I F 0 0 := by
  unfold X12_over
  refine ok_aload_n (q := 1) 0 dX12_over_0 rfl rfl rfl ?_
  refine fi_callV1S (q := 4) (as := []) (st := []) dX12_over_1 rfl mo_X12_301 h0 rfl (Nat.le_of_ble_eq_true rfl) rfl rfl (Nat.le_of_ble_eq_true rfl) (Nat.le_of_ble_eq_true rfl) (Nat.le_of_ble_eq_true rfl) (Nat.zero_le _) (Nat.zero_le _) (fun _ hr => ct_X12_allowed (N := N) h0 hr) (fun v_1 I_2 => ?_)
  refine ok_if_ne (q := 11) (q2 := 7) dX12_over_4 rfl rfl ?_ ?_
  · skip
    refine ok_iconst (q := 12) (x := 0) dX12_over_11 rfl rfl (by decide) ?_
    exact fun g => ok_pick [0] rfl (w_X12_over_b12 (N := N) h0 g)
  · skip
    refine ok_iconst (q := 8) (x := 1) dX12_over_7 rfl rfl (by decide) ?_
    refine ok_goto (q := 12) dX12_over_8 rfl ?_
    exact fun g => ok_pick [0] rfl (w_X12_over_b12 (N := N) h0 g)
theorem ct_X12_over {η : am_E} {l : Launch} {N : Nat} {n : Nat} {K : am_K} {I : am_I} {F : am_F} {a0 : Nat} {r0 : Int × am_I} (h0 : (K a0).1 = 12) : X12_over N K F a0 I = some r0 → am_Ct η l yX12_over cX12_over 1 (some .int) 6 140 0 0 [qr a0] n K I F (am_pS 1 r0 n K F) := fun g => am_Ct.of false (by decide) (by decide) (Nat.le_of_ble_eq_true rfl) (fun _ => w_X12_over (N := N) h0 g)
def M_X12_scored : am_M := (yX12_scored.cls, cX12_scored, 2, (some .int), am_room 7 160 0 0, false)
def X12_scored_b31 (N : Nat) (K : am_K) (F : am_F) (a0 : Nat) (I : am_I) (s0 : Int) (s1 : Int) : Option (Int × am_I) :=
  if am_inI (s1 + s0) then some (s1 + s0, I) else none
theorem w_X12_scored_b31 {η : am_E} {l : Launch} {N : Nat} {n : Nat} {K : am_K} {I : am_I} {F : am_F} {a0 : Nat} {r0 : Int × am_I} {s0 : Int} {s1 : Int} (h0 : (K a0).1 = 12) : X12_scored_b31 N K F a0 I s0 s1 = some r0 → Ok η l M_X12_scored (am_qm η (am_pS 1 r0 n K F) 0 0) 31 [(0, qr a0)] [qi s0, qi s1] n K I F 0 0 := by
  unfold X12_scored_b31
  refine fi_chk (fun h_1 => ?_)
  refine ok_iadd (q := 32) dX12_scored_31 rfl h_1 ?_
  exact fi_ireturnS dX12_scored_32 rfl
def X12_scored (N : Nat) (K : am_K) (F : am_F) (a0 : Nat) (I : am_I) (x1 : Int) : Option (Int × am_I) :=
  if (K (F a0 4)).1 = 100 then if (0 : Int) ≤ x1 ∧ x1 < (K (F a0 4)).2 then am_cl (X12_over N K F a0 I) (fun v_3 I_4 => if v_3 = 1 then (am_cq (X12_counts N K F I_4 a0 (F a0 3) (I_4 a0 5) x1) (fun v_5 => X12_scored_b31 N K F a0 I_4 v_5 (I (F a0 4) x1))) else (X12_scored_b31 N K F a0 I_4 0 (I (F a0 4) x1))) else none else none
theorem w_X12_scored {η : am_E} {l : Launch} {N : Nat} {n : Nat} {K : am_K} {I : am_I} {F : am_F} {a0 : Nat} {r0 : Int × am_I} {x1 : Int} (h0 : (K a0).1 = 12) : X12_scored N K F a0 I x1 = some r0 → Ok η l M_X12_scored (am_qm η (am_pS 1 r0 n K F) 0 0) 0 [(0, qr a0), (1, qi x1)] [] n K I F 0 0 := by
  unfold X12_scored
  refine ok_aload_n (q := 1) 0 dX12_scored_0 rfl rfl rfl ?_
  refine ok_getR (q := 4) (ci := 12) (k := 4) (x := F a0 4) dX12_scored_1 rfl fo_X12_17 h0 rfl ?_
  refine ok_iload_n (q := 5) 1 dX12_scored_4 rfl rfl rfl ?_
  refine fi_chk (fun h_1 => ?_)
  refine fi_chk (fun h_2 => ?_)
  refine ok_iaload (q := 6) (v := I (F a0 4) x1) dX12_scored_5 rfl h_1 h_2.1 h_2.2 rfl ?_
  refine ok_aload_n (q := 7) 0 dX12_scored_6 rfl rfl rfl ?_
  refine fi_callV1S (q := 10) (as := []) (st := [qi (I (F a0 4) x1)]) dX12_scored_7 rfl mo_X12_295 h0 rfl (Nat.le_of_ble_eq_true rfl) rfl rfl (Nat.le_of_ble_eq_true rfl) (Nat.le_of_ble_eq_true rfl) (Nat.le_of_ble_eq_true rfl) (Nat.zero_le _) (Nat.zero_le _) (fun _ hr => ct_X12_over (N := N) h0 hr) (fun v_3 I_4 => ?_)
  refine ok_iconst (q := 11) (x := 1) dX12_scored_10 rfl rfl (by decide) ?_
  refine ok_icmp_ne (q := 30) (q2 := 14) dX12_scored_11 rfl rfl ?_ ?_
  · skip
    refine ok_iconst (q := 31) (x := 0) dX12_scored_30 rfl rfl (by decide) ?_
    exact fun g => ok_pick [0] rfl (w_X12_scored_b31 (N := N) h0 g)
  · skip
    refine ok_aload_n (q := 15) 0 dX12_scored_14 rfl rfl rfl ?_
    refine ok_aload_n (q := 16) 0 dX12_scored_15 rfl rfl rfl ?_
    refine ok_getR (q := 19) (ci := 12) (k := 3) (x := F a0 3) dX12_scored_16 rfl fo_X12_13 h0 rfl ?_
    refine ok_aload_n (q := 20) 0 dX12_scored_19 rfl rfl rfl ?_
    refine ok_getI (q := 23) (ci := 12) (k := 5) (x := I_4 a0 5) dX12_scored_20 rfl fo_X12_96 h0 rfl ?_
    refine ok_iload_n (q := 24) 1 dX12_scored_23 rfl rfl rfl ?_
    refine fi_callV1P (q := 27) (as := [qr (F a0 3), qi (I_4 a0 5), qi x1]) (st := [qi (I (F a0 4) x1)]) dX12_scored_24 rfl mo_X12_205 h0 rfl (Nat.le_of_ble_eq_true rfl) rfl rfl (Nat.le_of_ble_eq_true rfl) (Nat.le_of_ble_eq_true rfl) (Nat.le_of_ble_eq_true rfl) (Nat.zero_le _) (Nat.zero_le _) (fun _ hr => ct_X12_counts (N := N) h0 hr) (fun v_5 => ?_)
    refine ok_goto (q := 31) dX12_scored_27 rfl ?_
    exact fun g => ok_pick [0] rfl (w_X12_scored_b31 (N := N) h0 g)
theorem ct_X12_scored {η : am_E} {l : Launch} {N : Nat} {n : Nat} {K : am_K} {I : am_I} {F : am_F} {a0 : Nat} {r0 : Int × am_I} {x1 : Int} (h0 : (K a0).1 = 12) : X12_scored N K F a0 I x1 = some r0 → am_Ct η l yX12_scored cX12_scored 2 (some .int) 7 160 0 0 [qr a0, qi x1] n K I F (am_pS 1 r0 n K F) := fun g => am_Ct.of false (by decide) (by decide) (Nat.le_of_ble_eq_true rfl) (fun _ => w_X12_scored (N := N) h0 g)
