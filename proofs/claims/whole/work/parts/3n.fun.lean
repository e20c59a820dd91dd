def M_X12_score : am_M := (yX12_score.cls, cX12_score, 2, (some .int), am_room 8 181 0 0, false)
def X12_score_b27 (N : Nat) (K : am_K) (F : am_F) (a0 : Nat) (I : am_I) (s0 : Int) : Option (Int × am_I) :=
  some (s0, I)
theorem w_X12_score_b27 {η : am_E} {l : Launch} {N : Nat} {n : Nat} {K : am_K} {I : am_I} {F : am_F} {a0 : Nat} {r0 : Int × am_I} {s0 : Int} (h0 : (K a0).1 = 12) : X12_score_b27 N K F a0 I s0 = some r0 → Ok η l M_X12_score (am_qm η (am_pS 1 r0 n K F) 0 0) 27 [(0, qr a0)] [qi s0] n K I F 0 0 := by
  unfold X12_score_b27
  exact fi_ireturnS dX12_score_27 rfl
def X12_score (N : Nat) (K : am_K) (F : am_F) (a0 : Nat) (I : am_I) (x1 : Int) : Option (Int × am_I) :=
  am_cq (X12_isIn N K F I x1 0 1) (fun v_1 => if v_1 = 0 then (am_cl (X12_no N K F a0 I 3) (fun v_6 I_7 => X12_score_b27 N K F a0 I_7 v_6)) else (am_cl (X12_scored N K F a0 I x1) (fun v_2 I_3 => am_cl (X12_ok N K F a0 I_3 v_2) (fun v_4 I_5 => X12_score_b27 N K F a0 I_5 v_4))))
theorem w_X12_score {η : am_E} {l : Launch} {N : Nat} {n : Nat} {K : am_K} {I : am_I} {F : am_F} {a0 : Nat} {r0 : Int × am_I} {x1 : Int} (h0 : (K a0).1 = 12) : X12_score N K F a0 I x1 = some r0 → Ok η l M_X12_score (am_qm η (am_pS 1 r0 n K F) 0 0) 0 [(0, qr a0), (1, qi x1)] [] n K I F 0 0 := by
  unfold X12_score
  refine ok_iload_n (q := 1) 1 dX12_score_0 rfl rfl rfl ?_
  refine ok_i2l (q := 2) dX12_score_1 rfl ?_
  refine ok_lconst (q := 3) (x := 0) dX12_score_2 rfl rfl (by decide) ?_
  refine ok_lconst (q := 4) (x := 1) dX12_score_3 rfl rfl (by decide) ?_
  refine fi_callS1P (q := 7) (as := [ql x1, ql 0, ql 1]) (st := []) dX12_score_4 rfl mo_X12_164 rfl rfl (Nat.le_of_ble_eq_true rfl) (Nat.le_of_ble_eq_true rfl) (Nat.le_of_ble_eq_true rfl) (Nat.zero_le _) (Nat.zero_le _) (fun _ hr => ct_X12_isIn (N := N) hr) (fun v_1 => ?_)
  refine ok_if_ne (q := 18) (q2 := 10) dX12_score_7 rfl rfl ?_ ?_
  · skip
    refine ok_aload_n (q := 19) 0 dX12_score_18 rfl rfl rfl ?_
    refine ok_aload_n (q := 20) 0 dX12_score_19 rfl rfl rfl ?_
    refine ok_iload_n (q := 21) 1 dX12_score_20 rfl rfl rfl ?_
    refine fi_callV1S (q := 24) (as := [qi x1]) (st := [qr a0]) dX12_score_21 rfl mo_X12_298 h0 rfl (Nat.le_of_ble_eq_true rfl) rfl rfl (Nat.le_of_ble_eq_true rfl) (Nat.le_of_ble_eq_true rfl) (Nat.le_of_ble_eq_true rfl) (Nat.zero_le _) (Nat.zero_le _) (fun _ hr => ct_X12_scored (N := N) h0 hr) (fun v_2 I_3 => ?_)
    refine fi_callV1S (q := 27) (as := [qi v_2]) (st := []) dX12_score_24 rfl mo_X12_268 h0 rfl (Nat.le_of_ble_eq_true rfl) rfl rfl (Nat.le_of_ble_eq_true rfl) (Nat.le_of_ble_eq_true rfl) (Nat.le_of_ble_eq_true rfl) (Nat.zero_le _) (Nat.zero_le _) (fun _ hr => ct_X12_ok (N := N) h0 hr) (fun v_4 I_5 => ?_)
    exact fun g => ok_pick [0] rfl (w_X12_score_b27 (N := N) h0 g)
  · skip
    refine ok_aload_n (q := 11) 0 dX12_score_10 rfl rfl rfl ?_
    refine ok_iconst (q := 12) (x := 3) dX12_score_11 rfl rfl (by decide) ?_
    refine fi_callV1S (q := 15) (as := [qi 3]) (st := []) dX12_score_12 rfl mo_X12_265 h0 rfl (Nat.le_of_ble_eq_true rfl) rfl rfl (Nat.le_of_ble_eq_true rfl) (Nat.le_of_ble_eq_true rfl) (Nat.le_of_ble_eq_true rfl) (Nat.zero_le _) (Nat.zero_le _) (fun _ hr => ct_X12_no (N := N) h0 hr) (fun v_6 I_7 => ?_)
    refine ok_goto (q := 27) dX12_score_15 rfl ?_
    exact fun g => ok_pick [0] rfl (w_X12_score_b27 (N := N) h0 g)
theorem ct_X12_score {η : am_E} {l : Launch} {N : Nat} {n : Nat} {K : am_K} {I : am_I} {F : am_F} {a0 : Nat} {r0 : Int × am_I} {x1 : Int} (h0 : (K a0).1 = 12) : X12_score N K F a0 I x1 = some r0 → am_Ct η l yX12_score cX12_score 2 (some .int) 8 181 0 0 [qr a0, qi x1] n K I F (am_pS 1 r0 n K F) := fun g => am_Ct.of false (by decide) (by decide) (Nat.le_of_ble_eq_true rfl) (fun _ => w_X12_score (N := N) h0 g)
def M_X12_turn : am_M := (yX12_turn.cls, cX12_turn, 1, (some .int), am_room 0 0 0 0, false)
def X12_turn (N : Nat) (K : am_K) (F : am_F) (I : am_I) (a0 : Nat) : Option Int :=
  some (I a0 5)
theorem w_X12_turn {η : am_E} {l : Launch} {N : Nat} {n : Nat} {K : am_K} {I : am_I} {F : am_F} {a0 : Nat} {r0 : Int} (h0 : (K a0).1 = 12) : X12_turn N K F I a0 = some r0 → Ok η l M_X12_turn (am_qm η (am_pS 1 (r0, I) n K F) 0 0) 0 [(0, qr a0)] [] n K I F 0 0 := by
  unfold X12_turn
  refine ok_aload_n (q := 1) 0 dX12_turn_0 rfl rfl rfl ?_
  refine ok_getI (q := 4) (ci := 12) (k := 5) (x := I a0 5) dX12_turn_1 rfl fo_X12_96 h0 rfl ?_
  exact fi_ireturnP dX12_turn_4 rfl
theorem ct_X12_turn {η : am_E} {l : Launch} {N : Nat} {n : Nat} {K : am_K} {I : am_I} {F : am_F} {a0 : Nat} {r0 : Int} (h0 : (K a0).1 = 12) : X12_turn N K F I a0 = some r0 → am_Ct η l yX12_turn cX12_turn 1 (some .int) 0 0 0 0 [qr a0] n K I F (am_pS 1 (r0, I) n K F) := fun g => am_Ct.of false (by decide) (by decide) (Nat.le_of_ble_eq_true rfl) (fun _ => w_X12_turn (N := N) h0 g)
def M_X12_moves : am_M := (yX12_moves.cls, cX12_moves, 1, (some .int), am_room 0 0 0 0, false)
def X12_moves (N : Nat) (K : am_K) (F : am_F) (I : am_I) (a0 : Nat) : Option Int :=
  some (I a0 37)
theorem w_X12_moves {η : am_E} {l : Launch} {N : Nat} {n : Nat} {K : am_K} {I : am_I} {F : am_F} {a0 : Nat} {r0 : Int} (h0 : (K a0).1 = 12) : X12_moves N K F I a0 = some r0 → Ok η l M_X12_moves (am_qm η (am_pS 1 (r0, I) n K F) 0 0) 0 [(0, qr a0)] [] n K I F 0 0 := by
  unfold X12_moves
  refine ok_aload_n (q := 1) 0 dX12_moves_0 rfl rfl rfl ?_
  refine ok_getI (q := 4) (ci := 12) (k := 37) (x := I a0 37) dX12_moves_1 rfl fo_X12_121 h0 rfl ?_
  exact fi_ireturnP dX12_moves_4 rfl
theorem ct_X12_moves {η : am_E} {l : Launch} {N : Nat} {n : Nat} {K : am_K} {I : am_I} {F : am_F} {a0 : Nat} {r0 : Int} (h0 : (K a0).1 = 12) : X12_moves N K F I a0 = some r0 → am_Ct η l yX12_moves cX12_moves 1 (some .int) 0 0 0 0 [qr a0] n K I F (am_pS 1 (r0, I) n K F) := fun g => am_Ct.of false (by decide) (by decide) (Nat.le_of_ble_eq_true rfl) (fun _ => w_X12_moves (N := N) h0 g)
def M_X12_positions : am_M := (yX12_positions.cls, cX12_positions, 2, (some .long), am_room 3 66 0 0, false)
def X12_positions (N : Nat) (K : am_K) (F : am_F) (a0 : Nat) (I : am_I) (x1 : Int) : Option (Int × am_I) :=
  am_cq (X12_isIn N K F I x1 0 12) (fun v_1 => if v_1 = 0 then (am_cl (X12_no N K F a0 I 7) (fun v_4 I_5 => some (v_4, I_5))) else (am_lt (am_u2 I a0 15 0) (fun I_2 => am_cq (X12_placesTo N K F I_2 a0 x1) (fun v_3 => some (v_3, I_2)))))
theorem w_X12_positions {η : am_E} {l : Launch} {N : Nat} {n : Nat} {K : am_K} {I : am_I} {F : am_F} {a0 : Nat} {r0 : Int × am_I} {x1 : Int} (h0 : (K a0).1 = 12) : X12_positions N K F a0 I x1 = some r0 → Ok η l M_X12_positions (am_qm η (am_pS 2 r0 n K F) 0 0) 0 [(0, qr a0), (1, qi x1)] [] n K I F 0 0 := by
  unfold X12_positions
  refine ok_iload_n (q := 1) 1 dX12_positions_0 rfl rfl rfl ?_
  refine ok_i2l (q := 2) dX12_positions_1 rfl ?_
  refine ok_lconst (q := 3) (x := 0) dX12_positions_2 rfl rfl (by decide) ?_
  refine ok_ldc2 (q := 6) (x := 12) (v := 12) dX12_positions_3 rfl kc_X12_304 rfl (by decide) ?_
  refine fi_callS1P (q := 9) (as := [ql x1, ql 0, ql 12]) (st := []) dX12_positions_6 rfl mo_X12_164 rfl rfl (Nat.le_of_ble_eq_true rfl) (Nat.le_of_ble_eq_true rfl) (Nat.le_of_ble_eq_true rfl) (Nat.zero_le _) (Nat.zero_le _) (fun _ hr => ct_X12_isIn (N := N) hr) (fun v_1 => ?_)
  refine ok_if_ne (q := 20) (q2 := 12) dX12_positions_9 rfl rfl ?_ ?_
  · skip
    refine ok_aload_n (q := 21) 0 dX12_positions_20 rfl rfl rfl ?_
    refine ok_iconst (q := 22) (x := 0) dX12_positions_21 rfl rfl (by decide) ?_
    refine ok_putI (q := 25) (ci := 12) (k := 15) dX12_positions_22 rfl fo_X12_260 h0 ft_12_15 ff_12_15 (fun I_2 => ?_)
    refine ok_aload_n (q := 26) 0 dX12_positions_25 rfl rfl rfl ?_
    refine ok_iload_n (q := 27) 1 dX12_positions_26 rfl rfl rfl ?_
    refine fi_callV2P (q := 30) (as := [qi x1]) (st := []) dX12_positions_27 rfl mo_X12_193 h0 rfl (Nat.le_of_ble_eq_true rfl) rfl rfl (Nat.le_of_ble_eq_true rfl) (Nat.le_of_ble_eq_true rfl) (Nat.le_of_ble_eq_true rfl) (Nat.zero_le _) (Nat.zero_le _) (fun _ hr => ct_X12_placesTo (N := N) h0 hr) (fun v_3 => ?_)
    exact fi_lreturnS dX12_positions_30 rfl
  · skip
    refine ok_aload_n (q := 13) 0 dX12_positions_12 rfl rfl rfl ?_
    refine ok_bipush (q := 15) (x := 7) dX12_positions_13 rfl rfl (by decide) ?_
    refine fi_callV1S (q := 18) (as := [qi 7]) (st := []) dX12_positions_15 rfl mo_X12_265 h0 rfl (Nat.le_of_ble_eq_true rfl) rfl rfl (Nat.le_of_ble_eq_true rfl) (Nat.le_of_ble_eq_true rfl) (Nat.le_of_ble_eq_true rfl) (Nat.zero_le _) (Nat.zero_le _) (fun _ hr => ct_X12_no (N := N) h0 hr) (fun v_4 I_5 => ?_)
    refine ok_i2l (q := 19) dX12_positions_18 rfl ?_
    exact fi_lreturnS dX12_positions_19 rfl
theorem ct_X12_positions {η : am_E} {l : Launch} {N : Nat} {n : Nat} {K : am_K} {I : am_I} {F : am_F} {a0 : Nat} {r0 : Int × am_I} {x1 : Int} (h0 : (K a0).1 = 12) : X12_positions N K F a0 I x1 = some r0 → am_Ct η l yX12_positions cX12_positions 2 (some .long) 3 66 0 0 [qr a0, qi x1] n K I F (am_pS 2 r0 n K F) := fun g => am_Ct.of false (by decide) (by decide) (Nat.le_of_ble_eq_true rfl) (fun _ => w_X12_positions (N := N) h0 g)
def M_X12_place : am_M := (yX12_place.cls, cX12_place, 1, (some .long), am_room 4 94 0 0, false)
def X12_place (N : Nat) (K : am_K) (F : am_F) (a0 : Nat) (I : am_I) : Option (Int × am_I) :=
  am_cq (X12_seedsOf N K F I a0 (F a0 3)) (fun v_1 => if 12 < v_1 then (am_cl (X12_no N K F a0 I 10) (fun v_4 I_5 => some (v_4, I_5))) else (am_lt (am_u2 I a0 15 0) (fun I_2 => am_cq (X12_placeOf N K F I_2 a0 (F a0 3) (I_2 a0 5)) (fun v_3 => some (v_3, I_2)))))
theorem w_X12_place {η : am_E} {l : Launch} {N : Nat} {n : Nat} {K : am_K} {I : am_I} {F : am_F} {a0 : Nat} {r0 : Int × am_I} (h0 : (K a0).1 = 12) : X12_place N K F a0 I = some r0 → Ok η l M_X12_place (am_qm η (am_pS 2 r0 n K F) 0 0) 0 [(0, qr a0)] [] n K I F 0 0 := by
  unfold X12_place
  refine ok_aload_n (q := 1) 0 dX12_place_0 rfl rfl rfl ?_
  refine ok_aload_n (q := 2) 0 dX12_place_1 rfl rfl rfl ?_
  refine ok_getR (q := 5) (ci := 12) (k := 3) (x := F a0 3) dX12_place_2 rfl fo_X12_13 h0 rfl ?_
  refine fi_callV1P (q := 8) (as := [qr (F a0 3)]) (st := []) dX12_place_5 rfl mo_X12_189 h0 rfl (Nat.le_of_ble_eq_true rfl) rfl rfl (Nat.le_of_ble_eq_true rfl) (Nat.le_of_ble_eq_true rfl) (Nat.le_of_ble_eq_true rfl) (Nat.zero_le _) (Nat.zero_le _) (fun _ hr => ct_X12_seedsOf (N := N) h0 hr) (fun v_1 => ?_)
  refine ok_bipush (q := 10) (x := 12) dX12_place_8 rfl rfl (by decide) ?_
  refine ok_icmp_le (q := 21) (q2 := 13) dX12_place_10 rfl rfl ?_ ?_
  · skip
    refine ok_aload_n (q := 22) 0 dX12_place_21 rfl rfl rfl ?_
    refine ok_iconst (q := 23) (x := 0) dX12_place_22 rfl rfl (by decide) ?_
    refine ok_putI (q := 26) (ci := 12) (k := 15) dX12_place_23 rfl fo_X12_260 h0 ft_12_15 ff_12_15 (fun I_2 => ?_)
    refine ok_aload_n (q := 27) 0 dX12_place_26 rfl rfl rfl ?_
    refine ok_aload_n (q := 28) 0 dX12_place_27 rfl rfl rfl ?_
    refine ok_getR (q := 31) (ci := 12) (k := 3) (x := F a0 3) dX12_place_28 rfl fo_X12_13 h0 rfl ?_
    refine ok_aload_n (q := 32) 0 dX12_place_31 rfl rfl rfl ?_
    refine ok_getI (q := 35) (ci := 12) (k := 5) (x := I_2 a0 5) dX12_place_32 rfl fo_X12_96 h0 rfl ?_
    refine fi_callV2P (q := 38) (as := [qr (F a0 3), qi (I_2 a0 5)]) (st := []) dX12_place_35 rfl mo_X12_209 h0 rfl (Nat.le_of_ble_eq_true rfl) rfl rfl (Nat.le_of_ble_eq_true rfl) (Nat.le_of_ble_eq_true rfl) (Nat.le_of_ble_eq_true rfl) (Nat.zero_le _) (Nat.zero_le _) (fun _ hr => ct_X12_placeOf (N := N) h0 hr) (fun v_3 => ?_)
    exact fi_lreturnS dX12_place_38 rfl
  · skip
    refine ok_aload_n (q := 14) 0 dX12_place_13 rfl rfl rfl ?_
    refine ok_bipush (q := 16) (x := 10) dX12_place_14 rfl rfl (by decide) ?_
    refine fi_callV1S (q := 19) (as := [qi 10]) (st := []) dX12_place_16 rfl mo_X12_265 h0 rfl (Nat.le_of_ble_eq_true rfl) rfl rfl (Nat.le_of_ble_eq_true rfl) (Nat.le_of_ble_eq_true rfl) (Nat.le_of_ble_eq_true rfl) (Nat.zero_le _) (Nat.zero_le _) (fun _ hr => ct_X12_no (N := N) h0 hr) (fun v_4 I_5 => ?_)
    refine ok_i2l (q := 20) dX12_place_19 rfl ?_
    exact fi_lreturnS dX12_place_20 rfl
theorem ct_X12_place {η : am_E} {l : Launch} {N : Nat} {n : Nat} {K : am_K} {I : am_I} {F : am_F} {a0 : Nat} {r0 : Int × am_I} (h0 : (K a0).1 = 12) : X12_place N K F a0 I = some r0 → am_Ct η l yX12_place cX12_place 1 (some .long) 4 94 0 0 [qr a0] n K I F (am_pS 2 r0 n K F) := fun g => am_Ct.of false (by decide) (by decide) (Nat.le_of_ble_eq_true rfl) (fun _ => w_X12_place (N := N) h0 g)
def M_X12_ofPlace : am_M := (yX12_ofPlace.cls, cX12_ofPlace, 7, (some .int), am_room 4 93 0 0, false)
def X12_ofPlace_b97 (N : Nat) (K : am_K) (F : am_F) (a0 : Nat) (k71 : am_I → Int → Int → Int → Option (Int × am_I)) (I : am_I) (x3 : Int) (x6 : Int) (s0 : Int) (s1 : Int) : Option (Int × am_I) :=
  if am_inI (s1 + s0) then am_lt (s1 + s0) (fun x5_2 => k71 I x3 x5_2 x6) else none
theorem w_X12_ofPlace_b97 {η : am_E} {l : Launch} {N : Nat} {n : Nat} {K : am_K} {I : am_I} {F : am_F} {a0 : Nat} {r0 : Int × am_I} {k71 : am_I → Int → Int → Int → Option (Int × am_I)} {x3 : Int} {x6 : Int} {s0 : Int} {s1 : Int} (h0 : (K a0).1 = 12) (H71 : ∀ (I : am_I) (x3 : Int) (x5 : Int) (x6 : Int), k71 I x3 x5 x6 = some r0 → Ok η l M_X12_ofPlace (am_qm η (am_pS 1 r0 n K F) 0 0) 71 [(0, qr a0), (3, qi x3), (5, qi x5), (6, qi x6)] [] n K I F 0 0) : X12_ofPlace_b97 N K F a0 k71 I x3 x6 s0 s1 = some r0 → Ok η l M_X12_ofPlace (am_qm η (am_pS 1 r0 n K F) 0 0) 97 [(0, qr a0), (3, qi x3), (6, qi x6)] [qi s0, qi s1] n K I F 0 0 := by
  unfold X12_ofPlace_b97
  refine fi_chk (fun h_1 => ?_)
  refine ok_iadd (q := 98) dX12_ofPlace_97 rfl h_1 ?_
  refine ok_istoreL (q := 100) (fun x5_2 => [(5, qi x5_2), (0, qr a0), (3, qi x3), (6, qi x6)]) dX12_ofPlace_98 rfl (Nat.le_of_ble_eq_true rfl) (fun _ => rfl) (fun x5_2 => ?_)
  refine ok_goto (q := 71) dX12_ofPlace_100 rfl ?_
  exact fun g => ok_pick [1, 2, 0, 3] rfl (H71 _ _ _ _ g)
def X12_ofPlace_s71 (N : Nat) (K : am_K) (F : am_F) (a0 : Nat) (k71 : am_I → Int → Int → Int → Option (Int × am_I)) (I : am_I) (x3 : Int) (x5 : Int) (x6 : Int) : Option (Int × am_I) :=
  if x5 < x3 then (if am_inI (x6 + 1) then am_lt (x6 + 1) (fun x6_6 => if (K (F a0 2)).1 = 101 then if (0 : Int) ≤ x6_6 ∧ x6_6 < (K (F a0 2)).2 then if (I (F a0 2) x6_6) = 0 then (X12_ofPlace_b97 N K F a0 k71 I x3 x6_6 1 x5) else (X12_ofPlace_b97 N K F a0 k71 I x3 x6_6 0 x5) else none else none) else none) else (if (K (F a0 20)).1 = 100 then if (0 : Int) ≤ x6 ∧ x6 < (K (F a0 20)).2 then am_cl (X12_ok N K F a0 I (I (F a0 20) x6)) (fun v_3 I_4 => some (v_3, I_4)) else none else none)
theorem w_X12_ofPlace_s71 {η : am_E} {l : Launch} {N : Nat} {n : Nat} {K : am_K} {I : am_I} {F : am_F} {a0 : Nat} {r0 : Int × am_I} {k71 : am_I → Int → Int → Int → Option (Int × am_I)} {x3 : Int} {x5 : Int} {x6 : Int} (h0 : (K a0).1 = 12) (H71 : ∀ (I : am_I) (x3 : Int) (x5 : Int) (x6 : Int), k71 I x3 x5 x6 = some r0 → Ok η l M_X12_ofPlace (am_qm η (am_pS 1 r0 n K F) 0 0) 71 [(0, qr a0), (3, qi x3), (5, qi x5), (6, qi x6)] [] n K I F 0 0) : X12_ofPlace_s71 N K F a0 k71 I x3 x5 x6 = some r0 → Ok η l M_X12_ofPlace (am_qm η (am_pS 1 r0 n K F) 0 0) 71 [(0, qr a0), (3, qi x3), (5, qi x5), (6, qi x6)] [] n K I F 0 0 := by
  unfold X12_ofPlace_s71
  refine ok_iload (q := 73) 2 dX12_ofPlace_71 rfl rfl ?_
  refine ok_iload_n (q := 74) 1 dX12_ofPlace_73 rfl rfl rfl ?_
  refine ok_icmp_ge (q := 103) (q2 := 77) dX12_ofPlace_74 rfl rfl ?_ ?_
  · skip
    refine ok_aload_n (q := 104) 0 dX12_ofPlace_103 rfl rfl rfl ?_
    refine ok_aload_n (q := 105) 0 dX12_ofPlace_104 rfl rfl rfl ?_
    refine ok_getR (q := 108) (ci := 12) (k := 20) (x := F a0 20) dX12_ofPlace_105 rfl fo_X12_29 h0 rfl ?_
    refine ok_iload (q := 110) 3 dX12_ofPlace_108 rfl rfl ?_
    refine fi_chk (fun h_1 => ?_)
    refine fi_chk (fun h_2 => ?_)
    refine ok_iaload (q := 111) (v := I (F a0 20) x6) dX12_ofPlace_110 rfl h_1 h_2.1 h_2.2 rfl ?_
    refine fi_callV1S (q := 114) (as := [qi (I (F a0 20) x6)]) (st := []) dX12_ofPlace_111 rfl mo_X12_268 h0 rfl (Nat.le_of_ble_eq_true rfl) rfl rfl (Nat.le_of_ble_eq_true rfl) (Nat.le_of_ble_eq_true rfl) (Nat.le_of_ble_eq_true rfl) (Nat.zero_le _) (Nat.zero_le _) (fun _ hr => ct_X12_ok (N := N) h0 hr) (fun v_3 I_4 => ?_)
    exact fi_ireturnS dX12_ofPlace_114 rfl
  · skip
    refine fi_chk (fun h_5 => ?_)
    refine ok_iincL (q := 80) (fun x6_6 => [(6, qi x6_6), (0, qr a0), (3, qi x3), (5, qi x5)]) 3 dX12_ofPlace_77 rfl rfl h_5 (Nat.le_of_ble_eq_true rfl) (fun _ => rfl) (fun x6_6 => ?_)
    refine ok_iload (q := 82) 3 dX12_ofPlace_80 rfl rfl ?_
    refine ok_aload_n (q := 83) 1 dX12_ofPlace_82 rfl rfl rfl ?_
    refine ok_getR (q := 86) (ci := 12) (k := 2) (x := F a0 2) dX12_ofPlace_83 rfl fo_X12_9 h0 rfl ?_
    refine ok_iload (q := 88) 0 dX12_ofPlace_86 rfl rfl ?_
    refine fi_chk (fun h_7 => ?_)
    refine fi_chk (fun h_8 => ?_)
    refine ok_baload (q := 89) (v := I (F a0 2) x6_6) dX12_ofPlace_88 rfl h_7 h_8.1 h_8.2 rfl ?_
    refine ok_if_eq (q := 96) (q2 := 92) dX12_ofPlace_89 rfl rfl ?_ ?_
    · skip
      refine ok_iconst (q := 97) (x := 1) dX12_ofPlace_96 rfl rfl (by decide) ?_
      exact fun g => ok_pick [1, 2, 0] rfl (w_X12_ofPlace_b97 (N := N) h0 H71 g)
    · skip
      refine ok_iconst (q := 93) (x := 0) dX12_ofPlace_92 rfl rfl (by decide) ?_
      refine ok_goto (q := 97) dX12_ofPlace_93 rfl ?_
      exact fun g => ok_pick [1, 2, 0] rfl (w_X12_ofPlace_b97 (N := N) h0 H71 g)
def X12_ofPlace_h71 (N : Nat) (K : am_K) (F : am_F) (a0 : Nat) : Nat → am_I → Int → Int → Int → Option (Int × am_I) := am_it (fun kh => X12_ofPlace_s71 N K F a0 kh) (fun _ _ _ _ => none)
theorem w_X12_ofPlace_h71 {η : am_E} {l : Launch} {N : Nat} {n : Nat} {K : am_K} {F : am_F} {a0 : Nat} {r0 : Int × am_I} (h0 : (K a0).1 = 12) (f : Nat) : ∀ (I : am_I) (x3 : Int) (x5 : Int) (x6 : Int), X12_ofPlace_h71 N K F a0 f I x3 x5 x6 = some r0 → Ok η l M_X12_ofPlace (am_qm η (am_pS 1 r0 n K F) 0 0) 71 [(0, qr a0), (3, qi x3), (5, qi x5), (6, qi x6)] [] n K I F 0 0 := by
  induction f with
  | zero => intro I x3 x5 x6 g; exact fi_none g
  | succ f ih => intro I x3 x5 x6 g; exact w_X12_ofPlace_s71 (N := N) h0 ih g
def X12_ofPlace (N : Nat) (K : am_K) (F : am_F) (a0 : Nat) (I : am_I) (x1 : Int) (x3 : Int) : Option (Int × am_I) :=
  am_cq (X12_placesTo N K F I a0 12) (fun v_1 => am_cq (X12_isIn N K F I x1 0 (am_wL (v_1 - 1))) (fun v_2 => if v_2 = 0 then (am_cl (X12_no N K F a0 I 3) (fun v_12 I_13 => some (v_12, I_13))) else (am_cq (X12_there N K F I a0) (fun v_3 => if am_inI (v_3 - 1) then am_cq (X12_isIn N K F I x3 (-1) (v_3 - 1)) (fun v_5 => if v_5 = 0 then (am_cl (X12_no N K F a0 I 7) (fun v_10 I_11 => some (v_10, I_11))) else (am_cl (X12_layOut N K F a0 I x1) (fun v_6 I_7 => if x3 < 0 then (am_cl (X12_ok N K F a0 I_7 v_6) (fun v_8 I_9 => some (v_8, I_9))) else (X12_ofPlace_h71 N K F a0 N I_7 x3 (-1) (-1))))) else none))))
theorem w_X12_ofPlace {η : am_E} {l : Launch} {N : Nat} {n : Nat} {K : am_K} {I : am_I} {F : am_F} {a0 : Nat} {r0 : Int × am_I} {x1 : Int} {x3 : Int} (h0 : (K a0).1 = 12) : X12_ofPlace N K F a0 I x1 x3 = some r0 → Ok η l M_X12_ofPlace (am_qm η (am_pS 1 r0 n K F) 0 0) 0 [(0, qr a0), (1, ql x1), (3, qi x3)] [] n K I F 0 0 := by
  unfold X12_ofPlace
  refine ok_lload_n (q := 1) 1 dX12_ofPlace_0 rfl rfl rfl ?_
  refine ok_lconst (q := 2) (x := 0) dX12_ofPlace_1 rfl rfl (by decide) ?_
  refine ok_aload_n (q := 3) 0 dX12_ofPlace_2 rfl rfl rfl ?_
  refine ok_bipush (q := 5) (x := 12) dX12_ofPlace_3 rfl rfl (by decide) ?_
  refine fi_callV2P (q := 8) (as := [qi 12]) (st := [ql 0, ql x1]) dX12_ofPlace_5 rfl mo_X12_193 h0 rfl (Nat.le_of_ble_eq_true rfl) rfl rfl (Nat.le_of_ble_eq_true rfl) (Nat.le_of_ble_eq_true rfl) (Nat.le_of_ble_eq_true rfl) (Nat.zero_le _) (Nat.zero_le _) (fun _ hr => ct_X12_placesTo (N := N) h0 hr) (fun v_1 => ?_)
  refine ok_lconst (q := 9) (x := 1) dX12_ofPlace_8 rfl rfl (by decide) ?_
  refine ok_lsubW (q := 10) dX12_ofPlace_9 rfl ?_
  refine fi_callS1P (q := 13) (as := [ql x1, ql 0, ql (am_wL (v_1 - 1))]) (st := []) dX12_ofPlace_10 rfl mo_X12_164 rfl rfl (Nat.le_of_ble_eq_true rfl) (Nat.le_of_ble_eq_true rfl) (Nat.le_of_ble_eq_true rfl) (Nat.zero_le _) (Nat.zero_le _) (fun _ hr => ct_X12_isIn (N := N) hr) (fun v_2 => ?_)
  refine ok_if_ne (q := 22) (q2 := 16) dX12_ofPlace_13 rfl rfl ?_ ?_
  · skip
    refine ok_iload_n (q := 23) 2 dX12_ofPlace_22 rfl rfl rfl ?_
    refine ok_i2l (q := 24) dX12_ofPlace_23 rfl ?_
    refine ok_ldc2 (q := 27) (x := -1) (v := -1) dX12_ofPlace_24 rfl kc_X12_306 rfl (by decide) ?_
    refine ok_aload_n (q := 28) 0 dX12_ofPlace_27 rfl rfl rfl ?_
    refine fi_callV1P (q := 31) (as := []) (st := [ql (-1), ql x3]) dX12_ofPlace_28 rfl mo_X12_180 h0 rfl (Nat.le_of_ble_eq_true rfl) rfl rfl (Nat.le_of_ble_eq_true rfl) (Nat.le_of_ble_eq_true rfl) (Nat.le_of_ble_eq_true rfl) (Nat.zero_le _) (Nat.zero_le _) (fun _ hr => ct_X12_there (N := N) h0 hr) (fun v_3 => ?_)
    refine ok_iconst (q := 32) (x := 1) dX12_ofPlace_31 rfl rfl (by decide) ?_
    refine fi_chk (fun h_4 => ?_)
    refine ok_isub (q := 33) dX12_ofPlace_32 rfl h_4 ?_
    refine ok_i2l (q := 34) dX12_ofPlace_33 rfl ?_
    refine fi_callS1P (q := 37) (as := [ql x3, ql (-1), ql (v_3 - 1)]) (st := []) dX12_ofPlace_34 rfl mo_X12_164 rfl rfl (Nat.le_of_ble_eq_true rfl) (Nat.le_of_ble_eq_true rfl) (Nat.le_of_ble_eq_true rfl) (Nat.zero_le _) (Nat.zero_le _) (fun _ hr => ct_X12_isIn (N := N) hr) (fun v_5 => ?_)
    refine ok_if_ne (q := 47) (q2 := 40) dX12_ofPlace_37 rfl rfl ?_ ?_
    · skip
      refine ok_aload_n (q := 48) 0 dX12_ofPlace_47 rfl rfl rfl ?_
      refine ok_lload_n (q := 49) 1 dX12_ofPlace_48 rfl rfl rfl ?_
      refine fi_callV1S (q := 52) (as := [ql x1]) (st := []) dX12_ofPlace_49 rfl mo_X12_197 h0 rfl (Nat.le_of_ble_eq_true rfl) rfl rfl (Nat.le_of_ble_eq_true rfl) (Nat.le_of_ble_eq_true rfl) (Nat.le_of_ble_eq_true rfl) (Nat.zero_le _) (Nat.zero_le _) (fun _ hr => ct_X12_layOut (N := N) h0 hr) (fun v_6 I_7 => ?_)
      refine ok_istore (q := 54) (ls' := [(4, qi v_6), (0, qr a0), (1, ql x1), (3, qi x3)]) dX12_ofPlace_52 rfl (Nat.le_of_ble_eq_true rfl) rfl ?_
      refine ok_iload_n (q := 55) 3 dX12_ofPlace_54 rfl rfl rfl ?_
      refine ok_if_ge (q := 65) (q2 := 58) dX12_ofPlace_55 rfl rfl ?_ ?_
      · skip
        refine ok_iconst (q := 66) (x := -1) dX12_ofPlace_65 rfl rfl (by decide) ?_
        refine ok_istore (q := 68) (ls' := [(5, qi (-1)), (4, qi v_6), (0, qr a0), (1, ql x1), (3, qi x3)]) dX12_ofPlace_66 rfl (Nat.le_of_ble_eq_true rfl) rfl ?_
        refine ok_iconst (q := 69) (x := -1) dX12_ofPlace_68 rfl rfl (by decide) ?_
        refine ok_istore (q := 71) (ls' := [(6, qi (-1)), (5, qi (-1)), (4, qi v_6), (0, qr a0), (1, ql x1), (3, qi x3)]) dX12_ofPlace_69 rfl (Nat.le_of_ble_eq_true rfl) rfl ?_
        exact fun g => ok_pick [3, 5, 1, 0] rfl (w_X12_ofPlace_h71 (N := N) h0 N _ _ _ _ g)
      · skip
        refine ok_aload_n (q := 59) 1 dX12_ofPlace_58 rfl rfl rfl ?_
        refine ok_iload (q := 61) 0 dX12_ofPlace_59 rfl rfl ?_
        refine fi_callV1S (q := 64) (as := [qi v_6]) (st := []) dX12_ofPlace_61 rfl mo_X12_268 h0 rfl (Nat.le_of_ble_eq_true rfl) rfl rfl (Nat.le_of_ble_eq_true rfl) (Nat.le_of_ble_eq_true rfl) (Nat.le_of_ble_eq_true rfl) (Nat.zero_le _) (Nat.zero_le _) (fun _ hr => ct_X12_ok (N := N) h0 hr) (fun v_8 I_9 => ?_)
        exact fi_ireturnS dX12_ofPlace_64 rfl
    · skip
      refine ok_aload_n (q := 41) 0 dX12_ofPlace_40 rfl rfl rfl ?_
      refine ok_bipush (q := 43) (x := 7) dX12_ofPlace_41 rfl rfl (by decide) ?_
      refine fi_callV1S (q := 46) (as := [qi 7]) (st := []) dX12_ofPlace_43 rfl mo_X12_265 h0 rfl (Nat.le_of_ble_eq_true rfl) rfl rfl (Nat.le_of_ble_eq_true rfl) (Nat.le_of_ble_eq_true rfl) (Nat.le_of_ble_eq_true rfl) (Nat.zero_le _) (Nat.zero_le _) (fun _ hr => ct_X12_no (N := N) h0 hr) (fun v_10 I_11 => ?_)
      exact fi_ireturnS dX12_ofPlace_46 rfl
  · skip
    refine ok_aload_n (q := 17) 0 dX12_ofPlace_16 rfl rfl rfl ?_
    refine ok_iconst (q := 18) (x := 3) dX12_ofPlace_17 rfl rfl (by decide) ?_
    refine fi_callV1S (q := 21) (as := [qi 3]) (st := []) dX12_ofPlace_18 rfl mo_X12_265 h0 rfl (Nat.le_of_ble_eq_true rfl) rfl rfl (Nat.le_of_ble_eq_true rfl) (Nat.le_of_ble_eq_true rfl) (Nat.le_of_ble_eq_true rfl) (Nat.zero_le _) (Nat.zero_le _) (fun _ hr => ct_X12_no (N := N) h0 hr) (fun v_12 I_13 => ?_)
    exact fi_ireturnS dX12_ofPlace_21 rfl
theorem ct_X12_ofPlace {η : am_E} {l : Launch} {N : Nat} {n : Nat} {K : am_K} {I : am_I} {F : am_F} {a0 : Nat} {r0 : Int × am_I} {x1 : Int} {x3 : Int} (h0 : (K a0).1 = 12) : X12_ofPlace N K F a0 I x1 x3 = some r0 → am_Ct η l yX12_ofPlace cX12_ofPlace 7 (some .int) 4 93 0 0 [qr a0, ql x1, qi x3] n K I F (am_pS 1 r0 n K F) := fun g => am_Ct.of false (by decide) (by decide) (Nat.le_of_ble_eq_true rfl) (fun _ => w_X12_ofPlace (N := N) h0 g)
def M_X12_sidePits : am_M := (yX12_sidePits.cls, cX12_sidePits, 4, (some .int), am_room 1 21 0 0, false)
def X12_sidePits_b36 (N : Nat) (K : am_K) (F : am_F) (I : am_I) (a0 : Nat) (k4 : Int → Int → Int → Option Int) (x1 : Int) (x3 : Int) (s0 : Int) (s1 : Int) : Option Int :=
  if am_inI (s1 + s0) then am_lt (s1 + s0) (fun x2_2 => if am_inI (x3 + 1) then am_lt (x3 + 1) (fun x3_4 => k4 x1 x2_2 x3_4) else none) else none
theorem w_X12_sidePits_b36 {η : am_E} {l : Launch} {N : Nat} {n : Nat} {K : am_K} {I : am_I} {F : am_F} {a0 : Nat} {r0 : Int} {k4 : Int → Int → Int → Option Int} {x1 : Int} {x3 : Int} {s0 : Int} {s1 : Int} (h0 : (K a0).1 = 12) (H4 : ∀ (x1 : Int) (x2 : Int) (x3 : Int), k4 x1 x2 x3 = some r0 → Ok η l M_X12_sidePits (am_qm η (am_pS 1 (r0, I) n K F) 0 0) 4 [(0, qr a0), (1, qi x1), (2, qi x2), (3, qi x3)] [] n K I F 0 0) : X12_sidePits_b36 N K F I a0 k4 x1 x3 s0 s1 = some r0 → Ok η l M_X12_sidePits (am_qm η (am_pS 1 (r0, I) n K F) 0 0) 36 [(0, qr a0), (1, qi x1), (3, qi x3)] [qi s0, qi s1] n K I F 0 0 := by
  unfold X12_sidePits_b36
  refine fi_chk (fun h_1 => ?_)
  refine ok_iadd (q := 37) dX12_sidePits_36 rfl h_1 ?_
  refine ok_istore_nL (q := 38) (fun x2_2 => [(2, qi x2_2), (0, qr a0), (1, qi x1), (3, qi x3)]) dX12_sidePits_37 rfl rfl (Nat.le_of_ble_eq_true rfl) (fun _ => rfl) (fun x2_2 => ?_)
  refine fi_chk (fun h_3 => ?_)
  refine ok_iincL (q := 41) (fun x3_4 => [(3, qi x3_4), (2, qi x2_2), (0, qr a0), (1, qi x1)]) 3 dX12_sidePits_38 rfl rfl h_3 (Nat.le_of_ble_eq_true rfl) (fun _ => rfl) (fun x3_4 => ?_)
  refine ok_goto (q := 4) dX12_sidePits_41 rfl ?_
  exact fun g => ok_pick [2, 3, 1, 0] rfl (H4 _ _ _ g)
def X12_sidePits_b35 (N : Nat) (K : am_K) (F : am_F) (I : am_I) (a0 : Nat) (k4 : Int → Int → Int → Option Int) (x1 : Int) (x3 : Int) (s0 : Int) : Option Int :=
  X12_sidePits_b36 N K F I a0 k4 x1 x3 0 s0
theorem w_X12_sidePits_b35 {η : am_E} {l : Launch} {N : Nat} {n : Nat} {K : am_K} {I : am_I} {F : am_F} {a0 : Nat} {r0 : Int} {k4 : Int → Int → Int → Option Int} {x1 : Int} {x3 : Int} {s0 : Int} (h0 : (K a0).1 = 12) (H4 : ∀ (x1 : Int) (x2 : Int) (x3 : Int), k4 x1 x2 x3 = some r0 → Ok η l M_X12_sidePits (am_qm η (am_pS 1 (r0, I) n K F) 0 0) 4 [(0, qr a0), (1, qi x1), (2, qi x2), (3, qi x3)] [] n K I F 0 0) : X12_sidePits_b35 N K F I a0 k4 x1 x3 s0 = some r0 → Ok η l M_X12_sidePits (am_qm η (am_pS 1 (r0, I) n K F) 0 0) 35 [(0, qr a0), (1, qi x1), (3, qi x3)] [qi s0] n K I F 0 0 := by
  unfold X12_sidePits_b35
  refine ok_iconst (q := 36) (x := 0) dX12_sidePits_35 rfl rfl (by decide) ?_
  exact fun g => ok_pick [0, 1, 2] rfl (w_X12_sidePits_b36 (N := N) h0 H4 g)
def X12_sidePits_s4 (N : Nat) (K : am_K) (F : am_F) (I : am_I) (a0 : Nat) (k4 : Int → Int → Int → Option Int) (x1 : Int) (x2 : Int) (x3 : Int) : Option Int :=
  am_cq (X12_all N K F I a0) (fun v_1 => if x3 < v_1 then (if (K (F a0 2)).1 = 101 then if (0 : Int) ≤ x3 ∧ x3 < (K (F a0 2)).2 then if (I (F a0 2) x3) = 0 then (am_cq (X12_sideOf N K F I a0 x3) (fun v_4 => if v_4 = x1 then (X12_sidePits_b36 N K F I a0 k4 x1 x3 1 x2) else (X12_sidePits_b35 N K F I a0 k4 x1 x3 x2))) else (X12_sidePits_b35 N K F I a0 k4 x1 x3 x2) else none else none) else (some (x2)))
theorem w_X12_sidePits_s4 {η : am_E} {l : Launch} {N : Nat} {n : Nat} {K : am_K} {I : am_I} {F : am_F} {a0 : Nat} {r0 : Int} {k4 : Int → Int → Int → Option Int} {x1 : Int} {x2 : Int} {x3 : Int} (h0 : (K a0).1 = 12) (H4 : ∀ (x1 : Int) (x2 : Int) (x3 : Int), k4 x1 x2 x3 = some r0 → Ok η l M_X12_sidePits (am_qm η (am_pS 1 (r0, I) n K F) 0 0) 4 [(0, qr a0), (1, qi x1), (2, qi x2), (3, qi x3)] [] n K I F 0 0) : X12_sidePits_s4 N K F I a0 k4 x1 x2 x3 = some r0 → Ok η l M_X12_sidePits (am_qm η (am_pS 1 (r0, I) n K F) 0 0) 4 [(0, qr a0), (1, qi x1), (2, qi x2), (3, qi x3)] [] n K I F 0 0 := by
  unfold X12_sidePits_s4
  refine ok_iload_n (q := 5) 3 dX12_sidePits_4 rfl rfl rfl ?_
  refine ok_aload_n (q := 6) 0 dX12_sidePits_5 rfl rfl rfl ?_
  refine fi_callV1P (q := 9) (as := []) (st := [qi x3]) dX12_sidePits_6 rfl mo_X12_133 h0 rfl (Nat.le_of_ble_eq_true rfl) rfl rfl (Nat.le_of_ble_eq_true rfl) (Nat.le_of_ble_eq_true rfl) (Nat.le_of_ble_eq_true rfl) (Nat.zero_le _) (Nat.zero_le _) (fun _ hr => ct_X12_all (N := N) h0 hr) (fun v_1 => ?_)
  refine ok_icmp_ge (q := 44) (q2 := 12) dX12_sidePits_9 rfl rfl ?_ ?_
  · skip
    refine ok_iload_n (q := 45) 2 dX12_sidePits_44 rfl rfl rfl ?_
    exact fi_ireturnP dX12_sidePits_45 rfl
  · skip
    refine ok_iload_n (q := 13) 2 dX12_sidePits_12 rfl rfl rfl ?_
    refine ok_aload_n (q := 14) 0 dX12_sidePits_13 rfl rfl rfl ?_
    refine ok_getR (q := 17) (ci := 12) (k := 2) (x := F a0 2) dX12_sidePits_14 rfl fo_X12_9 h0 rfl ?_
    refine ok_iload_n (q := 18) 3 dX12_sidePits_17 rfl rfl rfl ?_
    refine fi_chk (fun h_2 => ?_)
    refine fi_chk (fun h_3 => ?_)
    refine ok_baload (q := 19) (v := I (F a0 2) x3) dX12_sidePits_18 rfl h_2 h_3.1 h_3.2 rfl ?_
    refine ok_if_ne (q := 35) (q2 := 22) dX12_sidePits_19 rfl rfl ?_ ?_
    · skip
      exact fun g => ok_pick [0, 1, 3] rfl (w_X12_sidePits_b35 (N := N) h0 H4 g)
    · skip
      refine ok_aload_n (q := 23) 0 dX12_sidePits_22 rfl rfl rfl ?_
      refine ok_iload_n (q := 24) 3 dX12_sidePits_23 rfl rfl rfl ?_
      refine fi_callV1P (q := 27) (as := [qi x3]) (st := [qi x2]) dX12_sidePits_24 rfl mo_X12_137 h0 rfl (Nat.le_of_ble_eq_true rfl) rfl rfl (Nat.le_of_ble_eq_true rfl) (Nat.le_of_ble_eq_true rfl) (Nat.le_of_ble_eq_true rfl) (Nat.zero_le _) (Nat.zero_le _) (fun _ hr => ct_X12_sideOf (N := N) h0 hr) (fun v_4 => ?_)
      refine ok_iload_n (q := 28) 1 dX12_sidePits_27 rfl rfl rfl ?_
      refine ok_icmp_ne (q := 35) (q2 := 31) dX12_sidePits_28 rfl rfl ?_ ?_
      · skip
        exact fun g => ok_pick [0, 1, 3] rfl (w_X12_sidePits_b35 (N := N) h0 H4 g)
      · skip
        refine ok_iconst (q := 32) (x := 1) dX12_sidePits_31 rfl rfl (by decide) ?_
        refine ok_goto (q := 36) dX12_sidePits_32 rfl ?_
        exact fun g => ok_pick [0, 1, 3] rfl (w_X12_sidePits_b36 (N := N) h0 H4 g)
def X12_sidePits_h4 (N : Nat) (K : am_K) (F : am_F) (I : am_I) (a0 : Nat) : Nat → Int → Int → Int → Option Int := am_it (fun kh => X12_sidePits_s4 N K F I a0 kh) (fun _ _ _ => none)
theorem w_X12_sidePits_h4 {η : am_E} {l : Launch} {N : Nat} {n : Nat} {K : am_K} {I : am_I} {F : am_F} {a0 : Nat} {r0 : Int} (h0 : (K a0).1 = 12) (f : Nat) : ∀ (x1 : Int) (x2 : Int) (x3 : Int), X12_sidePits_h4 N K F I a0 f x1 x2 x3 = some r0 → Ok η l M_X12_sidePits (am_qm η (am_pS 1 (r0, I) n K F) 0 0) 4 [(0, qr a0), (1, qi x1), (2, qi x2), (3, qi x3)] [] n K I F 0 0 := by
  induction f with
  | zero => intro x1 x2 x3 g; exact fi_none g
  | succ f ih => intro x1 x2 x3 g; exact w_X12_sidePits_s4 (N := N) h0 ih g
def X12_sidePits (N : Nat) (K : am_K) (F : am_F) (I : am_I) (a0 : Nat) (x1 : Int) : Option Int :=
  X12_sidePits_h4 N K F I a0 N x1 0 0
theorem w_X12_sidePits {η : am_E} {l : Launch} {N : Nat} {n : Nat} {K : am_K} {I : am_I} {F : am_F} {a0 : Nat} {r0 : Int} {x1 : Int} (h0 : (K a0).1 = 12) : X12_sidePits N K F I a0 x1 = some r0 → Ok η l M_X12_sidePits (am_qm η (am_pS 1 (r0, I) n K F) 0 0) 0 [(0, qr a0), (1, qi x1)] [] n K I F 0 0 := by
  unfold X12_sidePits
  refine ok_iconst (q := 1) (x := 0) dX12_sidePits_0 rfl rfl (by decide) ?_
  refine ok_istore_n (q := 2) (ls' := [(2, qi 0), (0, qr a0), (1, qi x1)]) dX12_sidePits_1 rfl rfl (Nat.le_of_ble_eq_true rfl) rfl ?_
  refine ok_iconst (q := 3) (x := 0) dX12_sidePits_2 rfl rfl (by decide) ?_
  refine ok_istore_n (q := 4) (ls' := [(3, qi 0), (2, qi 0), (0, qr a0), (1, qi x1)]) dX12_sidePits_3 rfl rfl (Nat.le_of_ble_eq_true rfl) rfl ?_
  exact fun g => ok_pick [2, 3, 1, 0] rfl (w_X12_sidePits_h4 (N := N) h0 N _ _ _ g)
theorem ct_X12_sidePits {η : am_E} {l : Launch} {N : Nat} {n : Nat} {K : am_K} {I : am_I} {F : am_F} {a0 : Nat} {r0 : Int} {x1 : Int} (h0 : (K a0).1 = 12) : X12_sidePits N K F I a0 x1 = some r0 → am_Ct η l yX12_sidePits cX12_sidePits 4 (some .int) 1 21 0 0 [qr a0, qi x1] n K I F (am_pS 1 (r0, I) n K F) := fun g => am_Ct.of false (by decide) (by decide) (Nat.le_of_ble_eq_true rfl) (fun _ => w_X12_sidePits (N := N) h0 g)
def M_X12_solve : am_M := (yX12_solve.cls, cX12_solve, 3, (some .int), am_room 3 66 0 0, false)
def X12_solve_b65 (N : Nat) (K : am_K) (F : am_F) (a0 : Nat) (I : am_I) : Option (Int × am_I) :=
  am_cl (X12_no N K F a0 I 10) (fun v_1 I_2 => some (v_1, I_2))
theorem w_X12_solve_b65 {η : am_E} {l : Launch} {N : Nat} {n : Nat} {K : am_K} {I : am_I} {F : am_F} {a0 : Nat} {r0 : Int × am_I} (h0 : (K a0).1 = 12) : X12_solve_b65 N K F a0 I = some r0 → Ok η l M_X12_solve (am_qm η (am_pS 1 r0 n K F) 0 0) 65 [(0, qr a0)] [] n K I F 0 0 := by
  unfold X12_solve_b65
  refine ok_aload_n (q := 66) 0 dX12_solve_65 rfl rfl rfl ?_
  refine ok_bipush (q := 68) (x := 10) dX12_solve_66 rfl rfl (by decide) ?_
  refine fi_callV1S (q := 71) (as := [qi 10]) (st := []) dX12_solve_68 rfl mo_X12_265 h0 rfl (Nat.le_of_ble_eq_true rfl) rfl rfl (Nat.le_of_ble_eq_true rfl) (Nat.le_of_ble_eq_true rfl) (Nat.le_of_ble_eq_true rfl) (Nat.zero_le _) (Nat.zero_le _) (fun _ hr => ct_X12_no (N := N) h0 hr) (fun v_1 I_2 => ?_)
  exact fi_ireturnS dX12_solve_71 rfl
def X12_solve_s99 (N : Nat) (K : am_K) (F : am_F) (a0 : Nat) (k99 : am_I → Int → Int → Option (Int × am_I)) (I : am_I) (x1 : Int) (x2 : Int) : Option (Int × am_I) :=
  if x2 < 40000 then (if (K (F a0 27)).1 = 100 then if F a0 27 ≠ 1 then if (0 : Int) ≤ x2 ∧ x2 < (K (F a0 27)).2 then am_lt (am_u2 I (F a0 27) x2 0) (fun I_8 => if (K (F a0 28)).1 = 100 then if F a0 28 ≠ 1 then if (0 : Int) ≤ x2 ∧ x2 < (K (F a0 28)).2 then am_lt (am_u2 I_8 (F a0 28) x2 0) (fun I_12 => if am_inI (x2 + 1) then am_lt (x2 + 1) (fun x2_14 => k99 I_12 x1 x2_14) else none) else none else none else none) else none else none else none) else (am_cq (X12_placesTo N K F I a0 x1) (fun v_1 => if am_inI (v_1) then am_cl (X12_ok N K F a0 I v_1) (fun v_3 I_4 => some (v_3, I_4)) else none))
theorem w_X12_solve_s99 {η : am_E} {l : Launch} {N : Nat} {n : Nat} {K : am_K} {I : am_I} {F : am_F} {a0 : Nat} {r0 : Int × am_I} {k99 : am_I → Int → Int → Option (Int × am_I)} {x1 : Int} {x2 : Int} (h0 : (K a0).1 = 12) (H99 : ∀ (I : am_I) (x1 : Int) (x2 : Int), k99 I x1 x2 = some r0 → Ok η l M_X12_solve (am_qm η (am_pS 1 r0 n K F) 0 0) 99 [(0, qr a0), (1, qi x1), (2, qi x2)] [] n K I F 0 0) : X12_solve_s99 N K F a0 k99 I x1 x2 = some r0 → Ok η l M_X12_solve (am_qm η (am_pS 1 r0 n K F) 0 0) 99 [(0, qr a0), (1, qi x1), (2, qi x2)] [] n K I F 0 0 := by
  unfold X12_solve_s99
  refine ok_iload_n (q := 100) 2 dX12_solve_99 rfl rfl rfl ?_
  refine ok_ldc (q := 102) (x := 40000) (v := 40000) dX12_solve_100 rfl kc_X12_32 rfl (by decide) ?_
  refine ok_icmp_ge (q := 125) (q2 := 105) dX12_solve_102 rfl rfl ?_ ?_
  · skip
    refine ok_aload_n (q := 126) 0 dX12_solve_125 rfl rfl rfl ?_
    refine ok_aload_n (q := 127) 0 dX12_solve_126 rfl rfl rfl ?_
    refine ok_iload_n (q := 128) 1 dX12_solve_127 rfl rfl rfl ?_
    refine fi_callV2P (q := 131) (as := [qi x1]) (st := [qr a0]) dX12_solve_128 rfl mo_X12_193 h0 rfl (Nat.le_of_ble_eq_true rfl) rfl rfl (Nat.le_of_ble_eq_true rfl) (Nat.le_of_ble_eq_true rfl) (Nat.le_of_ble_eq_true rfl) (Nat.zero_le _) (Nat.zero_le _) (fun _ hr => ct_X12_placesTo (N := N) h0 hr) (fun v_1 => ?_)
    refine fi_chk (fun h_2 => ?_)
    refine ok_l2i (q := 132) dX12_solve_131 rfl h_2 ?_
    refine fi_callV1S (q := 135) (as := [qi v_1]) (st := []) dX12_solve_132 rfl mo_X12_268 h0 rfl (Nat.le_of_ble_eq_true rfl) rfl rfl (Nat.le_of_ble_eq_true rfl) (Nat.le_of_ble_eq_true rfl) (Nat.le_of_ble_eq_true rfl) (Nat.zero_le _) (Nat.zero_le _) (fun _ hr => ct_X12_ok (N := N) h0 hr) (fun v_3 I_4 => ?_)
    exact fi_ireturnS dX12_solve_135 rfl
  · skip
    refine ok_aload_n (q := 106) 0 dX12_solve_105 rfl rfl rfl ?_
    refine ok_getR (q := 109) (ci := 12) (k := 27) (x := F a0 27) dX12_solve_106 rfl fo_X12_39 h0 rfl ?_
    refine ok_iload_n (q := 110) 2 dX12_solve_109 rfl rfl rfl ?_
    refine ok_iconst (q := 111) (x := 0) dX12_solve_110 rfl rfl (by decide) ?_
    refine fi_chk (fun h_5 => ?_)
    refine fi_chk (fun h_6 => ?_)
    refine fi_chk (fun h_7 => ?_)
    refine ok_iastore (q := 112) dX12_solve_111 rfl h_5 h_6 h_7.1 h_7.2 (fun I_8 => ?_)
    refine ok_aload_n (q := 113) 0 dX12_solve_112 rfl rfl rfl ?_
    refine ok_getR (q := 116) (ci := 12) (k := 28) (x := F a0 28) dX12_solve_113 rfl fo_X12_42 h0 rfl ?_
    refine ok_iload_n (q := 117) 2 dX12_solve_116 rfl rfl rfl ?_
    refine ok_iconst (q := 118) (x := 0) dX12_solve_117 rfl rfl (by decide) ?_
    refine fi_chk (fun h_9 => ?_)
    refine fi_chk (fun h_10 => ?_)
    refine fi_chk (fun h_11 => ?_)
    refine ok_iastore (q := 119) dX12_solve_118 rfl h_9 h_10 h_11.1 h_11.2 (fun I_12 => ?_)
    refine fi_chk (fun h_13 => ?_)
    refine ok_iincL (q := 122) (fun x2_14 => [(2, qi x2_14), (0, qr a0), (1, qi x1)]) 2 dX12_solve_119 rfl rfl h_13 (Nat.le_of_ble_eq_true rfl) (fun _ => rfl) (fun x2_14 => ?_)
    refine ok_goto (q := 99) dX12_solve_122 rfl ?_
    exact fun g => ok_pick [1, 2, 0] rfl (H99 _ _ _ g)
def X12_solve_h99 (N : Nat) (K : am_K) (F : am_F) (a0 : Nat) : Nat → am_I → Int → Int → Option (Int × am_I) := am_it (fun kh => X12_solve_s99 N K F a0 kh) (fun _ _ _ => none)
theorem w_X12_solve_h99 {η : am_E} {l : Launch} {N : Nat} {n : Nat} {K : am_K} {F : am_F} {a0 : Nat} {r0 : Int × am_I} (h0 : (K a0).1 = 12) (f : Nat) : ∀ (I : am_I) (x1 : Int) (x2 : Int), X12_solve_h99 N K F a0 f I x1 x2 = some r0 → Ok η l M_X12_solve (am_qm η (am_pS 1 r0 n K F) 0 0) 99 [(0, qr a0), (1, qi x1), (2, qi x2)] [] n K I F 0 0 := by
  induction f with
  | zero => intro I x1 x2 g; exact fi_none g
  | succ f ih => intro I x1 x2 g; exact w_X12_solve_s99 (N := N) h0 ih g
def X12_solve (N : Nat) (K : am_K) (F : am_F) (a0 : Nat) (I : am_I) (x1 : Int) : Option (Int × am_I) :=
  am_cq (X12_isIn N K F I x1 0 12) (fun v_1 => if v_1 = 0 then (am_cl (X12_no N K F a0 I 7) (fun v_12 I_13 => some (v_12, I_13))) else (am_cq (X12_placesTo N K F I a0 x1) (fun v_2 => if (am_cmp v_2 40000) ≤ 0 then (am_cq (X12_there N K F I a0) (fun v_3 => am_cq (X12_ways N K F I x1 v_3) (fun v_4 => am_cq (X12_sidePits N K F I a0 0) (fun v_5 => am_cq (X12_sidePits N K F I a0 1) (fun v_6 => if 0 < (am_cmp (am_wL ((am_wL (2 * v_4)) * (am_max v_5 v_6))) 200000) then (X12_solve_b65 N K F a0 I) else (am_lt (am_u2 I a0 21 1) (fun I_7 => am_lt (am_u2 I_7 a0 39 0) (fun I_8 => am_lt (am_u2 I_8 a0 22 x1) (fun I_9 => am_lt (am_u2 I_9 a0 23 0) (fun I_10 => am_lt (am_u2 I_10 a0 24 0) (fun I_11 => X12_solve_h99 N K F a0 N I_11 x1 0))))))))))) else (X12_solve_b65 N K F a0 I))))
theorem w_X12_solve {η : am_E} {l : Launch} {N : Nat} {n : Nat} {K : am_K} {I : am_I} {F : am_F} {a0 : Nat} {r0 : Int × am_I} {x1 : Int} (h0 : (K a0).1 = 12) : X12_solve N K F a0 I x1 = some r0 → Ok η l M_X12_solve (am_qm η (am_pS 1 r0 n K F) 0 0) 0 [(0, qr a0), (1, qi x1)] [] n K I F 0 0 := by
  unfold X12_solve
  refine ok_iload_n (q := 1) 1 dX12_solve_0 rfl rfl rfl ?_
  refine ok_i2l (q := 2) dX12_solve_1 rfl ?_
  refine ok_lconst (q := 3) (x := 0) dX12_solve_2 rfl rfl (by decide) ?_
  refine ok_ldc2 (q := 6) (x := 12) (v := 12) dX12_solve_3 rfl kc_X12_304 rfl (by decide) ?_
  refine fi_callS1P (q := 9) (as := [ql x1, ql 0, ql 12]) (st := []) dX12_solve_6 rfl mo_X12_164 rfl rfl (Nat.le_of_ble_eq_true rfl) (Nat.le_of_ble_eq_true rfl) (Nat.le_of_ble_eq_true rfl) (Nat.zero_le _) (Nat.zero_le _) (fun _ hr => ct_X12_isIn (N := N) hr) (fun v_1 => ?_)
  refine ok_if_ne (q := 19) (q2 := 12) dX12_solve_9 rfl rfl ?_ ?_
  · skip
    refine ok_aload_n (q := 20) 0 dX12_solve_19 rfl rfl rfl ?_
    refine ok_iload_n (q := 21) 1 dX12_solve_20 rfl rfl rfl ?_
    refine fi_callV2P (q := 24) (as := [qi x1]) (st := []) dX12_solve_21 rfl mo_X12_193 h0 rfl (Nat.le_of_ble_eq_true rfl) rfl rfl (Nat.le_of_ble_eq_true rfl) (Nat.le_of_ble_eq_true rfl) (Nat.le_of_ble_eq_true rfl) (Nat.zero_le _) (Nat.zero_le _) (fun _ hr => ct_X12_placesTo (N := N) h0 hr) (fun v_2 => ?_)
    refine ok_ldc2 (q := 27) (x := 40000) (v := 40000) dX12_solve_24 rfl kc_X12_308 rfl (by decide) ?_
    refine ok_lcmp (q := 28) dX12_solve_27 rfl ?_
    refine ok_if_gt (q := 65) (q2 := 31) dX12_solve_28 rfl rfl ?_ ?_
    · skip
      exact fun g => ok_pick [0] rfl (w_X12_solve_b65 (N := N) h0 g)
    · skip
      refine ok_ldc2 (q := 34) (x := 2) (v := 2) dX12_solve_31 rfl kc_X12_187 rfl (by decide) ?_
      refine ok_iload_n (q := 35) 1 dX12_solve_34 rfl rfl rfl ?_
      refine ok_aload_n (q := 36) 0 dX12_solve_35 rfl rfl rfl ?_
      refine fi_callV1P (q := 39) (as := []) (st := [qi x1, ql 2]) dX12_solve_36 rfl mo_X12_180 h0 rfl (Nat.le_of_ble_eq_true rfl) rfl rfl (Nat.le_of_ble_eq_true rfl) (Nat.le_of_ble_eq_true rfl) (Nat.le_of_ble_eq_true rfl) (Nat.zero_le _) (Nat.zero_le _) (fun _ hr => ct_X12_there (N := N) h0 hr) (fun v_3 => ?_)
      refine fi_callS2P (q := 42) (as := [qi x1, qi v_3]) (st := [ql 2]) dX12_solve_39 rfl mo_X12_183 rfl rfl (Nat.le_of_ble_eq_true rfl) (Nat.le_of_ble_eq_true rfl) (Nat.le_of_ble_eq_true rfl) (Nat.zero_le _) (Nat.zero_le _) (fun _ hr => ct_X12_ways (N := N) hr) (fun v_4 => ?_)
      refine ok_lmulW (q := 43) dX12_solve_42 rfl ?_
      refine ok_aload_n (q := 44) 0 dX12_solve_43 rfl rfl rfl ?_
      refine ok_iconst (q := 45) (x := 0) dX12_solve_44 rfl rfl (by decide) ?_
      refine fi_callV1P (q := 48) (as := [qi 0]) (st := [ql (am_wL (2 * v_4))]) dX12_solve_45 rfl mo_X12_310 h0 rfl (Nat.le_of_ble_eq_true rfl) rfl rfl (Nat.le_of_ble_eq_true rfl) (Nat.le_of_ble_eq_true rfl) (Nat.le_of_ble_eq_true rfl) (Nat.zero_le _) (Nat.zero_le _) (fun _ hr => ct_X12_sidePits (N := N) h0 hr) (fun v_5 => ?_)
      refine ok_aload_n (q := 49) 0 dX12_solve_48 rfl rfl rfl ?_
      refine ok_iconst (q := 50) (x := 1) dX12_solve_49 rfl rfl (by decide) ?_
      refine fi_callV1P (q := 53) (as := [qi 1]) (st := [qi v_5, ql (am_wL (2 * v_4))]) dX12_solve_50 rfl mo_X12_310 h0 rfl (Nat.le_of_ble_eq_true rfl) rfl rfl (Nat.le_of_ble_eq_true rfl) (Nat.le_of_ble_eq_true rfl) (Nat.le_of_ble_eq_true rfl) (Nat.zero_le _) (Nat.zero_le _) (fun _ hr => ct_X12_sidePits (N := N) h0 hr) (fun v_6 => ?_)
      refine ok_mmax (q := 56) dX12_solve_53 rfl mm_X12_219 (Nat.le_of_ble_eq_true rfl) (Nat.le_of_ble_eq_true rfl) (Nat.le_of_ble_eq_true rfl) (Nat.zero_le _) (Nat.zero_le _) ?_
      refine ok_i2l (q := 57) dX12_solve_56 rfl ?_
      refine ok_lmulW (q := 58) dX12_solve_57 rfl ?_
      refine ok_ldc2 (q := 61) (x := 200000) (v := 200000) dX12_solve_58 rfl kc_X12_313 rfl (by decide) ?_
      refine ok_lcmp (q := 62) dX12_solve_61 rfl ?_
      refine ok_if_le (q := 72) (q2 := 65) dX12_solve_62 rfl rfl ?_ ?_
      · skip
        refine ok_aload_n (q := 73) 0 dX12_solve_72 rfl rfl rfl ?_
        refine ok_iconst (q := 74) (x := 1) dX12_solve_73 rfl rfl (by decide) ?_
        refine ok_putZ (q := 77) (ci := 12) (k := 21) dX12_solve_74 rfl fo_X12_127 h0 ft_12_21 (by decide) ff_12_21 (fun I_7 => ?_)
        refine ok_aload_n (q := 78) 0 dX12_solve_77 rfl rfl rfl ?_
        refine ok_iconst (q := 79) (x := 0) dX12_solve_78 rfl rfl (by decide) ?_
        refine ok_putZ (q := 82) (ci := 12) (k := 39) dX12_solve_79 rfl fo_X12_130 h0 ft_12_39 (by decide) ff_12_39 (fun I_8 => ?_)
        refine ok_aload_n (q := 83) 0 dX12_solve_82 rfl rfl rfl ?_
        refine ok_iload_n (q := 84) 1 dX12_solve_83 rfl rfl rfl ?_
        refine ok_putI (q := 87) (ci := 12) (k := 22) dX12_solve_84 rfl fo_X12_315 h0 ft_12_22 ff_12_22 (fun I_9 => ?_)
        refine ok_aload_n (q := 88) 0 dX12_solve_87 rfl rfl rfl ?_
        refine ok_iconst (q := 89) (x := 0) dX12_solve_88 rfl rfl (by decide) ?_
        refine ok_putI (q := 92) (ci := 12) (k := 23) dX12_solve_89 rfl fo_X12_225 h0 ft_12_23 ff_12_23 (fun I_10 => ?_)
        refine ok_aload_n (q := 93) 0 dX12_solve_92 rfl rfl rfl ?_
        refine ok_iconst (q := 94) (x := 0) dX12_solve_93 rfl rfl (by decide) ?_
        refine ok_putI (q := 97) (ci := 12) (k := 24) dX12_solve_94 rfl fo_X12_238 h0 ft_12_24 ff_12_24 (fun I_11 => ?_)
        refine ok_iconst (q := 98) (x := 0) dX12_solve_97 rfl rfl (by decide) ?_
        refine ok_istore_n (q := 99) (ls' := [(2, qi 0), (0, qr a0), (1, qi x1)]) dX12_solve_98 rfl rfl (Nat.le_of_ble_eq_true rfl) rfl ?_
        exact fun g => ok_pick [1, 2, 0] rfl (w_X12_solve_h99 (N := N) h0 N _ _ _ g)
      · skip
        exact fun g => ok_pick [0] rfl (w_X12_solve_b65 (N := N) h0 g)
  · skip
    refine ok_aload_n (q := 13) 0 dX12_solve_12 rfl rfl rfl ?_
    refine ok_bipush (q := 15) (x := 7) dX12_solve_13 rfl rfl (by decide) ?_
    refine fi_callV1S (q := 18) (as := [qi 7]) (st := []) dX12_solve_15 rfl mo_X12_265 h0 rfl (Nat.le_of_ble_eq_true rfl) rfl rfl (Nat.le_of_ble_eq_true rfl) (Nat.le_of_ble_eq_true rfl) (Nat.le_of_ble_eq_true rfl) (Nat.zero_le _) (Nat.zero_le _) (fun _ hr => ct_X12_no (N := N) h0 hr) (fun v_12 I_13 => ?_)
    exact fi_ireturnS dX12_solve_18 rfl
theorem ct_X12_solve {η : am_E} {l : Launch} {N : Nat} {n : Nat} {K : am_K} {I : am_I} {F : am_F} {a0 : Nat} {r0 : Int × am_I} {x1 : Int} (h0 : (K a0).1 = 12) : X12_solve N K F a0 I x1 = some r0 → am_Ct η l yX12_solve cX12_solve 3 (some .int) 3 66 0 0 [qr a0, qi x1] n K I F (am_pS 1 r0 n K F) := fun g => am_Ct.of false (by decide) (by decide) (Nat.le_of_ble_eq_true rfl) (fun _ => w_X12_solve (N := N) h0 g)
def M_X12_goOn (mc ms : Nat) : am_M := (yX12_goOn.cls, cX12_goOn, 3, (some .int), am_room 7 173 mc ms, false)
def X12_goOn_b61 (N : Nat) (a0 : Nat) (n : Nat) (K : am_K) (I : am_I) (F : am_F) (c z : Nat) : Option am_A :=
  am_mo c z (if (K a0).1 = 12 then if am_inI ((I a0 22) + 1) then if am_inI (((I a0 22) + 1) - (I a0 23)) then am_cl (X12_ok N K F a0 I (((I a0 22) + 1) - (I a0 23))) (fun v_6 I_7 => some (v_6, n, K, I_7, F, c, z)) else none else none else none)
theorem w_X12_goOn_b61 {η : am_E} {l : Launch} {N : Nat} {n : Nat} {K : am_K} {I : am_I} {F : am_F} {c z : Nat} {a0 : Nat} {r0 : am_A} : X12_goOn_b61 N a0 n K I F c z = some r0 → Ok η l (M_X12_goOn (am_ac1 r0) (am_az1 r0)) (am_qm η (am_pA 1 r0) (am_ac1 r0) (am_az1 r0)) 61 [(0, qr a0)] [] n K I F c z := by
  unfold X12_goOn_b61
  refine fi_mo (fun hc_1 hz_2 => ?_)
  refine ok_aload_n (q := 62) 0 dX12_goOn_61 rfl rfl rfl ?_
  refine ok_aload_n (q := 63) 0 dX12_goOn_62 rfl rfl rfl ?_
  refine fi_chk (fun h_3 => ?_)
  refine ok_getI (q := 66) (ci := 12) (k := 22) (x := I a0 22) dX12_goOn_63 rfl fo_X12_315 h_3 rfl ?_
  refine ok_iconst (q := 67) (x := 1) dX12_goOn_66 rfl rfl (by decide) ?_
  refine fi_chk (fun h_4 => ?_)
  refine ok_iadd (q := 68) dX12_goOn_67 rfl h_4 ?_
  refine ok_aload_n (q := 69) 0 dX12_goOn_68 rfl rfl rfl ?_
  refine ok_getI (q := 72) (ci := 12) (k := 23) (x := I a0 23) dX12_goOn_69 rfl fo_X12_225 h_3 rfl ?_
  refine fi_chk (fun h_5 => ?_)
  refine ok_isub (q := 73) dX12_goOn_72 rfl h_5 ?_
  refine fi_callV1S (q := 76) (as := [qi (((I a0 22) + 1) - (I a0 23))]) (st := []) dX12_goOn_73 rfl mo_X12_268 h_3 rfl (Nat.le_of_ble_eq_true rfl) rfl rfl (Nat.le_of_ble_eq_true rfl) (Nat.le_of_ble_eq_true rfl) (Nat.le_of_ble_eq_true rfl) hc_1 hz_2 (fun _ hr => ct_X12_ok (N := N) h_3 hr) (fun v_6 I_7 => ?_)
  exact fi_ireturnA dX12_goOn_76 rfl
def X12_goOn_s35 (N : Nat) (a0 : Nat) (k35 : Nat → am_K → am_I → am_F → Nat → Nat → Int → Int → Option am_A) (n : Nat) (K : am_K) (I : am_I) (F : am_F) (c z : Nat) (x1 : Int) (x2 : Int) : Option am_A :=
  am_mo c z (if x2 < x1 then (if (K a0).1 = 12 then if (I a0 23) ≤ (I a0 22) then (am_ca (X12_solveLayer N a0 n K I F) (fun _ n_4 K_5 I_6 F_7 c_8 z_9 => am_mo (c + c_8) (z + z_9) (if am_inI (x2 + 1) then am_lt (x2 + 1) (fun x2_13 => k35 n_4 K_5 I_6 F_7 (c + c_8) (z + z_9) x1 x2_13) else none))) else (X12_goOn_b61 N a0 n K I F c z) else none) else (X12_goOn_b61 N a0 n K I F c z))
theorem w_X12_goOn_s35 {η : am_E} {l : Launch} {N : Nat} {n : Nat} {K : am_K} {I : am_I} {F : am_F} {c z : Nat} {a0 : Nat} {r0 : am_A} {k35 : Nat → am_K → am_I → am_F → Nat → Nat → Int → Int → Option am_A} {x1 : Int} {x2 : Int} (H35 : ∀ (n : Nat) (K : am_K) (I : am_I) (F : am_F) (c : Nat) (z : Nat) (x1 : Int) (x2 : Int), k35 n K I F c z x1 x2 = some r0 → Ok η l (M_X12_goOn (am_ac1 r0) (am_az1 r0)) (am_qm η (am_pA 1 r0) (am_ac1 r0) (am_az1 r0)) 35 [(0, qr a0), (1, qi x1), (2, qi x2)] [] n K I F c z) : X12_goOn_s35 N a0 k35 n K I F c z x1 x2 = some r0 → Ok η l (M_X12_goOn (am_ac1 r0) (am_az1 r0)) (am_qm η (am_pA 1 r0) (am_ac1 r0) (am_az1 r0)) 35 [(0, qr a0), (1, qi x1), (2, qi x2)] [] n K I F c z := by
  unfold X12_goOn_s35
  refine fi_mo (fun hc_1 hz_2 => ?_)
  refine ok_iload_n (q := 36) 2 dX12_goOn_35 rfl rfl rfl ?_
  refine ok_iload_n (q := 37) 1 dX12_goOn_36 rfl rfl rfl ?_
  refine ok_icmp_ge (q := 61) (q2 := 40) dX12_goOn_37 rfl rfl ?_ ?_
  · skip
    exact fun g => ok_pick [0] rfl (w_X12_goOn_b61 (N := N) g)
  · skip
    refine ok_aload_n (q := 41) 0 dX12_goOn_40 rfl rfl rfl ?_
    refine fi_chk (fun h_3 => ?_)
    refine ok_getI (q := 44) (ci := 12) (k := 23) (x := I a0 23) dX12_goOn_41 rfl fo_X12_225 h_3 rfl ?_
    refine ok_aload_n (q := 45) 0 dX12_goOn_44 rfl rfl rfl ?_
    refine ok_getI (q := 48) (ci := 12) (k := 22) (x := I a0 22) dX12_goOn_45 rfl fo_X12_315 h_3 rfl ?_
    refine ok_icmp_gt (q := 61) (q2 := 51) dX12_goOn_48 rfl rfl ?_ ?_
    · skip
      exact fun g => ok_pick [0] rfl (w_X12_goOn_b61 (N := N) g)
    · skip
      refine ok_aload_n (q := 52) 0 dX12_goOn_51 rfl rfl rfl ?_
      refine fi_callV0A (q := 55) (as := []) (st := []) dX12_goOn_52 rfl mo_X12_320 h_3 rfl (Nat.le_of_ble_eq_true rfl) rfl rfl (Nat.le_of_ble_eq_true rfl) (Nat.le_of_ble_eq_true rfl) (Nat.le_of_ble_eq_true rfl) (Nat.le_refl _) (Nat.le_refl _) (fun _ hr => ct_X12_solveLayer (N := N) h_3 hr) (fun _ n_4 K_5 I_6 F_7 c_8 z_9 hc_10 hz_11 => ?_)
      refine fi_chk (fun h_12 => ?_)
      refine ok_iincL (q := 58) (fun x2_13 => [(2, qi x2_13), (0, qr a0), (1, qi x1)]) 2 dX12_goOn_55 rfl rfl h_12 (Nat.le_of_ble_eq_true rfl) (fun _ => rfl) (fun x2_13 => ?_)
      refine ok_goto (q := 35) dX12_goOn_58 rfl ?_
      exact fun g => ok_pick [1, 2, 0] rfl (H35 _ _ _ _ _ _ _ _ g)
def X12_goOn_h35 (N : Nat) (a0 : Nat) : Nat → Nat → am_K → am_I → am_F → Nat → Nat → Int → Int → Option am_A := am_it (fun kh => X12_goOn_s35 N a0 kh) (fun _ _ _ _ _ _ _ _ => none)
theorem w_X12_goOn_h35 {η : am_E} {l : Launch} {N : Nat}  {a0 : Nat} {r0 : am_A} (f : Nat) : ∀ (n : Nat) (K : am_K) (I : am_I) (F : am_F) (c : Nat) (z : Nat) (x1 : Int) (x2 : Int), X12_goOn_h35 N a0 f n K I F c z x1 x2 = some r0 → Ok η l (M_X12_goOn (am_ac1 r0) (am_az1 r0)) (am_qm η (am_pA 1 r0) (am_ac1 r0) (am_az1 r0)) 35 [(0, qr a0), (1, qi x1), (2, qi x2)] [] n K I F c z := by
  induction f with
  | zero => intro n K I F c z x1 x2 g; exact fi_none g
  | succ f ih => intro n K I F c z x1 x2 g; exact w_X12_goOn_s35 (N := N) ih g
def X12_goOn (N : Nat) (a0 : Nat) (n : Nat) (K : am_K) (I : am_I) (F : am_F) (x1 : Int) : Option am_A :=
  if (I a0 21) = 0 then (am_cl (X12_no N K F a0 I 9) (fun v_4 I_5 => some (v_4, n, K, I_5, F, 0, 0))) else (am_cq (X12_isIn N K F I x1 1 13) (fun v_1 => if v_1 = 0 then (am_cl (X12_no N K F a0 I 7) (fun v_2 I_3 => some (v_2, n, K, I_3, F, 0, 0))) else (X12_goOn_h35 N a0 N n K I F 0 0 x1 0)))
theorem w_X12_goOn {η : am_E} {l : Launch} {N : Nat} {n : Nat} {K : am_K} {I : am_I} {F : am_F} {a0 : Nat} {r0 : am_A} {x1 : Int} (h0 : (K a0).1 = 12) : X12_goOn N a0 n K I F x1 = some r0 → Ok η l (M_X12_goOn (am_ac1 r0) (am_az1 r0)) (am_qm η (am_pA 1 r0) (am_ac1 r0) (am_az1 r0)) 0 [(0, qr a0), (1, qi x1)] [] n K I F 0 0 := by
  unfold X12_goOn
  refine ok_aload_n (q := 1) 0 dX12_goOn_0 rfl rfl rfl ?_
  refine ok_getI (q := 4) (ci := 12) (k := 21) (x := I a0 21) dX12_goOn_1 rfl fo_X12_127 h0 rfl ?_
  refine ok_if_ne (q := 14) (q2 := 7) dX12_goOn_4 rfl rfl ?_ ?_
  · skip
    refine ok_iload_n (q := 15) 1 dX12_goOn_14 rfl rfl rfl ?_
    refine ok_i2l (q := 16) dX12_goOn_15 rfl ?_
    refine ok_lconst (q := 17) (x := 1) dX12_goOn_16 rfl rfl (by decide) ?_
    refine ok_ldc2 (q := 20) (x := 13) (v := 13) dX12_goOn_17 rfl kc_X12_318 rfl (by decide) ?_
    refine fi_callS1P (q := 23) (as := [ql x1, ql 1, ql 13]) (st := []) dX12_goOn_20 rfl mo_X12_164 rfl rfl (Nat.le_of_ble_eq_true rfl) (Nat.le_of_ble_eq_true rfl) (Nat.le_of_ble_eq_true rfl) (Nat.zero_le _) (Nat.zero_le _) (fun _ hr => ct_X12_isIn (N := N) hr) (fun v_1 => ?_)
    refine ok_if_ne (q := 33) (q2 := 26) dX12_goOn_23 rfl rfl ?_ ?_
    · skip
      refine ok_iconst (q := 34) (x := 0) dX12_goOn_33 rfl rfl (by decide) ?_
      refine ok_istore_n (q := 35) (ls' := [(2, qi 0), (0, qr a0), (1, qi x1)]) dX12_goOn_34 rfl rfl (Nat.le_of_ble_eq_true rfl) rfl ?_
      exact fun g => ok_pick [1, 2, 0] rfl (w_X12_goOn_h35 (N := N) N _ _ _ _ _ _ _ _ g)
    · skip
      refine ok_aload_n (q := 27) 0 dX12_goOn_26 rfl rfl rfl ?_
      refine ok_bipush (q := 29) (x := 7) dX12_goOn_27 rfl rfl (by decide) ?_
      refine fi_callV1S (q := 32) (as := [qi 7]) (st := []) dX12_goOn_29 rfl mo_X12_265 h0 rfl (Nat.le_of_ble_eq_true rfl) rfl rfl (Nat.le_of_ble_eq_true rfl) (Nat.le_of_ble_eq_true rfl) (Nat.le_of_ble_eq_true rfl) (Nat.zero_le _) (Nat.zero_le _) (fun _ hr => ct_X12_no (N := N) h0 hr) (fun v_2 I_3 => ?_)
      exact fi_ireturnA dX12_goOn_32 rfl
  · skip
    refine ok_aload_n (q := 8) 0 dX12_goOn_7 rfl rfl rfl ?_
    refine ok_bipush (q := 10) (x := 9) dX12_goOn_8 rfl rfl (by decide) ?_
    refine fi_callV1S (q := 13) (as := [qi 9]) (st := []) dX12_goOn_10 rfl mo_X12_265 h0 rfl (Nat.le_of_ble_eq_true rfl) rfl rfl (Nat.le_of_ble_eq_true rfl) (Nat.le_of_ble_eq_true rfl) (Nat.le_of_ble_eq_true rfl) (Nat.zero_le _) (Nat.zero_le _) (fun _ hr => ct_X12_no (N := N) h0 hr) (fun v_4 I_5 => ?_)
    exact fi_ireturnA dX12_goOn_13 rfl
theorem ct_X12_goOn {η : am_E} {l : Launch} {N : Nat} {n : Nat} {K : am_K} {I : am_I} {F : am_F} {a0 : Nat} {r0 : am_A} {x1 : Int} (h0 : (K a0).1 = 12) : X12_goOn N a0 n K I F x1 = some r0 → am_Ct η l yX12_goOn cX12_goOn 3 (some .int) 7 173 (am_ac1 r0) (am_az1 r0) [qr a0, qi x1] n K I F (am_pA 1 r0) := fun g => am_Ct.of false (by decide) (by decide) (Nat.le_of_ble_eq_true rfl) (fun _ => w_X12_goOn (N := N) h0 g)
def M_X12_placeWhy : am_M := (yX12_placeWhy.cls, cX12_placeWhy, 2, (some .int), am_room 3 66 0 0, false)
def X12_placeWhy_b49 (N : Nat) (K : am_K) (F : am_F) (I : am_I) (a0 : Nat) (s0 : Int) : Option Int :=
  some (s0)
theorem w_X12_placeWhy_b49 {η : am_E} {l : Launch} {N : Nat} {n : Nat} {K : am_K} {I : am_I} {F : am_F} {a0 : Nat} {r0 : Int} {s0 : Int} (h0 : (K a0).1 = 12) : X12_placeWhy_b49 N K F I a0 s0 = some r0 → Ok η l M_X12_placeWhy (am_qm η (am_pS 1 (r0, I) n K F) 0 0) 49 [(0, qr a0)] [qi s0] n K I F 0 0 := by
  unfold X12_placeWhy_b49
  exact fi_ireturnP dX12_placeWhy_49 rfl
def X12_placeWhy (N : Nat) (K : am_K) (F : am_F) (I : am_I) (a0 : Nat) (x1 : Int) : Option Int :=
  if (I a0 21) = 0 then (X12_placeWhy_b49 N K F I a0 9) else (am_cq (X12_placesTo N K F I a0 (I a0 22)) (fun v_1 => am_cq (X12_isIn N K F I x1 0 (am_wL (v_1 - 1))) (fun v_2 => if v_2 = 0 then (X12_placeWhy_b49 N K F I a0 3) else (if (I a0 24) ≤ x1 then (X12_placeWhy_b49 N K F I a0 9) else (X12_placeWhy_b49 N K F I a0 0)))))
theorem w_X12_placeWhy {η : am_E} {l : Launch} {N : Nat} {n : Nat} {K : am_K} {I : am_I} {F : am_F} {a0 : Nat} {r0 : Int} {x1 : Int} (h0 : (K a0).1 = 12) : X12_placeWhy N K F I a0 x1 = some r0 → Ok η l M_X12_placeWhy (am_qm η (am_pS 1 (r0, I) n K F) 0 0) 0 [(0, qr a0), (1, qi x1)] [] n K I F 0 0 := by
  unfold X12_placeWhy
  refine ok_aload_n (q := 1) 0 dX12_placeWhy_0 rfl rfl rfl ?_
  refine ok_getI (q := 4) (ci := 12) (k := 21) (x := I a0 21) dX12_placeWhy_1 rfl fo_X12_127 h0 rfl ?_
  refine ok_if_ne (q := 12) (q2 := 7) dX12_placeWhy_4 rfl rfl ?_ ?_
  · skip
    refine ok_iload_n (q := 13) 1 dX12_placeWhy_12 rfl rfl rfl ?_
    refine ok_i2l (q := 14) dX12_placeWhy_13 rfl ?_
    refine ok_lconst (q := 15) (x := 0) dX12_placeWhy_14 rfl rfl (by decide) ?_
    refine ok_aload_n (q := 16) 0 dX12_placeWhy_15 rfl rfl rfl ?_
    refine ok_aload_n (q := 17) 0 dX12_placeWhy_16 rfl rfl rfl ?_
    refine ok_getI (q := 20) (ci := 12) (k := 22) (x := I a0 22) dX12_placeWhy_17 rfl fo_X12_315 h0 rfl ?_
    refine fi_callV2P (q := 23) (as := [qi (I a0 22)]) (st := [ql 0, ql x1]) dX12_placeWhy_20 rfl mo_X12_193 h0 rfl (Nat.le_of_ble_eq_true rfl) rfl rfl (Nat.le_of_ble_eq_true rfl) (Nat.le_of_ble_eq_true rfl) (Nat.le_of_ble_eq_true rfl) (Nat.zero_le _) (Nat.zero_le _) (fun _ hr => ct_X12_placesTo (N := N) h0 hr) (fun v_1 => ?_)
    refine ok_lconst (q := 24) (x := 1) dX12_placeWhy_23 rfl rfl (by decide) ?_
    refine ok_lsubW (q := 25) dX12_placeWhy_24 rfl ?_
    refine fi_callS1P (q := 28) (as := [ql x1, ql 0, ql (am_wL (v_1 - 1))]) (st := []) dX12_placeWhy_25 rfl mo_X12_164 rfl rfl (Nat.le_of_ble_eq_true rfl) (Nat.le_of_ble_eq_true rfl) (Nat.le_of_ble_eq_true rfl) (Nat.zero_le _) (Nat.zero_le _) (fun _ hr => ct_X12_isIn (N := N) hr) (fun v_2 => ?_)
    refine ok_if_ne (q := 35) (q2 := 31) dX12_placeWhy_28 rfl rfl ?_ ?_
    · skip
      refine ok_iload_n (q := 36) 1 dX12_placeWhy_35 rfl rfl rfl ?_
      refine ok_aload_n (q := 37) 0 dX12_placeWhy_36 rfl rfl rfl ?_
      refine ok_getI (q := 40) (ci := 12) (k := 24) (x := I a0 24) dX12_placeWhy_37 rfl fo_X12_238 h0 rfl ?_
      refine ok_icmp_lt (q := 48) (q2 := 43) dX12_placeWhy_40 rfl rfl ?_ ?_
      · skip
        refine ok_iconst (q := 49) (x := 0) dX12_placeWhy_48 rfl rfl (by decide) ?_
        exact fun g => ok_pick [0] rfl (w_X12_placeWhy_b49 (N := N) h0 g)
      · skip
        refine ok_bipush (q := 45) (x := 9) dX12_placeWhy_43 rfl rfl (by decide) ?_
        refine ok_goto (q := 49) dX12_placeWhy_45 rfl ?_
        exact fun g => ok_pick [0] rfl (w_X12_placeWhy_b49 (N := N) h0 g)
    · skip
      refine ok_iconst (q := 32) (x := 3) dX12_placeWhy_31 rfl rfl (by decide) ?_
      refine ok_goto (q := 49) dX12_placeWhy_32 rfl ?_
      exact fun g => ok_pick [0] rfl (w_X12_placeWhy_b49 (N := N) h0 g)
  · skip
    refine ok_bipush (q := 9) (x := 9) dX12_placeWhy_7 rfl rfl (by decide) ?_
    refine ok_goto (q := 49) dX12_placeWhy_9 rfl ?_
    exact fun g => ok_pick [0] rfl (w_X12_placeWhy_b49 (N := N) h0 g)
theorem ct_X12_placeWhy {η : am_E} {l : Launch} {N : Nat} {n : Nat} {K : am_K} {I : am_I} {F : am_F} {a0 : Nat} {r0 : Int} {x1 : Int} (h0 : (K a0).1 = 12) : X12_placeWhy N K F I a0 x1 = some r0 → am_Ct η l yX12_placeWhy cX12_placeWhy 2 (some .int) 3 66 0 0 [qr a0, qi x1] n K I F (am_pS 1 (r0, I) n K F) := fun g => am_Ct.of false (by decide) (by decide) (Nat.le_of_ble_eq_true rfl) (fun _ => w_X12_placeWhy (N := N) h0 g)
def M_X12_value : am_M := (yX12_value.cls, cX12_value, 3, (some .int), am_room 4 87 0 0, false)
def X12_value_b28 (N : Nat) (K : am_K) (F : am_F) (a0 : Nat) (I : am_I) (s0 : Int) : Option (Int × am_I) :=
  some (s0, I)
theorem w_X12_value_b28 {η : am_E} {l : Launch} {N : Nat} {n : Nat} {K : am_K} {I : am_I} {F : am_F} {a0 : Nat} {r0 : Int × am_I} {s0 : Int} (h0 : (K a0).1 = 12) : X12_value_b28 N K F a0 I s0 = some r0 → Ok η l M_X12_value (am_qm η (am_pS 1 r0 n K F) 0 0) 28 [(0, qr a0)] [qi s0] n K I F 0 0 := by
  unfold X12_value_b28
  exact fi_ireturnS dX12_value_28 rfl
def X12_value (N : Nat) (K : am_K) (F : am_F) (a0 : Nat) (I : am_I) (x1 : Int) : Option (Int × am_I) :=
  am_cq (X12_placeWhy N K F I a0 x1) (fun v_1 => if 0 < v_1 then (am_cl (X12_no N K F a0 I v_1) (fun v_6 I_7 => X12_value_b28 N K F a0 I_7 v_6)) else (if (K (F a0 25)).1 = 100 then if (0 : Int) ≤ x1 ∧ x1 < (K (F a0 25)).2 then am_cl (X12_ok N K F a0 I (I (F a0 25) x1)) (fun v_4 I_5 => X12_value_b28 N K F a0 I_5 v_4) else none else none))
theorem w_X12_value {η : am_E} {l : Launch} {N : Nat} {n : Nat} {K : am_K} {I : am_I} {F : am_F} {a0 : Nat} {r0 : Int × am_I} {x1 : Int} (h0 : (K a0).1 = 12) : X12_value N K F a0 I x1 = some r0 → Ok η l M_X12_value (am_qm η (am_pS 1 r0 n K F) 0 0) 0 [(0, qr a0), (1, qi x1)] [] n K I F 0 0 := by
  unfold X12_value
  refine ok_aload_n (q := 1) 0 dX12_value_0 rfl rfl rfl ?_
  refine ok_iload_n (q := 2) 1 dX12_value_1 rfl rfl rfl ?_
  refine fi_callV1P (q := 5) (as := [qi x1]) (st := []) dX12_value_2 rfl mo_X12_323 h0 rfl (Nat.le_of_ble_eq_true rfl) rfl rfl (Nat.le_of_ble_eq_true rfl) (Nat.le_of_ble_eq_true rfl) (Nat.le_of_ble_eq_true rfl) (Nat.zero_le _) (Nat.zero_le _) (fun _ hr => ct_X12_placeWhy (N := N) h0 hr) (fun v_1 => ?_)
  refine ok_istore_n (q := 6) (ls' := [(2, qi v_1), (0, qr a0), (1, qi x1)]) dX12_value_5 rfl rfl (Nat.le_of_ble_eq_true rfl) rfl ?_
  refine ok_iload_n (q := 7) 0 dX12_value_6 rfl rfl rfl ?_
  refine ok_if_le (q := 18) (q2 := 10) dX12_value_7 rfl rfl ?_ ?_
  · skip
    refine ok_aload_n (q := 19) 1 dX12_value_18 rfl rfl rfl ?_
    refine ok_aload_n (q := 20) 1 dX12_value_19 rfl rfl rfl ?_
    refine ok_getR (q := 23) (ci := 12) (k := 25) (x := F a0 25) dX12_value_20 rfl fo_X12_33 h0 rfl ?_
    refine ok_iload_n (q := 24) 2 dX12_value_23 rfl rfl rfl ?_
    refine fi_chk (fun h_2 => ?_)
    refine fi_chk (fun h_3 => ?_)
    refine ok_iaload (q := 25) (v := I (F a0 25) x1) dX12_value_24 rfl h_2 h_3.1 h_3.2 rfl ?_
    refine fi_callV1S (q := 28) (as := [qi (I (F a0 25) x1)]) (st := []) dX12_value_25 rfl mo_X12_268 h0 rfl (Nat.le_of_ble_eq_true rfl) rfl rfl (Nat.le_of_ble_eq_true rfl) (Nat.le_of_ble_eq_true rfl) (Nat.le_of_ble_eq_true rfl) (Nat.zero_le _) (Nat.zero_le _) (fun _ hr => ct_X12_ok (N := N) h0 hr) (fun v_4 I_5 => ?_)
    exact fun g => ok_pick [1] rfl (w_X12_value_b28 (N := N) h0 g)
  · skip
    refine ok_aload_n (q := 11) 1 dX12_value_10 rfl rfl rfl ?_
    refine ok_iload_n (q := 12) 0 dX12_value_11 rfl rfl rfl ?_
    refine fi_callV1S (q := 15) (as := [qi v_1]) (st := []) dX12_value_12 rfl mo_X12_265 h0 rfl (Nat.le_of_ble_eq_true rfl) rfl rfl (Nat.le_of_ble_eq_true rfl) (Nat.le_of_ble_eq_true rfl) (Nat.le_of_ble_eq_true rfl) (Nat.zero_le _) (Nat.zero_le _) (fun _ hr => ct_X12_no (N := N) h0 hr) (fun v_6 I_7 => ?_)
    refine ok_goto (q := 28) dX12_value_15 rfl ?_
    exact fun g => ok_pick [1] rfl (w_X12_value_b28 (N := N) h0 g)
theorem ct_X12_value {η : am_E} {l : Launch} {N : Nat} {n : Nat} {K : am_K} {I : am_I} {F : am_F} {a0 : Nat} {r0 : Int × am_I} {x1 : Int} (h0 : (K a0).1 = 12) : X12_value N K F a0 I x1 = some r0 → am_Ct η l yX12_value cX12_value 3 (some .int) 4 87 0 0 [qr a0, qi x1] n K I F (am_pS 1 r0 n K F) := fun g => am_Ct.of false (by decide) (by decide) (Nat.le_of_ble_eq_true rfl) (fun _ => w_X12_value (N := N) h0 g)
def M_X12_rank : am_M := (yX12_rank.cls, cX12_rank, 3, (some .int), am_room 4 87 0 0, false)
def X12_rank_b28 (N : Nat) (K : am_K) (F : am_F) (a0 : Nat) (I : am_I) (s0 : Int) : Option (Int × am_I) :=
  some (s0, I)
theorem w_X12_rank_b28 {η : am_E} {l : Launch} {N : Nat} {n : Nat} {K : am_K} {I : am_I} {F : am_F} {a0 : Nat} {r0 : Int × am_I} {s0 : Int} (h0 : (K a0).1 = 12) : X12_rank_b28 N K F a0 I s0 = some r0 → Ok η l M_X12_rank (am_qm η (am_pS 1 r0 n K F) 0 0) 28 [(0, qr a0)] [qi s0] n K I F 0 0 := by
  unfold X12_rank_b28
  exact fi_ireturnS dX12_rank_28 rfl
def X12_rank (N : Nat) (K : am_K) (F : am_F) (a0 : Nat) (I : am_I) (x1 : Int) : Option (Int × am_I) :=
  am_cq (X12_placeWhy N K F I a0 x1) (fun v_1 => if 0 < v_1 then (am_cl (X12_no N K F a0 I v_1) (fun v_6 I_7 => X12_rank_b28 N K F a0 I_7 v_6)) else (if (K (F a0 26)).1 = 100 then if (0 : Int) ≤ x1 ∧ x1 < (K (F a0 26)).2 then am_cl (X12_ok N K F a0 I (I (F a0 26) x1)) (fun v_4 I_5 => X12_rank_b28 N K F a0 I_5 v_4) else none else none))
theorem w_X12_rank {η : am_E} {l : Launch} {N : Nat} {n : Nat} {K : am_K} {I : am_I} {F : am_F} {a0 : Nat} {r0 : Int × am_I} {x1 : Int} (h0 : (K a0).1 = 12) : X12_rank N K F a0 I x1 = some r0 → Ok η l M_X12_rank (am_qm η (am_pS 1 r0 n K F) 0 0) 0 [(0, qr a0), (1, qi x1)] [] n K I F 0 0 := by
  unfold X12_rank
  refine ok_aload_n (q := 1) 0 dX12_rank_0 rfl rfl rfl ?_
  refine ok_iload_n (q := 2) 1 dX12_rank_1 rfl rfl rfl ?_
  refine fi_callV1P (q := 5) (as := [qi x1]) (st := []) dX12_rank_2 rfl mo_X12_323 h0 rfl (Nat.le_of_ble_eq_true rfl) rfl rfl (Nat.le_of_ble_eq_true rfl) (Nat.le_of_ble_eq_true rfl) (Nat.le_of_ble_eq_true rfl) (Nat.zero_le _) (Nat.zero_le _) (fun _ hr => ct_X12_placeWhy (N := N) h0 hr) (fun v_1 => ?_)
  refine ok_istore_n (q := 6) (ls' := [(2, qi v_1), (0, qr a0), (1, qi x1)]) dX12_rank_5 rfl rfl (Nat.le_of_ble_eq_true rfl) rfl ?_
  refine ok_iload_n (q := 7) 0 dX12_rank_6 rfl rfl rfl ?_
  refine ok_if_le (q := 18) (q2 := 10) dX12_rank_7 rfl rfl ?_ ?_
  · skip
    refine ok_aload_n (q := 19) 1 dX12_rank_18 rfl rfl rfl ?_
    refine ok_aload_n (q := 20) 1 dX12_rank_19 rfl rfl rfl ?_
    refine ok_getR (q := 23) (ci := 12) (k := 26) (x := F a0 26) dX12_rank_20 rfl fo_X12_36 h0 rfl ?_
    refine ok_iload_n (q := 24) 2 dX12_rank_23 rfl rfl rfl ?_
    refine fi_chk (fun h_2 => ?_)
    refine fi_chk (fun h_3 => ?_)
    refine ok_iaload (q := 25) (v := I (F a0 26) x1) dX12_rank_24 rfl h_2 h_3.1 h_3.2 rfl ?_
    refine fi_callV1S (q := 28) (as := [qi (I (F a0 26) x1)]) (st := []) dX12_rank_25 rfl mo_X12_268 h0 rfl (Nat.le_of_ble_eq_true rfl) rfl rfl (Nat.le_of_ble_eq_true rfl) (Nat.le_of_ble_eq_true rfl) (Nat.le_of_ble_eq_true rfl) (Nat.zero_le _) (Nat.zero_le _) (fun _ hr => ct_X12_ok (N := N) h0 hr) (fun v_4 I_5 => ?_)
    exact fun g => ok_pick [1] rfl (w_X12_rank_b28 (N := N) h0 g)
  · skip
    refine ok_aload_n (q := 11) 1 dX12_rank_10 rfl rfl rfl ?_
    refine ok_iload_n (q := 12) 0 dX12_rank_11 rfl rfl rfl ?_
    refine fi_callV1S (q := 15) (as := [qi v_1]) (st := []) dX12_rank_12 rfl mo_X12_265 h0 rfl (Nat.le_of_ble_eq_true rfl) rfl rfl (Nat.le_of_ble_eq_true rfl) (Nat.le_of_ble_eq_true rfl) (Nat.le_of_ble_eq_true rfl) (Nat.zero_le _) (Nat.zero_le _) (fun _ hr => ct_X12_no (N := N) h0 hr) (fun v_6 I_7 => ?_)
    refine ok_goto (q := 28) dX12_rank_15 rfl ?_
    exact fun g => ok_pick [1] rfl (w_X12_rank_b28 (N := N) h0 g)
theorem ct_X12_rank {η : am_E} {l : Launch} {N : Nat} {n : Nat} {K : am_K} {I : am_I} {F : am_F} {a0 : Nat} {r0 : Int × am_I} {x1 : Int} (h0 : (K a0).1 = 12) : X12_rank N K F a0 I x1 = some r0 → am_Ct η l yX12_rank cX12_rank 3 (some .int) 4 87 0 0 [qr a0, qi x1] n K I F (am_pS 1 r0 n K F) := fun g => am_Ct.of false (by decide) (by decide) (Nat.le_of_ble_eq_true rfl) (fun _ => w_X12_rank (N := N) h0 g)
def M_X12_best : am_M := (yX12_best.cls, cX12_best, 4, (some .int), am_room 6 143 0 0, false)
def X12_best_b50 (N : Nat) (K : am_K) (F : am_F) (a0 : Nat) (I : am_I) (s0 : Int) : Option (Int × am_I) :=
  some (s0, I)
theorem w_X12_best_b50 {η : am_E} {l : Launch} {N : Nat} {n : Nat} {K : am_K} {I : am_I} {F : am_F} {a0 : Nat} {r0 : Int × am_I} {s0 : Int} (h0 : (K a0).1 = 12) : X12_best_b50 N K F a0 I s0 = some r0 → Ok η l M_X12_best (am_qm η (am_pS 1 r0 n K F) 0 0) 50 [(0, qr a0)] [qi s0] n K I F 0 0 := by
  unfold X12_best_b50
  exact fi_ireturnS dX12_best_50 rfl
def X12_best_b19 (N : Nat) (K : am_K) (F : am_F) (a0 : Nat) (I : am_I) (x2 : Int) (s0 : Int) : Option (Int × am_I) :=
  if 0 < x2 then (am_cl (X12_no N K F a0 I x2) (fun v_5 I_6 => X12_best_b50 N K F a0 I_6 v_5)) else (if s0 = (-1) then (am_cl (X12_no N K F a0 I 5) (fun v_3 I_4 => X12_best_b50 N K F a0 I_4 v_3)) else (am_cl (X12_ok N K F a0 I s0) (fun v_1 I_2 => X12_best_b50 N K F a0 I_2 v_1)))
theorem w_X12_best_b19 {η : am_E} {l : Launch} {N : Nat} {n : Nat} {K : am_K} {I : am_I} {F : am_F} {a0 : Nat} {r0 : Int × am_I} {x2 : Int} {s0 : Int} (h0 : (K a0).1 = 12) : X12_best_b19 N K F a0 I x2 s0 = some r0 → Ok η l M_X12_best (am_qm η (am_pS 1 r0 n K F) 0 0) 19 [(0, qr a0), (2, qi x2)] [qi s0] n K I F 0 0 := by
  unfold X12_best_b19
  refine ok_istore_n (q := 20) (ls' := [(3, qi s0), (0, qr a0), (2, qi x2)]) dX12_best_19 rfl rfl (Nat.le_of_ble_eq_true rfl) rfl ?_
  refine ok_iload_n (q := 21) 2 dX12_best_20 rfl rfl rfl ?_
  refine ok_if_le (q := 32) (q2 := 24) dX12_best_21 rfl rfl ?_ ?_
  · skip
    refine ok_iload_n (q := 33) 0 dX12_best_32 rfl rfl rfl ?_
    refine ok_iconst (q := 34) (x := -1) dX12_best_33 rfl rfl (by decide) ?_
    refine ok_icmp_ne (q := 45) (q2 := 37) dX12_best_34 rfl rfl ?_ ?_
    · skip
      refine ok_aload_n (q := 46) 1 dX12_best_45 rfl rfl rfl ?_
      refine ok_iload_n (q := 47) 0 dX12_best_46 rfl rfl rfl ?_
      refine fi_callV1S (q := 50) (as := [qi s0]) (st := []) dX12_best_47 rfl mo_X12_268 h0 rfl (Nat.le_of_ble_eq_true rfl) rfl rfl (Nat.le_of_ble_eq_true rfl) (Nat.le_of_ble_eq_true rfl) (Nat.le_of_ble_eq_true rfl) (Nat.zero_le _) (Nat.zero_le _) (fun _ hr => ct_X12_ok (N := N) h0 hr) (fun v_1 I_2 => ?_)
      exact fun g => ok_pick [1] rfl (w_X12_best_b50 (N := N) h0 g)
    · skip
      refine ok_aload_n (q := 38) 1 dX12_best_37 rfl rfl rfl ?_
      refine ok_iconst (q := 39) (x := 5) dX12_best_38 rfl rfl (by decide) ?_
      refine fi_callV1S (q := 42) (as := [qi 5]) (st := []) dX12_best_39 rfl mo_X12_265 h0 rfl (Nat.le_of_ble_eq_true rfl) rfl rfl (Nat.le_of_ble_eq_true rfl) (Nat.le_of_ble_eq_true rfl) (Nat.le_of_ble_eq_true rfl) (Nat.zero_le _) (Nat.zero_le _) (fun _ hr => ct_X12_no (N := N) h0 hr) (fun v_3 I_4 => ?_)
      refine ok_goto (q := 50) dX12_best_42 rfl ?_
      exact fun g => ok_pick [1] rfl (w_X12_best_b50 (N := N) h0 g)
  · skip
    refine ok_aload_n (q := 25) 1 dX12_best_24 rfl rfl rfl ?_
    refine ok_iload_n (q := 26) 2 dX12_best_25 rfl rfl rfl ?_
    refine fi_callV1S (q := 29) (as := [qi x2]) (st := []) dX12_best_26 rfl mo_X12_265 h0 rfl (Nat.le_of_ble_eq_true rfl) rfl rfl (Nat.le_of_ble_eq_true rfl) (Nat.le_of_ble_eq_true rfl) (Nat.le_of_ble_eq_true rfl) (Nat.zero_le _) (Nat.zero_le _) (fun _ hr => ct_X12_no (N := N) h0 hr) (fun v_5 I_6 => ?_)
    refine ok_goto (q := 50) dX12_best_29 rfl ?_
    exact fun g => ok_pick [1] rfl (w_X12_best_b50 (N := N) h0 g)
def X12_best (N : Nat) (K : am_K) (F : am_F) (a0 : Nat) (I : am_I) (x1 : Int) : Option (Int × am_I) :=
  am_cq (X12_placeWhy N K F I a0 x1) (fun v_1 => if 0 < v_1 then (X12_best_b19 N K F a0 I v_1 (-1)) else (am_cl (X12_bestOf N K F a0 I x1) (fun v_2 I_3 => X12_best_b19 N K F a0 I_3 v_1 v_2)))
theorem w_X12_best {η : am_E} {l : Launch} {N : Nat} {n : Nat} {K : am_K} {I : am_I} {F : am_F} {a0 : Nat} {r0 : Int × am_I} {x1 : Int} (h0 : (K a0).1 = 12) : X12_best N K F a0 I x1 = some r0 → Ok η l M_X12_best (am_qm η (am_pS 1 r0 n K F) 0 0) 0 [(0, qr a0), (1, qi x1)] [] n K I F 0 0 := by
  unfold X12_best
  refine ok_aload_n (q := 1) 0 dX12_best_0 rfl rfl rfl ?_
  refine ok_iload_n (q := 2) 1 dX12_best_1 rfl rfl rfl ?_
  refine fi_callV1P (q := 5) (as := [qi x1]) (st := []) dX12_best_2 rfl mo_X12_323 h0 rfl (Nat.le_of_ble_eq_true rfl) rfl rfl (Nat.le_of_ble_eq_true rfl) (Nat.le_of_ble_eq_true rfl) (Nat.le_of_ble_eq_true rfl) (Nat.zero_le _) (Nat.zero_le _) (fun _ hr => ct_X12_placeWhy (N := N) h0 hr) (fun v_1 => ?_)
  refine ok_istore_n (q := 6) (ls' := [(2, qi v_1), (0, qr a0), (1, qi x1)]) dX12_best_5 rfl rfl (Nat.le_of_ble_eq_true rfl) rfl ?_
  refine ok_iload_n (q := 7) 0 dX12_best_6 rfl rfl rfl ?_
  refine ok_if_le (q := 14) (q2 := 10) dX12_best_7 rfl rfl ?_ ?_
  · skip
    refine ok_aload_n (q := 15) 1 dX12_best_14 rfl rfl rfl ?_
    refine ok_iload_n (q := 16) 2 dX12_best_15 rfl rfl rfl ?_
    refine fi_callV1S (q := 19) (as := [qi x1]) (st := []) dX12_best_16 rfl mo_X12_257 h0 rfl (Nat.le_of_ble_eq_true rfl) rfl rfl (Nat.le_of_ble_eq_true rfl) (Nat.le_of_ble_eq_true rfl) (Nat.le_of_ble_eq_true rfl) (Nat.zero_le _) (Nat.zero_le _) (fun _ hr => ct_X12_bestOf (N := N) h0 hr) (fun v_2 I_3 => ?_)
    exact fun g => ok_pick [1, 0] rfl (w_X12_best_b19 (N := N) h0 g)
  · skip
    refine ok_iconst (q := 11) (x := -1) dX12_best_10 rfl rfl (by decide) ?_
    refine ok_goto (q := 19) dX12_best_11 rfl ?_
    exact fun g => ok_pick [1, 0] rfl (w_X12_best_b19 (N := N) h0 g)
theorem ct_X12_best {η : am_E} {l : Launch} {N : Nat} {n : Nat} {K : am_K} {I : am_I} {F : am_F} {a0 : Nat} {r0 : Int × am_I} {x1 : Int} (h0 : (K a0).1 = 12) : X12_best N K F a0 I x1 = some r0 → am_Ct η l yX12_best cX12_best 4 (some .int) 6 143 0 0 [qr a0, qi x1] n K I F (am_pS 1 r0 n K F) := fun g => am_Ct.of false (by decide) (by decide) (Nat.le_of_ble_eq_true rfl) (fun _ => w_X12_best (N := N) h0 g)
def M_X12_reaches : am_M := (yX12_reaches.cls, cX12_reaches, 5, (some .int), am_room 5 120 0 0, false)
def X12_reaches_b28 (N : Nat) (K : am_K) (F : am_F) (a0 : Nat) (I : am_I) (x1 : Int) (x2 : Int) (x3 : Int) : Option (Int × am_I) :=
  if 0 < x3 then (am_cl (X12_no N K F a0 I x3) (fun v_13 I_14 => some (v_13, I_14))) else (am_cl (X12_layOut N K F a0 I x1) (fun v_1 I_2 => am_cl (X12_mayMove N K F a0 I_2 (F a0 20) v_1 (F a0 35)) (fun v_3 I_4 => if (K (F a0 35)).1 = 101 then if (0 : Int) ≤ x2 ∧ x2 < (K (F a0 35)).2 then if (I_4 (F a0 35) x2) = 0 then (am_cl (X12_no N K F a0 I_4 5) (fun v_11 I_12 => some (v_11, I_12))) else (am_cl (X12_make N K F a0 I_4 (F a0 20) v_1 x2) (fun _ I_7 => am_cq (X12_reached N K F I_7 a0 v_1 (F a0 25)) (fun v_8 => am_cl (X12_ok N K F a0 I_7 v_8) (fun v_9 I_10 => some (v_9, I_10))))) else none else none)))
theorem w_X12_reaches_b28 {η : am_E} {l : Launch} {N : Nat} {n : Nat} {K : am_K} {I : am_I} {F : am_F} {a0 : Nat} {r0 : Int × am_I} {x1 : Int} {x2 : Int} {x3 : Int} (h0 : (K a0).1 = 12) : X12_reaches_b28 N K F a0 I x1 x2 x3 = some r0 → Ok η l M_X12_reaches (am_qm η (am_pS 1 r0 n K F) 0 0) 28 [(0, qr a0), (1, qi x1), (2, qi x2), (3, qi x3)] [] n K I F 0 0 := by
  unfold X12_reaches_b28
  refine ok_iload_n (q := 29) 3 dX12_reaches_28 rfl rfl rfl ?_
  refine ok_if_le (q := 38) (q2 := 32) dX12_reaches_29 rfl rfl ?_ ?_
  · skip
    refine ok_aload_n (q := 39) 0 dX12_reaches_38 rfl rfl rfl ?_
    refine ok_iload_n (q := 40) 1 dX12_reaches_39 rfl rfl rfl ?_
    refine ok_i2l (q := 41) dX12_reaches_40 rfl ?_
    refine fi_callV1S (q := 44) (as := [ql x1]) (st := []) dX12_reaches_41 rfl mo_X12_197 h0 rfl (Nat.le_of_ble_eq_true rfl) rfl rfl (Nat.le_of_ble_eq_true rfl) (Nat.le_of_ble_eq_true rfl) (Nat.le_of_ble_eq_true rfl) (Nat.zero_le _) (Nat.zero_le _) (fun _ hr => ct_X12_layOut (N := N) h0 hr) (fun v_1 I_2 => ?_)
    refine ok_istore (q := 46) (ls' := [(4, qi v_1), (0, qr a0), (1, qi x1), (2, qi x2), (3, qi x3)]) dX12_reaches_44 rfl (Nat.le_of_ble_eq_true rfl) rfl ?_
    refine ok_aload_n (q := 47) 1 dX12_reaches_46 rfl rfl rfl ?_
    refine ok_aload_n (q := 48) 1 dX12_reaches_47 rfl rfl rfl ?_
    refine ok_getR (q := 51) (ci := 12) (k := 20) (x := F a0 20) dX12_reaches_48 rfl fo_X12_29 h0 rfl ?_
    refine ok_iload (q := 53) 0 dX12_reaches_51 rfl rfl ?_
    refine ok_aload_n (q := 54) 1 dX12_reaches_53 rfl rfl rfl ?_
    refine ok_getR (q := 57) (ci := 12) (k := 35) (x := F a0 35) dX12_reaches_54 rfl fo_X12_65 h0 rfl ?_
    refine fi_callV1S (q := 60) (as := [qr (F a0 20), qi v_1, qr (F a0 35)]) (st := []) dX12_reaches_57 rfl mo_X12_201 h0 rfl (Nat.le_of_ble_eq_true rfl) rfl rfl (Nat.le_of_ble_eq_true rfl) (Nat.le_of_ble_eq_true rfl) (Nat.le_of_ble_eq_true rfl) (Nat.zero_le _) (Nat.zero_le _) (fun _ hr => ct_X12_mayMove (N := N) h0 hr) (fun v_3 I_4 => ?_)
    refine ok_pop (q := 61) dX12_reaches_60 rfl rfl ?_
    refine ok_aload_n (q := 62) 1 dX12_reaches_61 rfl rfl rfl ?_
    refine ok_getR (q := 65) (ci := 12) (k := 35) (x := F a0 35) dX12_reaches_62 rfl fo_X12_65 h0 rfl ?_
    refine ok_iload_n (q := 66) 3 dX12_reaches_65 rfl rfl rfl ?_
    refine fi_chk (fun h_5 => ?_)
    refine fi_chk (fun h_6 => ?_)
    refine ok_baload (q := 67) (v := I_4 (F a0 35) x2) dX12_reaches_66 rfl h_5 h_6.1 h_6.2 rfl ?_
    refine ok_if_ne (q := 76) (q2 := 70) dX12_reaches_67 rfl rfl ?_ ?_
    · skip
      refine ok_aload_n (q := 77) 1 dX12_reaches_76 rfl rfl rfl ?_
      refine ok_aload_n (q := 78) 1 dX12_reaches_77 rfl rfl rfl ?_
      refine ok_getR (q := 81) (ci := 12) (k := 20) (x := F a0 20) dX12_reaches_78 rfl fo_X12_29 h0 rfl ?_
      refine ok_iload (q := 83) 0 dX12_reaches_81 rfl rfl ?_
      refine ok_iload_n (q := 84) 3 dX12_reaches_83 rfl rfl rfl ?_
      refine fi_callV0S (q := 87) (as := [qr (F a0 20), qi v_1, qi x2]) (st := []) dX12_reaches_84 rfl mo_X12_172 h0 rfl (Nat.le_of_ble_eq_true rfl) rfl rfl (Nat.le_of_ble_eq_true rfl) (Nat.le_of_ble_eq_true rfl) (Nat.le_of_ble_eq_true rfl) (Nat.zero_le _) (Nat.zero_le _) (fun _ hr => ct_X12_make (N := N) h0 hr) (fun _ I_7 => ?_)
      refine ok_aload_n (q := 88) 1 dX12_reaches_87 rfl rfl rfl ?_
      refine ok_aload_n (q := 89) 1 dX12_reaches_88 rfl rfl rfl ?_
      refine ok_iload (q := 91) 0 dX12_reaches_89 rfl rfl ?_
      refine ok_aload_n (q := 92) 1 dX12_reaches_91 rfl rfl rfl ?_
      refine ok_getR (q := 95) (ci := 12) (k := 25) (x := F a0 25) dX12_reaches_92 rfl fo_X12_33 h0 rfl ?_
      refine fi_callV1P (q := 98) (as := [qi v_1, qr (F a0 25)]) (st := [qr a0]) dX12_reaches_95 rfl mo_X12_241 h0 rfl (Nat.le_of_ble_eq_true rfl) rfl rfl (Nat.le_of_ble_eq_true rfl) (Nat.le_of_ble_eq_true rfl) (Nat.le_of_ble_eq_true rfl) (Nat.zero_le _) (Nat.zero_le _) (fun _ hr => ct_X12_reached (N := N) h0 hr) (fun v_8 => ?_)
      refine fi_callV1S (q := 101) (as := [qi v_8]) (st := []) dX12_reaches_98 rfl mo_X12_268 h0 rfl (Nat.le_of_ble_eq_true rfl) rfl rfl (Nat.le_of_ble_eq_true rfl) (Nat.le_of_ble_eq_true rfl) (Nat.le_of_ble_eq_true rfl) (Nat.zero_le _) (Nat.zero_le _) (fun _ hr => ct_X12_ok (N := N) h0 hr) (fun v_9 I_10 => ?_)
      exact fi_ireturnS dX12_reaches_101 rfl
    · skip
      refine ok_aload_n (q := 71) 1 dX12_reaches_70 rfl rfl rfl ?_
      refine ok_iconst (q := 72) (x := 5) dX12_reaches_71 rfl rfl (by decide) ?_
      refine fi_callV1S (q := 75) (as := [qi 5]) (st := []) dX12_reaches_72 rfl mo_X12_265 h0 rfl (Nat.le_of_ble_eq_true rfl) rfl rfl (Nat.le_of_ble_eq_true rfl) (Nat.le_of_ble_eq_true rfl) (Nat.le_of_ble_eq_true rfl) (Nat.zero_le _) (Nat.zero_le _) (fun _ hr => ct_X12_no (N := N) h0 hr) (fun v_11 I_12 => ?_)
      exact fi_ireturnS dX12_reaches_75 rfl
  · skip
    refine ok_aload_n (q := 33) 0 dX12_reaches_32 rfl rfl rfl ?_
    refine ok_iload_n (q := 34) 3 dX12_reaches_33 rfl rfl rfl ?_
    refine fi_callV1S (q := 37) (as := [qi x3]) (st := []) dX12_reaches_34 rfl mo_X12_265 h0 rfl (Nat.le_of_ble_eq_true rfl) rfl rfl (Nat.le_of_ble_eq_true rfl) (Nat.le_of_ble_eq_true rfl) (Nat.le_of_ble_eq_true rfl) (Nat.zero_le _) (Nat.zero_le _) (fun _ hr => ct_X12_no (N := N) h0 hr) (fun v_13 I_14 => ?_)
    exact fi_ireturnS dX12_reaches_37 rfl
def X12_reaches (N : Nat) (K : am_K) (F : am_F) (a0 : Nat) (I : am_I) (x1 : Int) (x2 : Int) : Option (Int × am_I) :=
  am_cq (X12_placeWhy N K F I a0 x1) (fun v_1 => if v_1 = 0 then (am_cq (X12_all N K F I a0) (fun v_2 => if am_inI (v_2 - 1) then am_cq (X12_isIn N K F I x2 0 (v_2 - 1)) (fun v_4 => if v_4 = 0 then (X12_reaches_b28 N K F a0 I x1 x2 3) else (X12_reaches_b28 N K F a0 I x1 x2 v_1)) else none)) else (X12_reaches_b28 N K F a0 I x1 x2 v_1))
theorem w_X12_reaches {η : am_E} {l : Launch} {N : Nat} {n : Nat} {K : am_K} {I : am_I} {F : am_F} {a0 : Nat} {r0 : Int × am_I} {x1 : Int} {x2 : Int} (h0 : (K a0).1 = 12) : X12_reaches N K F a0 I x1 x2 = some r0 → Ok η l M_X12_reaches (am_qm η (am_pS 1 r0 n K F) 0 0) 0 [(0, qr a0), (1, qi x1), (2, qi x2)] [] n K I F 0 0 := by
  unfold X12_reaches
  refine ok_aload_n (q := 1) 0 dX12_reaches_0 rfl rfl rfl ?_
  refine ok_iload_n (q := 2) 1 dX12_reaches_1 rfl rfl rfl ?_
  refine fi_callV1P (q := 5) (as := [qi x1]) (st := []) dX12_reaches_2 rfl mo_X12_323 h0 rfl (Nat.le_of_ble_eq_true rfl) rfl rfl (Nat.le_of_ble_eq_true rfl) (Nat.le_of_ble_eq_true rfl) (Nat.le_of_ble_eq_true rfl) (Nat.zero_le _) (Nat.zero_le _) (fun _ hr => ct_X12_placeWhy (N := N) h0 hr) (fun v_1 => ?_)
  refine ok_istore_n (q := 6) (ls' := [(3, qi v_1), (0, qr a0), (1, qi x1), (2, qi x2)]) dX12_reaches_5 rfl rfl (Nat.le_of_ble_eq_true rfl) rfl ?_
  refine ok_iload_n (q := 7) 0 dX12_reaches_6 rfl rfl rfl ?_
  refine ok_if_ne (q := 28) (q2 := 10) dX12_reaches_7 rfl rfl ?_ ?_
  · skip
    exact fun g => ok_pick [1, 2, 3, 0] rfl (w_X12_reaches_b28 (N := N) h0 g)
  · skip
    refine ok_iload_n (q := 11) 3 dX12_reaches_10 rfl rfl rfl ?_
    refine ok_i2l (q := 12) dX12_reaches_11 rfl ?_
    refine ok_lconst (q := 13) (x := 0) dX12_reaches_12 rfl rfl (by decide) ?_
    refine ok_aload_n (q := 14) 1 dX12_reaches_13 rfl rfl rfl ?_
    refine fi_callV1P (q := 17) (as := []) (st := [ql 0, ql x2]) dX12_reaches_14 rfl mo_X12_133 h0 rfl (Nat.le_of_ble_eq_true rfl) rfl rfl (Nat.le_of_ble_eq_true rfl) (Nat.le_of_ble_eq_true rfl) (Nat.le_of_ble_eq_true rfl) (Nat.zero_le _) (Nat.zero_le _) (fun _ hr => ct_X12_all (N := N) h0 hr) (fun v_2 => ?_)
    refine ok_iconst (q := 18) (x := 1) dX12_reaches_17 rfl rfl (by decide) ?_
    refine fi_chk (fun h_3 => ?_)
    refine ok_isub (q := 19) dX12_reaches_18 rfl h_3 ?_
    refine ok_i2l (q := 20) dX12_reaches_19 rfl ?_
    refine fi_callS1P (q := 23) (as := [ql x2, ql 0, ql (v_2 - 1)]) (st := []) dX12_reaches_20 rfl mo_X12_164 rfl rfl (Nat.le_of_ble_eq_true rfl) (Nat.le_of_ble_eq_true rfl) (Nat.le_of_ble_eq_true rfl) (Nat.zero_le _) (Nat.zero_le _) (fun _ hr => ct_X12_isIn (N := N) hr) (fun v_4 => ?_)
    refine ok_if_ne (q := 28) (q2 := 26) dX12_reaches_23 rfl rfl ?_ ?_
    · skip
      exact fun g => ok_pick [1, 2, 3, 0] rfl (w_X12_reaches_b28 (N := N) h0 g)
    · skip
      refine ok_iconst (q := 27) (x := 3) dX12_reaches_26 rfl rfl (by decide) ?_
      refine ok_istore_n (q := 28) (ls' := [(3, qi 3), (0, qr a0), (1, qi x1), (2, qi x2)]) dX12_reaches_27 rfl rfl (Nat.le_of_ble_eq_true rfl) rfl ?_
      exact fun g => ok_pick [1, 2, 3, 0] rfl (w_X12_reaches_b28 (N := N) h0 g)
theorem ct_X12_reaches {η : am_E} {l : Launch} {N : Nat} {n : Nat} {K : am_K} {I : am_I} {F : am_F} {a0 : Nat} {r0 : Int × am_I} {x1 : Int} {x2 : Int} (h0 : (K a0).1 = 12) : X12_reaches N K F a0 I x1 x2 = some r0 → am_Ct η l yX12_reaches cX12_reaches 5 (some .int) 5 120 0 0 [qr a0, qi x1, qi x2] n K I F (am_pS 1 r0 n K F) := fun g => am_Ct.of false (by decide) (by decide) (Nat.le_of_ble_eq_true rfl) (fun _ => w_X12_reaches (N := N) h0 g)
def M_X12_count : am_M := (yX12_count.cls, cX12_count, 4, (some .int), am_room 1 21 0 0, false)
def X12_count_b42 (N : Nat) (K : am_K) (F : am_F) (a0 : Nat) (k18 : am_I → Int → Int → Int → Option (Int × am_I)) (I : am_I) (x1 : Int) (x3 : Int) (s0 : Int) (s1 : Int) : Option (Int × am_I) :=
  if am_inI (s1 + s0) then am_lt (s1 + s0) (fun x2_2 => if am_inI (x3 + 1) then am_lt (x3 + 1) (fun x3_4 => k18 I x1 x2_2 x3_4) else none) else none
theorem w_X12_count_b42 {η : am_E} {l : Launch} {N : Nat} {n : Nat} {K : am_K} {I : am_I} {F : am_F} {a0 : Nat} {r0 : Int × am_I} {k18 : am_I → Int → Int → Int → Option (Int × am_I)} {x1 : Int} {x3 : Int} {s0 : Int} {s1 : Int} (h0 : (K a0).1 = 12) (H18 : ∀ (I : am_I) (x1 : Int) (x2 : Int) (x3 : Int), k18 I x1 x2 x3 = some r0 → Ok η l M_X12_count (am_qm η (am_pS 1 r0 n K F) 0 0) 18 [(0, qr a0), (1, qi x1), (2, qi x2), (3, qi x3)] [] n K I F 0 0) : X12_count_b42 N K F a0 k18 I x1 x3 s0 s1 = some r0 → Ok η l M_X12_count (am_qm η (am_pS 1 r0 n K F) 0 0) 42 [(0, qr a0), (1, qi x1), (3, qi x3)] [qi s0, qi s1] n K I F 0 0 := by
  unfold X12_count_b42
  refine fi_chk (fun h_1 => ?_)
  refine ok_iadd (q := 43) dX12_count_42 rfl h_1 ?_
  refine ok_istore_nL (q := 44) (fun x2_2 => [(2, qi x2_2), (0, qr a0), (1, qi x1), (3, qi x3)]) dX12_count_43 rfl rfl (Nat.le_of_ble_eq_true rfl) (fun _ => rfl) (fun x2_2 => ?_)
  refine fi_chk (fun h_3 => ?_)
  refine ok_iincL (q := 47) (fun x3_4 => [(3, qi x3_4), (2, qi x2_2), (0, qr a0), (1, qi x1)]) 3 dX12_count_44 rfl rfl h_3 (Nat.le_of_ble_eq_true rfl) (fun _ => rfl) (fun x3_4 => ?_)
  refine ok_goto (q := 18) dX12_count_47 rfl ?_
  exact fun g => ok_pick [2, 3, 1, 0] rfl (H18 _ _ _ _ g)
def X12_count_s18 (N : Nat) (K : am_K) (F : am_F) (a0 : Nat) (k18 : am_I → Int → Int → Int → Option (Int × am_I)) (I : am_I) (x1 : Int) (x2 : Int) (x3 : Int) : Option (Int × am_I) :=
  if x3 < (I a0 24) then (if (K (F a0 25)).1 = 100 then if (0 : Int) ≤ x3 ∧ x3 < (K (F a0 25)).2 then if (I (F a0 25) x3) = x1 then (X12_count_b42 N K F a0 k18 I x1 x3 1 x2) else (X12_count_b42 N K F a0 k18 I x1 x3 0 x2) else none else none) else (am_cl (X12_ok N K F a0 I x2) (fun v_1 I_2 => some (v_1, I_2)))
theorem w_X12_count_s18 {η : am_E} {l : Launch} {N : Nat} {n : Nat} {K : am_K} {I : am_I} {F : am_F} {a0 : Nat} {r0 : Int × am_I} {k18 : am_I → Int → Int → Int → Option (Int × am_I)} {x1 : Int} {x2 : Int} {x3 : Int} (h0 : (K a0).1 = 12) (H18 : ∀ (I : am_I) (x1 : Int) (x2 : Int) (x3 : Int), k18 I x1 x2 x3 = some r0 → Ok η l M_X12_count (am_qm η (am_pS 1 r0 n K F) 0 0) 18 [(0, qr a0), (1, qi x1), (2, qi x2), (3, qi x3)] [] n K I F 0 0) : X12_count_s18 N K F a0 k18 I x1 x2 x3 = some r0 → Ok η l M_X12_count (am_qm η (am_pS 1 r0 n K F) 0 0) 18 [(0, qr a0), (1, qi x1), (2, qi x2), (3, qi x3)] [] n K I F 0 0 := by
  unfold X12_count_s18
  refine ok_iload_n (q := 19) 3 dX12_count_18 rfl rfl rfl ?_
  refine ok_aload_n (q := 20) 0 dX12_count_19 rfl rfl rfl ?_
  refine ok_getI (q := 23) (ci := 12) (k := 24) (x := I a0 24) dX12_count_20 rfl fo_X12_238 h0 rfl ?_
  refine ok_icmp_ge (q := 50) (q2 := 26) dX12_count_23 rfl rfl ?_ ?_
  · skip
    refine ok_aload_n (q := 51) 0 dX12_count_50 rfl rfl rfl ?_
    refine ok_iload_n (q := 52) 2 dX12_count_51 rfl rfl rfl ?_
    refine fi_callV1S (q := 55) (as := [qi x2]) (st := []) dX12_count_52 rfl mo_X12_268 h0 rfl (Nat.le_of_ble_eq_true rfl) rfl rfl (Nat.le_of_ble_eq_true rfl) (Nat.le_of_ble_eq_true rfl) (Nat.le_of_ble_eq_true rfl) (Nat.zero_le _) (Nat.zero_le _) (fun _ hr => ct_X12_ok (N := N) h0 hr) (fun v_1 I_2 => ?_)
    exact fi_ireturnS dX12_count_55 rfl
  · skip
    refine ok_iload_n (q := 27) 2 dX12_count_26 rfl rfl rfl ?_
    refine ok_aload_n (q := 28) 0 dX12_count_27 rfl rfl rfl ?_
    refine ok_getR (q := 31) (ci := 12) (k := 25) (x := F a0 25) dX12_count_28 rfl fo_X12_33 h0 rfl ?_
    refine ok_iload_n (q := 32) 3 dX12_count_31 rfl rfl rfl ?_
    refine fi_chk (fun h_3 => ?_)
    refine fi_chk (fun h_4 => ?_)
    refine ok_iaload (q := 33) (v := I (F a0 25) x3) dX12_count_32 rfl h_3 h_4.1 h_4.2 rfl ?_
    refine ok_iload_n (q := 34) 1 dX12_count_33 rfl rfl rfl ?_
    refine ok_icmp_ne (q := 41) (q2 := 37) dX12_count_34 rfl rfl ?_ ?_
    · skip
      refine ok_iconst (q := 42) (x := 0) dX12_count_41 rfl rfl (by decide) ?_
      exact fun g => ok_pick [0, 1, 3] rfl (w_X12_count_b42 (N := N) h0 H18 g)
    · skip
      refine ok_iconst (q := 38) (x := 1) dX12_count_37 rfl rfl (by decide) ?_
      refine ok_goto (q := 42) dX12_count_38 rfl ?_
      exact fun g => ok_pick [0, 1, 3] rfl (w_X12_count_b42 (N := N) h0 H18 g)
def X12_count_h18 (N : Nat) (K : am_K) (F : am_F) (a0 : Nat) : Nat → am_I → Int → Int → Int → Option (Int × am_I) := am_it (fun kh => X12_count_s18 N K F a0 kh) (fun _ _ _ _ => none)
theorem w_X12_count_h18 {η : am_E} {l : Launch} {N : Nat} {n : Nat} {K : am_K} {F : am_F} {a0 : Nat} {r0 : Int × am_I} (h0 : (K a0).1 = 12) (f : Nat) : ∀ (I : am_I) (x1 : Int) (x2 : Int) (x3 : Int), X12_count_h18 N K F a0 f I x1 x2 x3 = some r0 → Ok η l M_X12_count (am_qm η (am_pS 1 r0 n K F) 0 0) 18 [(0, qr a0), (1, qi x1), (2, qi x2), (3, qi x3)] [] n K I F 0 0 := by
  induction f with
  | zero => intro I x1 x2 x3 g; exact fi_none g
  | succ f ih => intro I x1 x2 x3 g; exact w_X12_count_s18 (N := N) h0 ih g
def X12_count (N : Nat) (K : am_K) (F : am_F) (a0 : Nat) (I : am_I) (x1 : Int) : Option (Int × am_I) :=
  if (I a0 21) = 0 then (am_cl (X12_no N K F a0 I 9) (fun v_1 I_2 => some (v_1, I_2))) else (X12_count_h18 N K F a0 N I x1 0 0)
theorem w_X12_count {η : am_E} {l : Launch} {N : Nat} {n : Nat} {K : am_K} {I : am_I} {F : am_F} {a0 : Nat} {r0 : Int × am_I} {x1 : Int} (h0 : (K a0).1 = 12) : X12_count N K F a0 I x1 = some r0 → Ok η l M_X12_count (am_qm η (am_pS 1 r0 n K F) 0 0) 0 [(0, qr a0), (1, qi x1)] [] n K I F 0 0 := by
  unfold X12_count
  refine ok_aload_n (q := 1) 0 dX12_count_0 rfl rfl rfl ?_
  refine ok_getI (q := 4) (ci := 12) (k := 21) (x := I a0 21) dX12_count_1 rfl fo_X12_127 h0 rfl ?_
  refine ok_if_ne (q := 14) (q2 := 7) dX12_count_4 rfl rfl ?_ ?_
  · skip
    refine ok_iconst (q := 15) (x := 0) dX12_count_14 rfl rfl (by decide) ?_
    refine ok_istore_n (q := 16) (ls' := [(2, qi 0), (0, qr a0), (1, qi x1)]) dX12_count_15 rfl rfl (Nat.le_of_ble_eq_true rfl) rfl ?_
    refine ok_iconst (q := 17) (x := 0) dX12_count_16 rfl rfl (by decide) ?_
    refine ok_istore_n (q := 18) (ls' := [(3, qi 0), (2, qi 0), (0, qr a0), (1, qi x1)]) dX12_count_17 rfl rfl (Nat.le_of_ble_eq_true rfl) rfl ?_
    exact fun g => ok_pick [2, 3, 1, 0] rfl (w_X12_count_h18 (N := N) h0 N _ _ _ _ g)
  · skip
    refine ok_aload_n (q := 8) 0 dX12_count_7 rfl rfl rfl ?_
    refine ok_bipush (q := 10) (x := 9) dX12_count_8 rfl rfl (by decide) ?_
    refine fi_callV1S (q := 13) (as := [qi 9]) (st := []) dX12_count_10 rfl mo_X12_265 h0 rfl (Nat.le_of_ble_eq_true rfl) rfl rfl (Nat.le_of_ble_eq_true rfl) (Nat.le_of_ble_eq_true rfl) (Nat.le_of_ble_eq_true rfl) (Nat.zero_le _) (Nat.zero_le _) (fun _ hr => ct_X12_no (N := N) h0 hr) (fun v_1 I_2 => ?_)
    exact fi_ireturnS dX12_count_13 rfl
theorem ct_X12_count {η : am_E} {l : Launch} {N : Nat} {n : Nat} {K : am_K} {I : am_I} {F : am_F} {a0 : Nat} {r0 : Int × am_I} {x1 : Int} (h0 : (K a0).1 = 12) : X12_count N K F a0 I x1 = some r0 → am_Ct η l yX12_count cX12_count 4 (some .int) 1 21 0 0 [qr a0, qi x1] n K I F (am_pS 1 r0 n K F) := fun g => am_Ct.of false (by decide) (by decide) (Nat.le_of_ble_eq_true rfl) (fun _ => w_X12_count (N := N) h0 g)
def M_X12_find : am_M := (yX12_find.cls, cX12_find, 4, (some .int), am_room 1 21 0 0, false)
def X12_find_s26 (N : Nat) (K : am_K) (F : am_F) (a0 : Nat) (k26 : am_I → Int → Int → Option (Int × am_I)) (I : am_I) (x2 : Int) (x3 : Int) : Option (Int × am_I) :=
  if x3 < (I a0 24) then (if (K (F a0 25)).1 = 100 then if (0 : Int) ≤ x3 ∧ x3 < (K (F a0 25)).2 then if (I (F a0 25) x3) = x2 then (am_cl (X12_ok N K F a0 I x3) (fun v_7 I_8 => some (v_7, I_8))) else (if am_inI (x3 + 1) then am_lt (x3 + 1) (fun x3_6 => k26 I x2 x3_6) else none) else none else none) else (am_cl (X12_no N K F a0 I 3) (fun v_1 I_2 => some (v_1, I_2)))
theorem w_X12_find_s26 {η : am_E} {l : Launch} {N : Nat} {n : Nat} {K : am_K} {I : am_I} {F : am_F} {a0 : Nat} {r0 : Int × am_I} {k26 : am_I → Int → Int → Option (Int × am_I)} {x2 : Int} {x3 : Int} (h0 : (K a0).1 = 12) (H26 : ∀ (I : am_I) (x2 : Int) (x3 : Int), k26 I x2 x3 = some r0 → Ok η l M_X12_find (am_qm η (am_pS 1 r0 n K F) 0 0) 26 [(0, qr a0), (2, qi x2), (3, qi x3)] [] n K I F 0 0) : X12_find_s26 N K F a0 k26 I x2 x3 = some r0 → Ok η l M_X12_find (am_qm η (am_pS 1 r0 n K F) 0 0) 26 [(0, qr a0), (2, qi x2), (3, qi x3)] [] n K I F 0 0 := by
  unfold X12_find_s26
  refine ok_iload_n (q := 27) 2 dX12_find_26 rfl rfl rfl ?_
  refine ok_aload_n (q := 28) 0 dX12_find_27 rfl rfl rfl ?_
  refine ok_getI (q := 31) (ci := 12) (k := 24) (x := I a0 24) dX12_find_28 rfl fo_X12_238 h0 rfl ?_
  refine ok_icmp_ge (q := 56) (q2 := 34) dX12_find_31 rfl rfl ?_ ?_
  · skip
    refine ok_aload_n (q := 57) 0 dX12_find_56 rfl rfl rfl ?_
    refine ok_iconst (q := 58) (x := 3) dX12_find_57 rfl rfl (by decide) ?_
    refine fi_callV1S (q := 61) (as := [qi 3]) (st := []) dX12_find_58 rfl mo_X12_265 h0 rfl (Nat.le_of_ble_eq_true rfl) rfl rfl (Nat.le_of_ble_eq_true rfl) (Nat.le_of_ble_eq_true rfl) (Nat.le_of_ble_eq_true rfl) (Nat.zero_le _) (Nat.zero_le _) (fun _ hr => ct_X12_no (N := N) h0 hr) (fun v_1 I_2 => ?_)
    exact fi_ireturnS dX12_find_61 rfl
  · skip
    refine ok_aload_n (q := 35) 0 dX12_find_34 rfl rfl rfl ?_
    refine ok_getR (q := 38) (ci := 12) (k := 25) (x := F a0 25) dX12_find_35 rfl fo_X12_33 h0 rfl ?_
    refine ok_iload_n (q := 39) 2 dX12_find_38 rfl rfl rfl ?_
    refine fi_chk (fun h_3 => ?_)
    refine fi_chk (fun h_4 => ?_)
    refine ok_iaload (q := 40) (v := I (F a0 25) x3) dX12_find_39 rfl h_3 h_4.1 h_4.2 rfl ?_
    refine ok_iload_n (q := 41) 1 dX12_find_40 rfl rfl rfl ?_
    refine ok_icmp_ne (q := 50) (q2 := 44) dX12_find_41 rfl rfl ?_ ?_
    · skip
      refine fi_chk (fun h_5 => ?_)
      refine ok_iincL (q := 53) (fun x3_6 => [(3, qi x3_6), (0, qr a0), (2, qi x2)]) 2 dX12_find_50 rfl rfl h_5 (Nat.le_of_ble_eq_true rfl) (fun _ => rfl) (fun x3_6 => ?_)
      refine ok_goto (q := 26) dX12_find_53 rfl ?_
      exact fun g => ok_pick [1, 2, 0] rfl (H26 _ _ _ g)
    · skip
      refine ok_aload_n (q := 45) 0 dX12_find_44 rfl rfl rfl ?_
      refine ok_iload_n (q := 46) 2 dX12_find_45 rfl rfl rfl ?_
      refine fi_callV1S (q := 49) (as := [qi x3]) (st := []) dX12_find_46 rfl mo_X12_268 h0 rfl (Nat.le_of_ble_eq_true rfl) rfl rfl (Nat.le_of_ble_eq_true rfl) (Nat.le_of_ble_eq_true rfl) (Nat.le_of_ble_eq_true rfl) (Nat.zero_le _) (Nat.zero_le _) (fun _ hr => ct_X12_ok (N := N) h0 hr) (fun v_7 I_8 => ?_)
      exact fi_ireturnS dX12_find_49 rfl
def X12_find_h26 (N : Nat) (K : am_K) (F : am_F) (a0 : Nat) : Nat → am_I → Int → Int → Option (Int × am_I) := am_it (fun kh => X12_find_s26 N K F a0 kh) (fun _ _ _ => none)
theorem w_X12_find_h26 {η : am_E} {l : Launch} {N : Nat} {n : Nat} {K : am_K} {F : am_F} {a0 : Nat} {r0 : Int × am_I} (h0 : (K a0).1 = 12) (f : Nat) : ∀ (I : am_I) (x2 : Int) (x3 : Int), X12_find_h26 N K F a0 f I x2 x3 = some r0 → Ok η l M_X12_find (am_qm η (am_pS 1 r0 n K F) 0 0) 26 [(0, qr a0), (2, qi x2), (3, qi x3)] [] n K I F 0 0 := by
  induction f with
  | zero => intro I x2 x3 g; exact fi_none g
  | succ f ih => intro I x2 x3 g; exact w_X12_find_s26 (N := N) h0 ih g
def X12_find (N : Nat) (K : am_K) (F : am_F) (a0 : Nat) (I : am_I) (x1 : Int) (x2 : Int) : Option (Int × am_I) :=
  if (I a0 21) = 0 then (am_cl (X12_no N K F a0 I 9) (fun v_3 I_4 => some (v_3, I_4))) else (if x1 < 0 then (am_cl (X12_no N K F a0 I 3) (fun v_1 I_2 => some (v_1, I_2))) else (X12_find_h26 N K F a0 N I x2 x1))
theorem w_X12_find {η : am_E} {l : Launch} {N : Nat} {n : Nat} {K : am_K} {I : am_I} {F : am_F} {a0 : Nat} {r0 : Int × am_I} {x1 : Int} {x2 : Int} (h0 : (K a0).1 = 12) : X12_find N K F a0 I x1 x2 = some r0 → Ok η l M_X12_find (am_qm η (am_pS 1 r0 n K F) 0 0) 0 [(0, qr a0), (1, qi x1), (2, qi x2)] [] n K I F 0 0 := by
  unfold X12_find
  refine ok_aload_n (q := 1) 0 dX12_find_0 rfl rfl rfl ?_
  refine ok_getI (q := 4) (ci := 12) (k := 21) (x := I a0 21) dX12_find_1 rfl fo_X12_127 h0 rfl ?_
  refine ok_if_ne (q := 14) (q2 := 7) dX12_find_4 rfl rfl ?_ ?_
  · skip
    refine ok_iload_n (q := 15) 1 dX12_find_14 rfl rfl rfl ?_
    refine ok_if_ge (q := 24) (q2 := 18) dX12_find_15 rfl rfl ?_ ?_
    · skip
      refine ok_iload_n (q := 25) 1 dX12_find_24 rfl rfl rfl ?_
      refine ok_istore_n (q := 26) (ls' := [(3, qi x1), (0, qr a0), (1, qi x1), (2, qi x2)]) dX12_find_25 rfl rfl (Nat.le_of_ble_eq_true rfl) rfl ?_
      exact fun g => ok_pick [1, 3, 0] rfl (w_X12_find_h26 (N := N) h0 N _ _ _ g)
    · skip
      refine ok_aload_n (q := 19) 0 dX12_find_18 rfl rfl rfl ?_
      refine ok_iconst (q := 20) (x := 3) dX12_find_19 rfl rfl (by decide) ?_
      refine fi_callV1S (q := 23) (as := [qi 3]) (st := []) dX12_find_20 rfl mo_X12_265 h0 rfl (Nat.le_of_ble_eq_true rfl) rfl rfl (Nat.le_of_ble_eq_true rfl) (Nat.le_of_ble_eq_true rfl) (Nat.le_of_ble_eq_true rfl) (Nat.zero_le _) (Nat.zero_le _) (fun _ hr => ct_X12_no (N := N) h0 hr) (fun v_1 I_2 => ?_)
      exact fi_ireturnS dX12_find_23 rfl
  · skip
    refine ok_aload_n (q := 8) 0 dX12_find_7 rfl rfl rfl ?_
    refine ok_bipush (q := 10) (x := 9) dX12_find_8 rfl rfl (by decide) ?_
    refine fi_callV1S (q := 13) (as := [qi 9]) (st := []) dX12_find_10 rfl mo_X12_265 h0 rfl (Nat.le_of_ble_eq_true rfl) rfl rfl (Nat.le_of_ble_eq_true rfl) (Nat.le_of_ble_eq_true rfl) (Nat.le_of_ble_eq_true rfl) (Nat.zero_le _) (Nat.zero_le _) (fun _ hr => ct_X12_no (N := N) h0 hr) (fun v_3 I_4 => ?_)
    exact fi_ireturnS dX12_find_13 rfl
theorem ct_X12_find {η : am_E} {l : Launch} {N : Nat} {n : Nat} {K : am_K} {I : am_I} {F : am_F} {a0 : Nat} {r0 : Int × am_I} {x1 : Int} {x2 : Int} (h0 : (K a0).1 = 12) : X12_find N K F a0 I x1 x2 = some r0 → am_Ct η l yX12_find cX12_find 4 (some .int) 1 21 0 0 [qr a0, qi x1, qi x2] n K I F (am_pS 1 r0 n K F) := fun g => am_Ct.of false (by decide) (by decide) (Nat.le_of_ble_eq_true rfl) (fun _ => w_X12_find (N := N) h0 g)
def M_X12_claim : am_M := (yX12_claim.cls, cX12_claim, 4, (some .int), am_room 3 66 0 0, false)
def X12_claim_b65 (N : Nat) (K : am_K) (F : am_F) (a0 : Nat) (I : am_I) : Option (Int × am_I) :=
  am_cl (X12_no N K F a0 I 7) (fun v_1 I_2 => some (v_1, I_2))
theorem w_X12_claim_b65 {η : am_E} {l : Launch} {N : Nat} {n : Nat} {K : am_K} {I : am_I} {F : am_F} {a0 : Nat} {r0 : Int × am_I} (h0 : (K a0).1 = 12) : X12_claim_b65 N K F a0 I = some r0 → Ok η l M_X12_claim (am_qm η (am_pS 1 r0 n K F) 0 0) 65 [(0, qr a0)] [] n K I F 0 0 := by
  unfold X12_claim_b65
  refine ok_aload_n (q := 66) 0 dX12_claim_65 rfl rfl rfl ?_
  refine ok_bipush (q := 68) (x := 7) dX12_claim_66 rfl rfl (by decide) ?_
  refine fi_callV1S (q := 71) (as := [qi 7]) (st := []) dX12_claim_68 rfl mo_X12_265 h0 rfl (Nat.le_of_ble_eq_true rfl) rfl rfl (Nat.le_of_ble_eq_true rfl) (Nat.le_of_ble_eq_true rfl) (Nat.le_of_ble_eq_true rfl) (Nat.zero_le _) (Nat.zero_le _) (fun _ hr => ct_X12_no (N := N) h0 hr) (fun v_1 I_2 => ?_)
  exact fi_ireturnS dX12_claim_71 rfl
def X12_claim (N : Nat) (K : am_K) (F : am_F) (a0 : Nat) (I : am_I) (x1 : Int) (x2 : Int) (x3 : Int) : Option (Int × am_I) :=
  if (I a0 21) = 0 then (am_cl (X12_no N K F a0 I 9) (fun v_17 I_18 => some (v_17, I_18))) else (am_cq (X12_placesTo N K F I a0 (I a0 22)) (fun v_1 => am_cq (X12_isIn N K F I x1 0 (am_wL (v_1 - 1))) (fun v_2 => if v_2 = 0 then (am_cl (X12_no N K F a0 I 3) (fun v_15 I_16 => some (v_15, I_16))) else (am_cq (X12_isIn N K F I x2 (-60) 60) (fun v_3 => if v_3 = 0 then (X12_claim_b65 N K F a0 I) else (am_cq (X12_isIn N K F I x3 0 100000) (fun v_4 => if v_4 = 0 then (X12_claim_b65 N K F a0 I) else (if (K (F a0 27)).1 = 100 then if F a0 27 ≠ 1 then if (0 : Int) ≤ x1 ∧ x1 < (K (F a0 27)).2 then am_lt (am_u2 I (F a0 27) x1 x2) (fun I_8 => if (K (F a0 28)).1 = 100 then if F a0 28 ≠ 1 then if (0 : Int) ≤ x1 ∧ x1 < (K (F a0 28)).2 then am_lt (am_u2 I_8 (F a0 28) x1 x3) (fun I_12 => am_cl (X12_ok N K F a0 I_12 x1) (fun v_13 I_14 => some (v_13, I_14))) else none else none else none) else none else none else none))))))))
theorem w_X12_claim {η : am_E} {l : Launch} {N : Nat} {n : Nat} {K : am_K} {I : am_I} {F : am_F} {a0 : Nat} {r0 : Int × am_I} {x1 : Int} {x2 : Int} {x3 : Int} (h0 : (K a0).1 = 12) : X12_claim N K F a0 I x1 x2 x3 = some r0 → Ok η l M_X12_claim (am_qm η (am_pS 1 r0 n K F) 0 0) 0 [(0, qr a0), (1, qi x1), (2, qi x2), (3, qi x3)] [] n K I F 0 0 := by
  unfold X12_claim
  refine ok_aload_n (q := 1) 0 dX12_claim_0 rfl rfl rfl ?_
  refine ok_getI (q := 4) (ci := 12) (k := 21) (x := I a0 21) dX12_claim_1 rfl fo_X12_127 h0 rfl ?_
  refine ok_if_ne (q := 14) (q2 := 7) dX12_claim_4 rfl rfl ?_ ?_
  · skip
    refine ok_iload_n (q := 15) 1 dX12_claim_14 rfl rfl rfl ?_
    refine ok_i2l (q := 16) dX12_claim_15 rfl ?_
    refine ok_lconst (q := 17) (x := 0) dX12_claim_16 rfl rfl (by decide) ?_
    refine ok_aload_n (q := 18) 0 dX12_claim_17 rfl rfl rfl ?_
    refine ok_aload_n (q := 19) 0 dX12_claim_18 rfl rfl rfl ?_
    refine ok_getI (q := 22) (ci := 12) (k := 22) (x := I a0 22) dX12_claim_19 rfl fo_X12_315 h0 rfl ?_
    refine fi_callV2P (q := 25) (as := [qi (I a0 22)]) (st := [ql 0, ql x1]) dX12_claim_22 rfl mo_X12_193 h0 rfl (Nat.le_of_ble_eq_true rfl) rfl rfl (Nat.le_of_ble_eq_true rfl) (Nat.le_of_ble_eq_true rfl) (Nat.le_of_ble_eq_true rfl) (Nat.zero_le _) (Nat.zero_le _) (fun _ hr => ct_X12_placesTo (N := N) h0 hr) (fun v_1 => ?_)
    refine ok_lconst (q := 26) (x := 1) dX12_claim_25 rfl rfl (by decide) ?_
    refine ok_lsubW (q := 27) dX12_claim_26 rfl ?_
    refine fi_callS1P (q := 30) (as := [ql x1, ql 0, ql (am_wL (v_1 - 1))]) (st := []) dX12_claim_27 rfl mo_X12_164 rfl rfl (Nat.le_of_ble_eq_true rfl) (Nat.le_of_ble_eq_true rfl) (Nat.le_of_ble_eq_true rfl) (Nat.zero_le _) (Nat.zero_le _) (fun _ hr => ct_X12_isIn (N := N) hr) (fun v_2 => ?_)
    refine ok_if_ne (q := 39) (q2 := 33) dX12_claim_30 rfl rfl ?_ ?_
    · skip
      refine ok_iload_n (q := 40) 2 dX12_claim_39 rfl rfl rfl ?_
      refine ok_i2l (q := 41) dX12_claim_40 rfl ?_
      refine ok_ldc2 (q := 44) (x := -60) (v := -60) dX12_claim_41 rfl kc_X12_326 rfl (by decide) ?_
      refine ok_ldc2 (q := 47) (x := 60) (v := 60) dX12_claim_44 rfl kc_X12_277 rfl (by decide) ?_
      refine fi_callS1P (q := 50) (as := [ql x2, ql (-60), ql 60]) (st := []) dX12_claim_47 rfl mo_X12_164 rfl rfl (Nat.le_of_ble_eq_true rfl) (Nat.le_of_ble_eq_true rfl) (Nat.le_of_ble_eq_true rfl) (Nat.zero_le _) (Nat.zero_le _) (fun _ hr => ct_X12_isIn (N := N) hr) (fun v_3 => ?_)
      refine ok_if_eq (q := 65) (q2 := 53) dX12_claim_50 rfl rfl ?_ ?_
      · skip
        exact fun g => ok_pick [0] rfl (w_X12_claim_b65 (N := N) h0 g)
      · skip
        refine ok_iload_n (q := 54) 3 dX12_claim_53 rfl rfl rfl ?_
        refine ok_i2l (q := 55) dX12_claim_54 rfl ?_
        refine ok_lconst (q := 56) (x := 0) dX12_claim_55 rfl rfl (by decide) ?_
        refine ok_ldc2 (q := 59) (x := 100000) (v := 100000) dX12_claim_56 rfl kc_X12_328 rfl (by decide) ?_
        refine fi_callS1P (q := 62) (as := [ql x3, ql 0, ql 100000]) (st := []) dX12_claim_59 rfl mo_X12_164 rfl rfl (Nat.le_of_ble_eq_true rfl) (Nat.le_of_ble_eq_true rfl) (Nat.le_of_ble_eq_true rfl) (Nat.zero_le _) (Nat.zero_le _) (fun _ hr => ct_X12_isIn (N := N) hr) (fun v_4 => ?_)
        refine ok_if_ne (q := 72) (q2 := 65) dX12_claim_62 rfl rfl ?_ ?_
        · skip
          refine ok_aload_n (q := 73) 0 dX12_claim_72 rfl rfl rfl ?_
          refine ok_getR (q := 76) (ci := 12) (k := 27) (x := F a0 27) dX12_claim_73 rfl fo_X12_39 h0 rfl ?_
          refine ok_iload_n (q := 77) 1 dX12_claim_76 rfl rfl rfl ?_
          refine ok_iload_n (q := 78) 2 dX12_claim_77 rfl rfl rfl ?_
          refine fi_chk (fun h_5 => ?_)
          refine fi_chk (fun h_6 => ?_)
          refine fi_chk (fun h_7 => ?_)
          refine ok_iastore (q := 79) dX12_claim_78 rfl h_5 h_6 h_7.1 h_7.2 (fun I_8 => ?_)
          refine ok_aload_n (q := 80) 0 dX12_claim_79 rfl rfl rfl ?_
          refine ok_getR (q := 83) (ci := 12) (k := 28) (x := F a0 28) dX12_claim_80 rfl fo_X12_42 h0 rfl ?_
          refine ok_iload_n (q := 84) 1 dX12_claim_83 rfl rfl rfl ?_
          refine ok_iload_n (q := 85) 3 dX12_claim_84 rfl rfl rfl ?_
          refine fi_chk (fun h_9 => ?_)
          refine fi_chk (fun h_10 => ?_)
          refine fi_chk (fun h_11 => ?_)
          refine ok_iastore (q := 86) dX12_claim_85 rfl h_9 h_10 h_11.1 h_11.2 (fun I_12 => ?_)
          refine ok_aload_n (q := 87) 0 dX12_claim_86 rfl rfl rfl ?_
          refine ok_iload_n (q := 88) 1 dX12_claim_87 rfl rfl rfl ?_
          refine fi_callV1S (q := 91) (as := [qi x1]) (st := []) dX12_claim_88 rfl mo_X12_268 h0 rfl (Nat.le_of_ble_eq_true rfl) rfl rfl (Nat.le_of_ble_eq_true rfl) (Nat.le_of_ble_eq_true rfl) (Nat.le_of_ble_eq_true rfl) (Nat.zero_le _) (Nat.zero_le _) (fun _ hr => ct_X12_ok (N := N) h0 hr) (fun v_13 I_14 => ?_)
          exact fi_ireturnS dX12_claim_91 rfl
        · skip
          exact fun g => ok_pick [0] rfl (w_X12_claim_b65 (N := N) h0 g)
    · skip
      refine ok_aload_n (q := 34) 0 dX12_claim_33 rfl rfl rfl ?_
      refine ok_iconst (q := 35) (x := 3) dX12_claim_34 rfl rfl (by decide) ?_
      refine fi_callV1S (q := 38) (as := [qi 3]) (st := []) dX12_claim_35 rfl mo_X12_265 h0 rfl (Nat.le_of_ble_eq_true rfl) rfl rfl (Nat.le_of_ble_eq_true rfl) (Nat.le_of_ble_eq_true rfl) (Nat.le_of_ble_eq_true rfl) (Nat.zero_le _) (Nat.zero_le _) (fun _ hr => ct_X12_no (N := N) h0 hr) (fun v_15 I_16 => ?_)
      exact fi_ireturnS dX12_claim_38 rfl
  · skip
    refine ok_aload_n (q := 8) 0 dX12_claim_7 rfl rfl rfl ?_
    refine ok_bipush (q := 10) (x := 9) dX12_claim_8 rfl rfl (by decide) ?_
    refine fi_callV1S (q := 13) (as := [qi 9]) (st := []) dX12_claim_10 rfl mo_X12_265 h0 rfl (Nat.le_of_ble_eq_true rfl) rfl rfl (Nat.le_of_ble_eq_true rfl) (Nat.le_of_ble_eq_true rfl) (Nat.le_of_ble_eq_true rfl) (Nat.zero_le _) (Nat.zero_le _) (fun _ hr => ct_X12_no (N := N) h0 hr) (fun v_17 I_18 => ?_)
    exact fi_ireturnS dX12_claim_13 rfl
theorem ct_X12_claim {η : am_E} {l : Launch} {N : Nat} {n : Nat} {K : am_K} {I : am_I} {F : am_F} {a0 : Nat} {r0 : Int × am_I} {x1 : Int} {x2 : Int} {x3 : Int} (h0 : (K a0).1 = 12) : X12_claim N K F a0 I x1 x2 x3 = some r0 → am_Ct η l yX12_claim cX12_claim 4 (some .int) 3 66 0 0 [qr a0, qi x1, qi x2, qi x3] n K I F (am_pS 1 r0 n K F) := fun g => am_Ct.of false (by decide) (by decide) (Nat.le_of_ble_eq_true rfl) (fun _ => w_X12_claim (N := N) h0 g)
