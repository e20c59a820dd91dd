def M_X12_store : am_M := (yX12_store.cls, cX12_store, 3, (some .int), am_room 1 25 0 0, false)
def X12_store (N : Nat) (K : am_K) (F : am_F) (a0 : Nat) (I : am_I) (x1 : Int) (x2 : Int) : Option (Int × am_I) :=
  am_cq (X12_isIn N K F I x1 0 1) (fun v_1 => if v_1 = 0 then (am_cl (X12_no N K F a0 I 3) (fun v_12 I_13 => some (v_12, I_13))) else (am_cq (X12_isIn N K F I x2 0 1000) (fun v_2 => if v_2 = 0 then (am_cl (X12_no N K F a0 I 7) (fun v_10 I_11 => some (v_10, I_11))) else (if (K (F a0 4)).1 = 100 then if F a0 4 ≠ 1 then if (0 : Int) ≤ x1 ∧ x1 < (K (F a0 4)).2 then am_lt (am_u2 I (F a0 4) x1 x2) (fun I_6 => am_cl (X12_forget N K F a0 I_6) (fun _ I_7 => am_cl (X12_ok N K F a0 I_7 x2) (fun v_8 I_9 => some (v_8, I_9)))) else none else none else none))))
theorem w_X12_store {η : am_E} {l : Launch} {N : Nat} {n : Nat} {K : am_K} {I : am_I} {F : am_F} {a0 : Nat} {r0 : Int × am_I} {x1 : Int} {x2 : Int} (h0 : (K a0).1 = 12) : X12_store N K F a0 I x1 x2 = some r0 → Ok η l M_X12_store (am_qm η (am_pS 1 r0 n K F) 0 0) 0 [(0, qr a0), (1, qi x1), (2, qi x2)] [] n K I F 0 0 := by
  unfold X12_store
  refine ok_iload_n (q := 1) 1 dX12_store_0 rfl rfl rfl ?_
  refine ok_i2l (q := 2) dX12_store_1 rfl ?_
  refine ok_lconst (q := 3) (x := 0) dX12_store_2 rfl rfl (by decide) ?_
  refine ok_lconst (q := 4) (x := 1) dX12_store_3 rfl rfl (by decide) ?_
  refine fi_callS1P (q := 7) (as := [ql x1, ql 0, ql 1]) (st := []) dX12_store_4 rfl mo_X12_164 rfl rfl (Nat.le_of_ble_eq_true rfl) (Nat.le_of_ble_eq_true rfl) (Nat.le_of_ble_eq_true rfl) (Nat.zero_le _) (Nat.zero_le _) (fun _ hr => ct_X12_isIn (N := N) hr) (fun v_1 => ?_)
  refine ok_if_ne (q := 16) (q2 := 10) dX12_store_7 rfl rfl ?_ ?_
  · skip
    refine ok_iload_n (q := 17) 2 dX12_store_16 rfl rfl rfl ?_
    refine ok_i2l (q := 18) dX12_store_17 rfl ?_
    refine ok_lconst (q := 19) (x := 0) dX12_store_18 rfl rfl (by decide) ?_
    refine ok_ldc2 (q := 22) (x := 1000) (v := 1000) dX12_store_19 rfl kc_X12_279 rfl (by decide) ?_
    refine fi_callS1P (q := 25) (as := [ql x2, ql 0, ql 1000]) (st := []) dX12_store_22 rfl mo_X12_164 rfl rfl (Nat.le_of_ble_eq_true rfl) (Nat.le_of_ble_eq_true rfl) (Nat.le_of_ble_eq_true rfl) (Nat.zero_le _) (Nat.zero_le _) (fun _ hr => ct_X12_isIn (N := N) hr) (fun v_2 => ?_)
    refine ok_if_ne (q := 35) (q2 := 28) dX12_store_25 rfl rfl ?_ ?_
    · skip
      refine ok_aload_n (q := 36) 0 dX12_store_35 rfl rfl rfl ?_
      refine ok_getR (q := 39) (ci := 12) (k := 4) (x := F a0 4) dX12_store_36 rfl fo_X12_17 h0 rfl ?_
      refine ok_iload_n (q := 40) 1 dX12_store_39 rfl rfl rfl ?_
      refine ok_iload_n (q := 41) 2 dX12_store_40 rfl rfl rfl ?_
      refine fi_chk (fun h_3 => ?_)
      refine fi_chk (fun h_4 => ?_)
      refine fi_chk (fun h_5 => ?_)
      refine ok_iastore (q := 42) dX12_store_41 rfl h_3 h_4 h_5.1 h_5.2 (fun I_6 => ?_)
      refine ok_aload_n (q := 43) 0 dX12_store_42 rfl rfl rfl ?_
      refine fi_callV0S (q := 46) (as := []) (st := []) dX12_store_43 rfl mo_X12_248 h0 rfl (Nat.le_of_ble_eq_true rfl) rfl rfl (Nat.le_of_ble_eq_true rfl) (Nat.le_of_ble_eq_true rfl) (Nat.le_of_ble_eq_true rfl) (Nat.zero_le _) (Nat.zero_le _) (fun _ hr => ct_X12_forget (N := N) h0 hr) (fun _ I_7 => ?_)
      refine ok_aload_n (q := 47) 0 dX12_store_46 rfl rfl rfl ?_
      refine ok_iload_n (q := 48) 2 dX12_store_47 rfl rfl rfl ?_
      refine fi_callV1S (q := 51) (as := [qi x2]) (st := []) dX12_store_48 rfl mo_X12_268 h0 rfl (Nat.le_of_ble_eq_true rfl) rfl rfl (Nat.le_of_ble_eq_true rfl) (Nat.le_of_ble_eq_true rfl) (Nat.le_of_ble_eq_true rfl) (Nat.zero_le _) (Nat.zero_le _) (fun _ hr => ct_X12_ok (N := N) h0 hr) (fun v_8 I_9 => ?_)
      exact fi_ireturnS dX12_store_51 rfl
    · skip
      refine ok_aload_n (q := 29) 0 dX12_store_28 rfl rfl rfl ?_
      refine ok_bipush (q := 31) (x := 7) dX12_store_29 rfl rfl (by decide) ?_
      refine fi_callV1S (q := 34) (as := [qi 7]) (st := []) dX12_store_31 rfl mo_X12_265 h0 rfl (Nat.le_of_ble_eq_true rfl) rfl rfl (Nat.le_of_ble_eq_true rfl) (Nat.le_of_ble_eq_true rfl) (Nat.le_of_ble_eq_true rfl) (Nat.zero_le _) (Nat.zero_le _) (fun _ hr => ct_X12_no (N := N) h0 hr) (fun v_10 I_11 => ?_)
      exact fi_ireturnS dX12_store_34 rfl
  · skip
    refine ok_aload_n (q := 11) 0 dX12_store_10 rfl rfl rfl ?_
    refine ok_iconst (q := 12) (x := 3) dX12_store_11 rfl rfl (by decide) ?_
    refine fi_callV1S (q := 15) (as := [qi 3]) (st := []) dX12_store_12 rfl mo_X12_265 h0 rfl (Nat.le_of_ble_eq_true rfl) rfl rfl (Nat.le_of_ble_eq_true rfl) (Nat.le_of_ble_eq_true rfl) (Nat.le_of_ble_eq_true rfl) (Nat.zero_le _) (Nat.zero_le _) (fun _ hr => ct_X12_no (N := N) h0 hr) (fun v_12 I_13 => ?_)
    exact fi_ireturnS dX12_store_15 rfl
theorem ct_X12_store {η : am_E} {l : Launch} {N : Nat} {n : Nat} {K : am_K} {I : am_I} {F : am_F} {a0 : Nat} {r0 : Int × am_I} {x1 : Int} {x2 : Int} (h0 : (K a0).1 = 12) : X12_store N K F a0 I x1 x2 = some r0 → am_Ct η l yX12_store cX12_store 3 (some .int) 1 25 0 0 [qr a0, qi x1, qi x2] n K I F (am_pS 1 r0 n K F) := fun g => am_Ct.of false (by decide) (by decide) (Nat.le_of_ble_eq_true rfl) (fun _ => w_X12_store (N := N) h0 g)
def M_X12_side : am_M := (yX12_side.cls, cX12_side, 2, (some .int), am_room 1 25 0 0, false)
def X12_side (N : Nat) (K : am_K) (F : am_F) (a0 : Nat) (I : am_I) (x1 : Int) : Option (Int × am_I) :=
  am_cq (X12_isIn N K F I x1 0 1) (fun v_1 => if v_1 = 0 then (am_cl (X12_no N K F a0 I 3) (fun v_6 I_7 => some (v_6, I_7))) else (am_lt (am_u2 I a0 5 x1) (fun I_2 => am_cl (X12_forget N K F a0 I_2) (fun _ I_3 => am_cl (X12_ok N K F a0 I_3 x1) (fun v_4 I_5 => some (v_4, I_5))))))
theorem w_X12_side {η : am_E} {l : Launch} {N : Nat} {n : Nat} {K : am_K} {I : am_I} {F : am_F} {a0 : Nat} {r0 : Int × am_I} {x1 : Int} (h0 : (K a0).1 = 12) : X12_side N K F a0 I x1 = some r0 → Ok η l M_X12_side (am_qm η (am_pS 1 r0 n K F) 0 0) 0 [(0, qr a0), (1, qi x1)] [] n K I F 0 0 := by
  unfold X12_side
  refine ok_iload_n (q := 1) 1 dX12_side_0 rfl rfl rfl ?_
  refine ok_i2l (q := 2) dX12_side_1 rfl ?_
  refine ok_lconst (q := 3) (x := 0) dX12_side_2 rfl rfl (by decide) ?_
  refine ok_lconst (q := 4) (x := 1) dX12_side_3 rfl rfl (by decide) ?_
  refine fi_callS1P (q := 7) (as := [ql x1, ql 0, ql 1]) (st := []) dX12_side_4 rfl mo_X12_164 rfl rfl (Nat.le_of_ble_eq_true rfl) (Nat.le_of_ble_eq_true rfl) (Nat.le_of_ble_eq_true rfl) (Nat.zero_le _) (Nat.zero_le _) (fun _ hr => ct_X12_isIn (N := N) hr) (fun v_1 => ?_)
  refine ok_if_ne (q := 16) (q2 := 10) dX12_side_7 rfl rfl ?_ ?_
  · skip
    refine ok_aload_n (q := 17) 0 dX12_side_16 rfl rfl rfl ?_
    refine ok_iload_n (q := 18) 1 dX12_side_17 rfl rfl rfl ?_
    refine ok_putI (q := 21) (ci := 12) (k := 5) dX12_side_18 rfl fo_X12_96 h0 ft_12_5 ff_12_5 (fun I_2 => ?_)
    refine ok_aload_n (q := 22) 0 dX12_side_21 rfl rfl rfl ?_
    refine fi_callV0S (q := 25) (as := []) (st := []) dX12_side_22 rfl mo_X12_248 h0 rfl (Nat.le_of_ble_eq_true rfl) rfl rfl (Nat.le_of_ble_eq_true rfl) (Nat.le_of_ble_eq_true rfl) (Nat.le_of_ble_eq_true rfl) (Nat.zero_le _) (Nat.zero_le _) (fun _ hr => ct_X12_forget (N := N) h0 hr) (fun _ I_3 => ?_)
    refine ok_aload_n (q := 26) 0 dX12_side_25 rfl rfl rfl ?_
    refine ok_iload_n (q := 27) 1 dX12_side_26 rfl rfl rfl ?_
    refine fi_callV1S (q := 30) (as := [qi x1]) (st := []) dX12_side_27 rfl mo_X12_268 h0 rfl (Nat.le_of_ble_eq_true rfl) rfl rfl (Nat.le_of_ble_eq_true rfl) (Nat.le_of_ble_eq_true rfl) (Nat.le_of_ble_eq_true rfl) (Nat.zero_le _) (Nat.zero_le _) (fun _ hr => ct_X12_ok (N := N) h0 hr) (fun v_4 I_5 => ?_)
    exact fi_ireturnS dX12_side_30 rfl
  · skip
    refine ok_aload_n (q := 11) 0 dX12_side_10 rfl rfl rfl ?_
    refine ok_iconst (q := 12) (x := 3) dX12_side_11 rfl rfl (by decide) ?_
    refine fi_callV1S (q := 15) (as := [qi 3]) (st := []) dX12_side_12 rfl mo_X12_265 h0 rfl (Nat.le_of_ble_eq_true rfl) rfl rfl (Nat.le_of_ble_eq_true rfl) (Nat.le_of_ble_eq_true rfl) (Nat.le_of_ble_eq_true rfl) (Nat.zero_le _) (Nat.zero_le _) (fun _ hr => ct_X12_no (N := N) h0 hr) (fun v_6 I_7 => ?_)
    exact fi_ireturnS dX12_side_15 rfl
theorem ct_X12_side {η : am_E} {l : Launch} {N : Nat} {n : Nat} {K : am_K} {I : am_I} {F : am_F} {a0 : Nat} {r0 : Int × am_I} {x1 : Int} (h0 : (K a0).1 = 12) : X12_side N K F a0 I x1 = some r0 → am_Ct η l yX12_side cX12_side 2 (some .int) 1 25 0 0 [qr a0, qi x1] n K I F (am_pS 1 r0 n K F) := fun g => am_Ct.of false (by decide) (by decide) (Nat.le_of_ble_eq_true rfl) (fun _ => w_X12_side (N := N) h0 g)
def M_X12_rule : am_M := (yX12_rule.cls, cX12_rule, 2, (some .int), am_room 2 40 0 0, false)
def X12_rule (N : Nat) (K : am_K) (F : am_F) (a0 : Nat) (I : am_I) (x1 : Int) : Option (Int × am_I) :=
  am_cq (X12_isIn N K F I x1 0 3) (fun v_1 => if v_1 = 0 then (am_cl (X12_no N K F a0 I 7) (fun v_9 I_10 => some (v_9, I_10))) else (am_lt (am_u2 I a0 6 x1) (fun I_2 => am_lt (am_u2 I_2 a0 7 10) (fun I_3 => am_lt (am_u2 I_3 a0 8 2) (fun I_4 => am_lt (am_u2 I_4 a0 9 3) (fun I_5 => am_cl (X12_otherGame N K F a0 I_5) (fun _ I_6 => am_cl (X12_ok N K F a0 I_6 (I_6 a0 6)) (fun v_7 I_8 => some (v_7, I_8)))))))))
theorem w_X12_rule {η : am_E} {l : Launch} {N : Nat} {n : Nat} {K : am_K} {I : am_I} {F : am_F} {a0 : Nat} {r0 : Int × am_I} {x1 : Int} (h0 : (K a0).1 = 12) : X12_rule N K F a0 I x1 = some r0 → Ok η l M_X12_rule (am_qm η (am_pS 1 r0 n K F) 0 0) 0 [(0, qr a0), (1, qi x1)] [] n K I F 0 0 := by
  unfold X12_rule
  refine ok_iload_n (q := 1) 1 dX12_rule_0 rfl rfl rfl ?_
  refine ok_i2l (q := 2) dX12_rule_1 rfl ?_
  refine ok_lconst (q := 3) (x := 0) dX12_rule_2 rfl rfl (by decide) ?_
  refine ok_ldc2 (q := 6) (x := 3) (v := 3) dX12_rule_3 rfl kc_X12_281 rfl (by decide) ?_
  refine fi_callS1P (q := 9) (as := [ql x1, ql 0, ql 3]) (st := []) dX12_rule_6 rfl mo_X12_164 rfl rfl (Nat.le_of_ble_eq_true rfl) (Nat.le_of_ble_eq_true rfl) (Nat.le_of_ble_eq_true rfl) (Nat.zero_le _) (Nat.zero_le _) (fun _ hr => ct_X12_isIn (N := N) hr) (fun v_1 => ?_)
  refine ok_if_ne (q := 19) (q2 := 12) dX12_rule_9 rfl rfl ?_ ?_
  · skip
    refine ok_aload_n (q := 20) 0 dX12_rule_19 rfl rfl rfl ?_
    refine ok_iload_n (q := 21) 1 dX12_rule_20 rfl rfl rfl ?_
    refine ok_putI (q := 24) (ci := 12) (k := 6) dX12_rule_21 rfl fo_X12_99 h0 ft_12_6 ff_12_6 (fun I_2 => ?_)
    refine ok_aload_n (q := 25) 0 dX12_rule_24 rfl rfl rfl ?_
    refine ok_bipush (q := 27) (x := 10) dX12_rule_25 rfl rfl (by decide) ?_
    refine ok_putI (q := 30) (ci := 12) (k := 7) dX12_rule_27 rfl fo_X12_102 h0 ft_12_7 ff_12_7 (fun I_3 => ?_)
    refine ok_aload_n (q := 31) 0 dX12_rule_30 rfl rfl rfl ?_
    refine ok_iconst (q := 32) (x := 2) dX12_rule_31 rfl rfl (by decide) ?_
    refine ok_putI (q := 35) (ci := 12) (k := 8) dX12_rule_32 rfl fo_X12_105 h0 ft_12_8 ff_12_8 (fun I_4 => ?_)
    refine ok_aload_n (q := 36) 0 dX12_rule_35 rfl rfl rfl ?_
    refine ok_iconst (q := 37) (x := 3) dX12_rule_36 rfl rfl (by decide) ?_
    refine ok_putI (q := 40) (ci := 12) (k := 9) dX12_rule_37 rfl fo_X12_108 h0 ft_12_9 ff_12_9 (fun I_5 => ?_)
    refine ok_aload_n (q := 41) 0 dX12_rule_40 rfl rfl rfl ?_
    refine fi_callV0S (q := 44) (as := []) (st := []) dX12_rule_41 rfl mo_X12_274 h0 rfl (Nat.le_of_ble_eq_true rfl) rfl rfl (Nat.le_of_ble_eq_true rfl) (Nat.le_of_ble_eq_true rfl) (Nat.le_of_ble_eq_true rfl) (Nat.zero_le _) (Nat.zero_le _) (fun _ hr => ct_X12_otherGame (N := N) h0 hr) (fun _ I_6 => ?_)
    refine ok_aload_n (q := 45) 0 dX12_rule_44 rfl rfl rfl ?_
    refine ok_aload_n (q := 46) 0 dX12_rule_45 rfl rfl rfl ?_
    refine ok_getI (q := 49) (ci := 12) (k := 6) (x := I_6 a0 6) dX12_rule_46 rfl fo_X12_99 h0 rfl ?_
    refine fi_callV1S (q := 52) (as := [qi (I_6 a0 6)]) (st := []) dX12_rule_49 rfl mo_X12_268 h0 rfl (Nat.le_of_ble_eq_true rfl) rfl rfl (Nat.le_of_ble_eq_true rfl) (Nat.le_of_ble_eq_true rfl) (Nat.le_of_ble_eq_true rfl) (Nat.zero_le _) (Nat.zero_le _) (fun _ hr => ct_X12_ok (N := N) h0 hr) (fun v_7 I_8 => ?_)
    exact fi_ireturnS dX12_rule_52 rfl
  · skip
    refine ok_aload_n (q := 13) 0 dX12_rule_12 rfl rfl rfl ?_
    refine ok_bipush (q := 15) (x := 7) dX12_rule_13 rfl rfl (by decide) ?_
    refine fi_callV1S (q := 18) (as := [qi 7]) (st := []) dX12_rule_15 rfl mo_X12_265 h0 rfl (Nat.le_of_ble_eq_true rfl) rfl rfl (Nat.le_of_ble_eq_true rfl) (Nat.le_of_ble_eq_true rfl) (Nat.le_of_ble_eq_true rfl) (Nat.zero_le _) (Nat.zero_le _) (fun _ hr => ct_X12_no (N := N) h0 hr) (fun v_9 I_10 => ?_)
    exact fi_ireturnS dX12_rule_18 rfl
theorem ct_X12_rule {η : am_E} {l : Launch} {N : Nat} {n : Nat} {K : am_K} {I : am_I} {F : am_F} {a0 : Nat} {r0 : Int × am_I} {x1 : Int} (h0 : (K a0).1 = 12) : X12_rule N K F a0 I x1 = some r0 → am_Ct η l yX12_rule cX12_rule 2 (some .int) 2 40 0 0 [qr a0, qi x1] n K I F (am_pS 1 r0 n K F) := fun g => am_Ct.of false (by decide) (by decide) (Nat.le_of_ble_eq_true rfl) (fun _ => w_X12_rule (N := N) h0 g)
def M_X12_rounds : am_M := (yX12_rounds.cls, cX12_rounds, 2, (some .int), am_room 2 40 0 0, false)
def X12_rounds (N : Nat) (K : am_K) (F : am_F) (a0 : Nat) (I : am_I) (x1 : Int) : Option (Int × am_I) :=
  am_cq (X12_isIn N K F I x1 1 50) (fun v_1 => if v_1 = 0 then (am_cl (X12_no N K F a0 I 7) (fun v_8 I_9 => some (v_8, I_9))) else (if (I a0 6) = 1 then (am_lt (am_u2 I a0 7 x1) (fun I_2 => am_cl (X12_otherGame N K F a0 I_2) (fun _ I_3 => am_cl (X12_ok N K F a0 I_3 x1) (fun v_4 I_5 => some (v_4, I_5))))) else (am_cl (X12_no N K F a0 I 4) (fun v_6 I_7 => some (v_6, I_7)))))
theorem w_X12_rounds {η : am_E} {l : Launch} {N : Nat} {n : Nat} {K : am_K} {I : am_I} {F : am_F} {a0 : Nat} {r0 : Int × am_I} {x1 : Int} (h0 : (K a0).1 = 12) : X12_rounds N K F a0 I x1 = some r0 → Ok η l M_X12_rounds (am_qm η (am_pS 1 r0 n K F) 0 0) 0 [(0, qr a0), (1, qi x1)] [] n K I F 0 0 := by
  unfold X12_rounds
  refine ok_iload_n (q := 1) 1 dX12_rounds_0 rfl rfl rfl ?_
  refine ok_i2l (q := 2) dX12_rounds_1 rfl ?_
  refine ok_lconst (q := 3) (x := 1) dX12_rounds_2 rfl rfl (by decide) ?_
  refine ok_ldc2 (q := 6) (x := 50) (v := 50) dX12_rounds_3 rfl kc_X12_283 rfl (by decide) ?_
  refine fi_callS1P (q := 9) (as := [ql x1, ql 1, ql 50]) (st := []) dX12_rounds_6 rfl mo_X12_164 rfl rfl (Nat.le_of_ble_eq_true rfl) (Nat.le_of_ble_eq_true rfl) (Nat.le_of_ble_eq_true rfl) (Nat.zero_le _) (Nat.zero_le _) (fun _ hr => ct_X12_isIn (N := N) hr) (fun v_1 => ?_)
  refine ok_if_ne (q := 19) (q2 := 12) dX12_rounds_9 rfl rfl ?_ ?_
  · skip
    refine ok_aload_n (q := 20) 0 dX12_rounds_19 rfl rfl rfl ?_
    refine ok_getI (q := 23) (ci := 12) (k := 6) (x := I a0 6) dX12_rounds_20 rfl fo_X12_99 h0 rfl ?_
    refine ok_iconst (q := 24) (x := 1) dX12_rounds_23 rfl rfl (by decide) ?_
    refine ok_icmp_eq (q := 33) (q2 := 27) dX12_rounds_24 rfl rfl ?_ ?_
    · skip
      refine ok_aload_n (q := 34) 0 dX12_rounds_33 rfl rfl rfl ?_
      refine ok_iload_n (q := 35) 1 dX12_rounds_34 rfl rfl rfl ?_
      refine ok_putI (q := 38) (ci := 12) (k := 7) dX12_rounds_35 rfl fo_X12_102 h0 ft_12_7 ff_12_7 (fun I_2 => ?_)
      refine ok_aload_n (q := 39) 0 dX12_rounds_38 rfl rfl rfl ?_
      refine fi_callV0S (q := 42) (as := []) (st := []) dX12_rounds_39 rfl mo_X12_274 h0 rfl (Nat.le_of_ble_eq_true rfl) rfl rfl (Nat.le_of_ble_eq_true rfl) (Nat.le_of_ble_eq_true rfl) (Nat.le_of_ble_eq_true rfl) (Nat.zero_le _) (Nat.zero_le _) (fun _ hr => ct_X12_otherGame (N := N) h0 hr) (fun _ I_3 => ?_)
      refine ok_aload_n (q := 43) 0 dX12_rounds_42 rfl rfl rfl ?_
      refine ok_iload_n (q := 44) 1 dX12_rounds_43 rfl rfl rfl ?_
      refine fi_callV1S (q := 47) (as := [qi x1]) (st := []) dX12_rounds_44 rfl mo_X12_268 h0 rfl (Nat.le_of_ble_eq_true rfl) rfl rfl (Nat.le_of_ble_eq_true rfl) (Nat.le_of_ble_eq_true rfl) (Nat.le_of_ble_eq_true rfl) (Nat.zero_le _) (Nat.zero_le _) (fun _ hr => ct_X12_ok (N := N) h0 hr) (fun v_4 I_5 => ?_)
      exact fi_ireturnS dX12_rounds_47 rfl
    · skip
      refine ok_aload_n (q := 28) 0 dX12_rounds_27 rfl rfl rfl ?_
      refine ok_iconst (q := 29) (x := 4) dX12_rounds_28 rfl rfl (by decide) ?_
      refine fi_callV1S (q := 32) (as := [qi 4]) (st := []) dX12_rounds_29 rfl mo_X12_265 h0 rfl (Nat.le_of_ble_eq_true rfl) rfl rfl (Nat.le_of_ble_eq_true rfl) (Nat.le_of_ble_eq_true rfl) (Nat.le_of_ble_eq_true rfl) (Nat.zero_le _) (Nat.zero_le _) (fun _ hr => ct_X12_no (N := N) h0 hr) (fun v_6 I_7 => ?_)
      exact fi_ireturnS dX12_rounds_32 rfl
  · skip
    refine ok_aload_n (q := 13) 0 dX12_rounds_12 rfl rfl rfl ?_
    refine ok_bipush (q := 15) (x := 7) dX12_rounds_13 rfl rfl (by decide) ?_
    refine fi_callV1S (q := 18) (as := [qi 7]) (st := []) dX12_rounds_15 rfl mo_X12_265 h0 rfl (Nat.le_of_ble_eq_true rfl) rfl rfl (Nat.le_of_ble_eq_true rfl) (Nat.le_of_ble_eq_true rfl) (Nat.le_of_ble_eq_true rfl) (Nat.zero_le _) (Nat.zero_le _) (fun _ hr => ct_X12_no (N := N) h0 hr) (fun v_8 I_9 => ?_)
    exact fi_ireturnS dX12_rounds_18 rfl
theorem ct_X12_rounds {η : am_E} {l : Launch} {N : Nat} {n : Nat} {K : am_K} {I : am_I} {F : am_F} {a0 : Nat} {r0 : Int × am_I} {x1 : Int} (h0 : (K a0).1 = 12) : X12_rounds N K F a0 I x1 = some r0 → am_Ct η l yX12_rounds cX12_rounds 2 (some .int) 2 40 0 0 [qr a0, qi x1] n K I F (am_pS 1 r0 n K F) := fun g => am_Ct.of false (by decide) (by decide) (Nat.le_of_ble_eq_true rfl) (fun _ => w_X12_rounds (N := N) h0 g)
def M_X12_takes : am_M := (yX12_takes.cls, cX12_takes, 3, (some .int), am_room 2 40 0 0, false)
def X12_takes_b23 (N : Nat) (K : am_K) (F : am_F) (a0 : Nat) (I : am_I) : Option (Int × am_I) :=
  am_cl (X12_no N K F a0 I 7) (fun v_1 I_2 => some (v_1, I_2))
theorem w_X12_takes_b23 {η : am_E} {l : Launch} {N : Nat} {n : Nat} {K : am_K} {I : am_I} {F : am_F} {a0 : Nat} {r0 : Int × am_I} (h0 : (K a0).1 = 12) : X12_takes_b23 N K F a0 I = some r0 → Ok η l M_X12_takes (am_qm η (am_pS 1 r0 n K F) 0 0) 23 [(0, qr a0)] [] n K I F 0 0 := by
  unfold X12_takes_b23
  refine ok_aload_n (q := 24) 0 dX12_takes_23 rfl rfl rfl ?_
  refine ok_bipush (q := 26) (x := 7) dX12_takes_24 rfl rfl (by decide) ?_
  refine fi_callV1S (q := 29) (as := [qi 7]) (st := []) dX12_takes_26 rfl mo_X12_265 h0 rfl (Nat.le_of_ble_eq_true rfl) rfl rfl (Nat.le_of_ble_eq_true rfl) (Nat.le_of_ble_eq_true rfl) (Nat.le_of_ble_eq_true rfl) (Nat.zero_le _) (Nat.zero_le _) (fun _ hr => ct_X12_no (N := N) h0 hr) (fun v_1 I_2 => ?_)
  exact fi_ireturnS dX12_takes_29 rfl
def X12_takes (N : Nat) (K : am_K) (F : am_F) (a0 : Nat) (I : am_I) (x1 : Int) (x2 : Int) : Option (Int × am_I) :=
  am_cq (X12_isIn N K F I x2 1 20) (fun v_1 => if v_1 = 0 then (X12_takes_b23 N K F a0 I) else (am_cq (X12_isIn N K F I x1 1 x2) (fun v_2 => if v_2 = 0 then (X12_takes_b23 N K F a0 I) else (if (I a0 6) = 2 then (am_lt (am_u2 I a0 8 x1) (fun I_3 => am_lt (am_u2 I_3 a0 9 x2) (fun I_4 => am_cl (X12_otherGame N K F a0 I_4) (fun _ I_5 => am_cl (X12_ok N K F a0 I_5 (I_5 a0 9)) (fun v_6 I_7 => some (v_6, I_7)))))) else (am_cl (X12_no N K F a0 I 4) (fun v_8 I_9 => some (v_8, I_9)))))))
theorem w_X12_takes {η : am_E} {l : Launch} {N : Nat} {n : Nat} {K : am_K} {I : am_I} {F : am_F} {a0 : Nat} {r0 : Int × am_I} {x1 : Int} {x2 : Int} (h0 : (K a0).1 = 12) : X12_takes N K F a0 I x1 x2 = some r0 → Ok η l M_X12_takes (am_qm η (am_pS 1 r0 n K F) 0 0) 0 [(0, qr a0), (1, qi x1), (2, qi x2)] [] n K I F 0 0 := by
  unfold X12_takes
  refine ok_iload_n (q := 1) 2 dX12_takes_0 rfl rfl rfl ?_
  refine ok_i2l (q := 2) dX12_takes_1 rfl ?_
  refine ok_lconst (q := 3) (x := 1) dX12_takes_2 rfl rfl (by decide) ?_
  refine ok_ldc2 (q := 6) (x := 20) (v := 20) dX12_takes_3 rfl kc_X12_285 rfl (by decide) ?_
  refine fi_callS1P (q := 9) (as := [ql x2, ql 1, ql 20]) (st := []) dX12_takes_6 rfl mo_X12_164 rfl rfl (Nat.le_of_ble_eq_true rfl) (Nat.le_of_ble_eq_true rfl) (Nat.le_of_ble_eq_true rfl) (Nat.zero_le _) (Nat.zero_le _) (fun _ hr => ct_X12_isIn (N := N) hr) (fun v_1 => ?_)
  refine ok_if_eq (q := 23) (q2 := 12) dX12_takes_9 rfl rfl ?_ ?_
  · skip
    exact fun g => ok_pick [0] rfl (w_X12_takes_b23 (N := N) h0 g)
  · skip
    refine ok_iload_n (q := 13) 1 dX12_takes_12 rfl rfl rfl ?_
    refine ok_i2l (q := 14) dX12_takes_13 rfl ?_
    refine ok_lconst (q := 15) (x := 1) dX12_takes_14 rfl rfl (by decide) ?_
    refine ok_iload_n (q := 16) 2 dX12_takes_15 rfl rfl rfl ?_
    refine ok_i2l (q := 17) dX12_takes_16 rfl ?_
    refine fi_callS1P (q := 20) (as := [ql x1, ql 1, ql x2]) (st := []) dX12_takes_17 rfl mo_X12_164 rfl rfl (Nat.le_of_ble_eq_true rfl) (Nat.le_of_ble_eq_true rfl) (Nat.le_of_ble_eq_true rfl) (Nat.zero_le _) (Nat.zero_le _) (fun _ hr => ct_X12_isIn (N := N) hr) (fun v_2 => ?_)
    refine ok_if_ne (q := 30) (q2 := 23) dX12_takes_20 rfl rfl ?_ ?_
    · skip
      refine ok_aload_n (q := 31) 0 dX12_takes_30 rfl rfl rfl ?_
      refine ok_getI (q := 34) (ci := 12) (k := 6) (x := I a0 6) dX12_takes_31 rfl fo_X12_99 h0 rfl ?_
      refine ok_iconst (q := 35) (x := 2) dX12_takes_34 rfl rfl (by decide) ?_
      refine ok_icmp_eq (q := 44) (q2 := 38) dX12_takes_35 rfl rfl ?_ ?_
      · skip
        refine ok_aload_n (q := 45) 0 dX12_takes_44 rfl rfl rfl ?_
        refine ok_iload_n (q := 46) 1 dX12_takes_45 rfl rfl rfl ?_
        refine ok_putI (q := 49) (ci := 12) (k := 8) dX12_takes_46 rfl fo_X12_105 h0 ft_12_8 ff_12_8 (fun I_3 => ?_)
        refine ok_aload_n (q := 50) 0 dX12_takes_49 rfl rfl rfl ?_
        refine ok_iload_n (q := 51) 2 dX12_takes_50 rfl rfl rfl ?_
        refine ok_putI (q := 54) (ci := 12) (k := 9) dX12_takes_51 rfl fo_X12_108 h0 ft_12_9 ff_12_9 (fun I_4 => ?_)
        refine ok_aload_n (q := 55) 0 dX12_takes_54 rfl rfl rfl ?_
        refine fi_callV0S (q := 58) (as := []) (st := []) dX12_takes_55 rfl mo_X12_274 h0 rfl (Nat.le_of_ble_eq_true rfl) rfl rfl (Nat.le_of_ble_eq_true rfl) (Nat.le_of_ble_eq_true rfl) (Nat.le_of_ble_eq_true rfl) (Nat.zero_le _) (Nat.zero_le _) (fun _ hr => ct_X12_otherGame (N := N) h0 hr) (fun _ I_5 => ?_)
        refine ok_aload_n (q := 59) 0 dX12_takes_58 rfl rfl rfl ?_
        refine ok_aload_n (q := 60) 0 dX12_takes_59 rfl rfl rfl ?_
        refine ok_getI (q := 63) (ci := 12) (k := 9) (x := I_5 a0 9) dX12_takes_60 rfl fo_X12_108 h0 rfl ?_
        refine fi_callV1S (q := 66) (as := [qi (I_5 a0 9)]) (st := []) dX12_takes_63 rfl mo_X12_268 h0 rfl (Nat.le_of_ble_eq_true rfl) rfl rfl (Nat.le_of_ble_eq_true rfl) (Nat.le_of_ble_eq_true rfl) (Nat.le_of_ble_eq_true rfl) (Nat.zero_le _) (Nat.zero_le _) (fun _ hr => ct_X12_ok (N := N) h0 hr) (fun v_6 I_7 => ?_)
        exact fi_ireturnS dX12_takes_66 rfl
      · skip
        refine ok_aload_n (q := 39) 0 dX12_takes_38 rfl rfl rfl ?_
        refine ok_iconst (q := 40) (x := 4) dX12_takes_39 rfl rfl (by decide) ?_
        refine fi_callV1S (q := 43) (as := [qi 4]) (st := []) dX12_takes_40 rfl mo_X12_265 h0 rfl (Nat.le_of_ble_eq_true rfl) rfl rfl (Nat.le_of_ble_eq_true rfl) (Nat.le_of_ble_eq_true rfl) (Nat.le_of_ble_eq_true rfl) (Nat.zero_le _) (Nat.zero_le _) (fun _ hr => ct_X12_no (N := N) h0 hr) (fun v_8 I_9 => ?_)
        exact fi_ireturnS dX12_takes_43 rfl
    · skip
      exact fun g => ok_pick [0] rfl (w_X12_takes_b23 (N := N) h0 g)
theorem ct_X12_takes {η : am_E} {l : Launch} {N : Nat} {n : Nat} {K : am_K} {I : am_I} {F : am_F} {a0 : Nat} {r0 : Int × am_I} {x1 : Int} {x2 : Int} (h0 : (K a0).1 = 12) : X12_takes N K F a0 I x1 x2 = some r0 → am_Ct η l yX12_takes cX12_takes 3 (some .int) 2 40 0 0 [qr a0, qi x1, qi x2] n K I F (am_pS 1 r0 n K F) := fun g => am_Ct.of false (by decide) (by decide) (Nat.le_of_ble_eq_true rfl) (fun _ => w_X12_takes (N := N) h0 g)
def M_X12_least : am_M := (yX12_least.cls, cX12_least, 2, (some .int), am_room 2 40 0 0, false)
def X12_least (N : Nat) (K : am_K) (F : am_F) (a0 : Nat) (I : am_I) (x1 : Int) : Option (Int × am_I) :=
  am_cq (X12_isIn N K F I x1 1 4) (fun v_1 => if v_1 = 0 then (am_cl (X12_no N K F a0 I 7) (fun v_6 I_7 => some (v_6, I_7))) else (am_lt (am_u2 I a0 10 x1) (fun I_2 => am_cl (X12_otherGame N K F a0 I_2) (fun _ I_3 => am_cl (X12_ok N K F a0 I_3 x1) (fun v_4 I_5 => some (v_4, I_5))))))
theorem w_X12_least {η : am_E} {l : Launch} {N : Nat} {n : Nat} {K : am_K} {I : am_I} {F : am_F} {a0 : Nat} {r0 : Int × am_I} {x1 : Int} (h0 : (K a0).1 = 12) : X12_least N K F a0 I x1 = some r0 → Ok η l M_X12_least (am_qm η (am_pS 1 r0 n K F) 0 0) 0 [(0, qr a0), (1, qi x1)] [] n K I F 0 0 := by
  unfold X12_least
  refine ok_iload_n (q := 1) 1 dX12_least_0 rfl rfl rfl ?_
  refine ok_i2l (q := 2) dX12_least_1 rfl ?_
  refine ok_lconst (q := 3) (x := 1) dX12_least_2 rfl rfl (by decide) ?_
  refine ok_ldc2 (q := 6) (x := 4) (v := 4) dX12_least_3 rfl kc_X12_287 rfl (by decide) ?_
  refine fi_callS1P (q := 9) (as := [ql x1, ql 1, ql 4]) (st := []) dX12_least_6 rfl mo_X12_164 rfl rfl (Nat.le_of_ble_eq_true rfl) (Nat.le_of_ble_eq_true rfl) (Nat.le_of_ble_eq_true rfl) (Nat.zero_le _) (Nat.zero_le _) (fun _ hr => ct_X12_isIn (N := N) hr) (fun v_1 => ?_)
  refine ok_if_ne (q := 19) (q2 := 12) dX12_least_9 rfl rfl ?_ ?_
  · skip
    refine ok_aload_n (q := 20) 0 dX12_least_19 rfl rfl rfl ?_
    refine ok_iload_n (q := 21) 1 dX12_least_20 rfl rfl rfl ?_
    refine ok_putI (q := 24) (ci := 12) (k := 10) dX12_least_21 rfl fo_X12_111 h0 ft_12_10 ff_12_10 (fun I_2 => ?_)
    refine ok_aload_n (q := 25) 0 dX12_least_24 rfl rfl rfl ?_
    refine fi_callV0S (q := 28) (as := []) (st := []) dX12_least_25 rfl mo_X12_274 h0 rfl (Nat.le_of_ble_eq_true rfl) rfl rfl (Nat.le_of_ble_eq_true rfl) (Nat.le_of_ble_eq_true rfl) (Nat.le_of_ble_eq_true rfl) (Nat.zero_le _) (Nat.zero_le _) (fun _ hr => ct_X12_otherGame (N := N) h0 hr) (fun _ I_3 => ?_)
    refine ok_aload_n (q := 29) 0 dX12_least_28 rfl rfl rfl ?_
    refine ok_iload_n (q := 30) 1 dX12_least_29 rfl rfl rfl ?_
    refine fi_callV1S (q := 33) (as := [qi x1]) (st := []) dX12_least_30 rfl mo_X12_268 h0 rfl (Nat.le_of_ble_eq_true rfl) rfl rfl (Nat.le_of_ble_eq_true rfl) (Nat.le_of_ble_eq_true rfl) (Nat.le_of_ble_eq_true rfl) (Nat.zero_le _) (Nat.zero_le _) (fun _ hr => ct_X12_ok (N := N) h0 hr) (fun v_4 I_5 => ?_)
    exact fi_ireturnS dX12_least_33 rfl
  · skip
    refine ok_aload_n (q := 13) 0 dX12_least_12 rfl rfl rfl ?_
    refine ok_bipush (q := 15) (x := 7) dX12_least_13 rfl rfl (by decide) ?_
    refine fi_callV1S (q := 18) (as := [qi 7]) (st := []) dX12_least_15 rfl mo_X12_265 h0 rfl (Nat.le_of_ble_eq_true rfl) rfl rfl (Nat.le_of_ble_eq_true rfl) (Nat.le_of_ble_eq_true rfl) (Nat.le_of_ble_eq_true rfl) (Nat.zero_le _) (Nat.zero_le _) (fun _ hr => ct_X12_no (N := N) h0 hr) (fun v_6 I_7 => ?_)
    exact fi_ireturnS dX12_least_18 rfl
theorem ct_X12_least {η : am_E} {l : Launch} {N : Nat} {n : Nat} {K : am_K} {I : am_I} {F : am_F} {a0 : Nat} {r0 : Int × am_I} {x1 : Int} (h0 : (K a0).1 = 12) : X12_least N K F a0 I x1 = some r0 → am_Ct η l yX12_least cX12_least 2 (some .int) 2 40 0 0 [qr a0, qi x1] n K I F (am_pS 1 r0 n K F) := fun g => am_Ct.of false (by decide) (by decide) (Nat.le_of_ble_eq_true rfl) (fun _ => w_X12_least (N := N) h0 g)
def M_X12_feeding : am_M := (yX12_feeding.cls, cX12_feeding, 2, (some .int), am_room 2 40 0 0, false)
def X12_feeding_b28 (N : Nat) (K : am_K) (F : am_F) (a0 : Nat) (I : am_I) (x1 : Int) (s0 : Int) (t1 : Nat) : Option (Int × am_I) :=
  if (K t1).1 = 12 then if s0 = 0 ∨ s0 = 1 then am_lt (am_u2 I t1 11 s0) (fun I_3 => am_cl (X12_otherGame N K F a0 I_3) (fun _ I_4 => am_cl (X12_ok N K F a0 I_4 x1) (fun v_5 I_6 => some (v_5, I_6)))) else none else none
theorem w_X12_feeding_b28 {η : am_E} {l : Launch} {N : Nat} {n : Nat} {K : am_K} {I : am_I} {F : am_F} {a0 : Nat} {r0 : Int × am_I} {x1 : Int} {s0 : Int} {t1 : Nat} (h0 : (K a0).1 = 12) : X12_feeding_b28 N K F a0 I x1 s0 t1 = some r0 → Ok η l M_X12_feeding (am_qm η (am_pS 1 r0 n K F) 0 0) 28 [(0, qr a0), (1, qi x1)] [qi s0, qr t1] n K I F 0 0 := by
  unfold X12_feeding_b28
  refine fi_chk (fun h_1 => ?_)
  refine fi_chk (fun h_2 => ?_)
  refine ok_putZ (q := 31) (ci := 12) (k := 11) dX12_feeding_28 rfl fo_X12_114 h_1 ft_12_11 h_2 ff_12_11 (fun I_3 => ?_)
  refine ok_aload_n (q := 32) 0 dX12_feeding_31 rfl rfl rfl ?_
  refine fi_callV0S (q := 35) (as := []) (st := []) dX12_feeding_32 rfl mo_X12_274 h0 rfl (Nat.le_of_ble_eq_true rfl) rfl rfl (Nat.le_of_ble_eq_true rfl) (Nat.le_of_ble_eq_true rfl) (Nat.le_of_ble_eq_true rfl) (Nat.zero_le _) (Nat.zero_le _) (fun _ hr => ct_X12_otherGame (N := N) h0 hr) (fun _ I_4 => ?_)
  refine ok_aload_n (q := 36) 0 dX12_feeding_35 rfl rfl rfl ?_
  refine ok_iload_n (q := 37) 1 dX12_feeding_36 rfl rfl rfl ?_
  refine fi_callV1S (q := 40) (as := [qi x1]) (st := []) dX12_feeding_37 rfl mo_X12_268 h0 rfl (Nat.le_of_ble_eq_true rfl) rfl rfl (Nat.le_of_ble_eq_true rfl) (Nat.le_of_ble_eq_true rfl) (Nat.le_of_ble_eq_true rfl) (Nat.zero_le _) (Nat.zero_le _) (fun _ hr => ct_X12_ok (N := N) h0 hr) (fun v_5 I_6 => ?_)
  exact fi_ireturnS dX12_feeding_40 rfl
def X12_feeding (N : Nat) (K : am_K) (F : am_F) (a0 : Nat) (I : am_I) (x1 : Int) : Option (Int × am_I) :=
  am_cq (X12_isIn N K F I x1 0 1) (fun v_1 => if v_1 = 0 then (am_cl (X12_no N K F a0 I 7) (fun v_2 I_3 => some (v_2, I_3))) else (if x1 = 1 then (X12_feeding_b28 N K F a0 I x1 1 a0) else (X12_feeding_b28 N K F a0 I x1 0 a0)))
theorem w_X12_feeding {η : am_E} {l : Launch} {N : Nat} {n : Nat} {K : am_K} {I : am_I} {F : am_F} {a0 : Nat} {r0 : Int × am_I} {x1 : Int} (h0 : (K a0).1 = 12) : X12_feeding N K F a0 I x1 = some r0 → Ok η l M_X12_feeding (am_qm η (am_pS 1 r0 n K F) 0 0) 0 [(0, qr a0), (1, qi x1)] [] n K I F 0 0 := by
  unfold X12_feeding
  refine ok_iload_n (q := 1) 1 dX12_feeding_0 rfl rfl rfl ?_
  refine ok_i2l (q := 2) dX12_feeding_1 rfl ?_
  refine ok_lconst (q := 3) (x := 0) dX12_feeding_2 rfl rfl (by decide) ?_
  refine ok_lconst (q := 4) (x := 1) dX12_feeding_3 rfl rfl (by decide) ?_
  refine fi_callS1P (q := 7) (as := [ql x1, ql 0, ql 1]) (st := []) dX12_feeding_4 rfl mo_X12_164 rfl rfl (Nat.le_of_ble_eq_true rfl) (Nat.le_of_ble_eq_true rfl) (Nat.le_of_ble_eq_true rfl) (Nat.zero_le _) (Nat.zero_le _) (fun _ hr => ct_X12_isIn (N := N) hr) (fun v_1 => ?_)
  refine ok_if_ne (q := 17) (q2 := 10) dX12_feeding_7 rfl rfl ?_ ?_
  · skip
    refine ok_aload_n (q := 18) 0 dX12_feeding_17 rfl rfl rfl ?_
    refine ok_iload_n (q := 19) 1 dX12_feeding_18 rfl rfl rfl ?_
    refine ok_iconst (q := 20) (x := 1) dX12_feeding_19 rfl rfl (by decide) ?_
    refine ok_icmp_ne (q := 27) (q2 := 23) dX12_feeding_20 rfl rfl ?_ ?_
    · skip
      refine ok_iconst (q := 28) (x := 0) dX12_feeding_27 rfl rfl (by decide) ?_
      exact fun g => ok_pick [0, 1] rfl (w_X12_feeding_b28 (N := N) h0 g)
    · skip
      refine ok_iconst (q := 24) (x := 1) dX12_feeding_23 rfl rfl (by decide) ?_
      refine ok_goto (q := 28) dX12_feeding_24 rfl ?_
      exact fun g => ok_pick [0, 1] rfl (w_X12_feeding_b28 (N := N) h0 g)
  · skip
    refine ok_aload_n (q := 11) 0 dX12_feeding_10 rfl rfl rfl ?_
    refine ok_bipush (q := 13) (x := 7) dX12_feeding_11 rfl rfl (by decide) ?_
    refine fi_callV1S (q := 16) (as := [qi 7]) (st := []) dX12_feeding_13 rfl mo_X12_265 h0 rfl (Nat.le_of_ble_eq_true rfl) rfl rfl (Nat.le_of_ble_eq_true rfl) (Nat.le_of_ble_eq_true rfl) (Nat.le_of_ble_eq_true rfl) (Nat.zero_le _) (Nat.zero_le _) (fun _ hr => ct_X12_no (N := N) h0 hr) (fun v_2 I_3 => ?_)
    exact fi_ireturnS dX12_feeding_16 rfl
theorem ct_X12_feeding {η : am_E} {l : Launch} {N : Nat} {n : Nat} {K : am_K} {I : am_I} {F : am_F} {a0 : Nat} {r0 : Int × am_I} {x1 : Int} (h0 : (K a0).1 = 12) : X12_feeding N K F a0 I x1 = some r0 → am_Ct η l yX12_feeding cX12_feeding 2 (some .int) 2 40 0 0 [qr a0, qi x1] n K I F (am_pS 1 r0 n K F) := fun g => am_Ct.of false (by decide) (by decide) (Nat.le_of_ble_eq_true rfl) (fun _ => w_X12_feeding (N := N) h0 g)
def M_X12_ends : am_M := (yX12_ends.cls, cX12_ends, 2, (some .int), am_room 2 40 0 0, false)
def X12_ends (N : Nat) (K : am_K) (F : am_F) (a0 : Nat) (I : am_I) (x1 : Int) : Option (Int × am_I) :=
  am_cq (X12_isIn N K F I x1 0 2) (fun v_1 => if v_1 = 0 then (am_cl (X12_no N K F a0 I 7) (fun v_6 I_7 => some (v_6, I_7))) else (am_lt (am_u2 I a0 12 x1) (fun I_2 => am_cl (X12_otherGame N K F a0 I_2) (fun _ I_3 => am_cl (X12_ok N K F a0 I_3 x1) (fun v_4 I_5 => some (v_4, I_5))))))
theorem w_X12_ends {η : am_E} {l : Launch} {N : Nat} {n : Nat} {K : am_K} {I : am_I} {F : am_F} {a0 : Nat} {r0 : Int × am_I} {x1 : Int} (h0 : (K a0).1 = 12) : X12_ends N K F a0 I x1 = some r0 → Ok η l M_X12_ends (am_qm η (am_pS 1 r0 n K F) 0 0) 0 [(0, qr a0), (1, qi x1)] [] n K I F 0 0 := by
  unfold X12_ends
  refine ok_iload_n (q := 1) 1 dX12_ends_0 rfl rfl rfl ?_
  refine ok_i2l (q := 2) dX12_ends_1 rfl ?_
  refine ok_lconst (q := 3) (x := 0) dX12_ends_2 rfl rfl (by decide) ?_
  refine ok_ldc2 (q := 6) (x := 2) (v := 2) dX12_ends_3 rfl kc_X12_187 rfl (by decide) ?_
  refine fi_callS1P (q := 9) (as := [ql x1, ql 0, ql 2]) (st := []) dX12_ends_6 rfl mo_X12_164 rfl rfl (Nat.le_of_ble_eq_true rfl) (Nat.le_of_ble_eq_true rfl) (Nat.le_of_ble_eq_true rfl) (Nat.zero_le _) (Nat.zero_le _) (fun _ hr => ct_X12_isIn (N := N) hr) (fun v_1 => ?_)
  refine ok_if_ne (q := 19) (q2 := 12) dX12_ends_9 rfl rfl ?_ ?_
  · skip
    refine ok_aload_n (q := 20) 0 dX12_ends_19 rfl rfl rfl ?_
    refine ok_iload_n (q := 21) 1 dX12_ends_20 rfl rfl rfl ?_
    refine ok_putI (q := 24) (ci := 12) (k := 12) dX12_ends_21 rfl fo_X12_118 h0 ft_12_12 ff_12_12 (fun I_2 => ?_)
    refine ok_aload_n (q := 25) 0 dX12_ends_24 rfl rfl rfl ?_
    refine fi_callV0S (q := 28) (as := []) (st := []) dX12_ends_25 rfl mo_X12_274 h0 rfl (Nat.le_of_ble_eq_true rfl) rfl rfl (Nat.le_of_ble_eq_true rfl) (Nat.le_of_ble_eq_true rfl) (Nat.le_of_ble_eq_true rfl) (Nat.zero_le _) (Nat.zero_le _) (fun _ hr => ct_X12_otherGame (N := N) h0 hr) (fun _ I_3 => ?_)
    refine ok_aload_n (q := 29) 0 dX12_ends_28 rfl rfl rfl ?_
    refine ok_iload_n (q := 30) 1 dX12_ends_29 rfl rfl rfl ?_
    refine fi_callV1S (q := 33) (as := [qi x1]) (st := []) dX12_ends_30 rfl mo_X12_268 h0 rfl (Nat.le_of_ble_eq_true rfl) rfl rfl (Nat.le_of_ble_eq_true rfl) (Nat.le_of_ble_eq_true rfl) (Nat.le_of_ble_eq_true rfl) (Nat.zero_le _) (Nat.zero_le _) (fun _ hr => ct_X12_ok (N := N) h0 hr) (fun v_4 I_5 => ?_)
    exact fi_ireturnS dX12_ends_33 rfl
  · skip
    refine ok_aload_n (q := 13) 0 dX12_ends_12 rfl rfl rfl ?_
    refine ok_bipush (q := 15) (x := 7) dX12_ends_13 rfl rfl (by decide) ?_
    refine fi_callV1S (q := 18) (as := [qi 7]) (st := []) dX12_ends_15 rfl mo_X12_265 h0 rfl (Nat.le_of_ble_eq_true rfl) rfl rfl (Nat.le_of_ble_eq_true rfl) (Nat.le_of_ble_eq_true rfl) (Nat.le_of_ble_eq_true rfl) (Nat.zero_le _) (Nat.zero_le _) (fun _ hr => ct_X12_no (N := N) h0 hr) (fun v_6 I_7 => ?_)
    exact fi_ireturnS dX12_ends_18 rfl
theorem ct_X12_ends {η : am_E} {l : Launch} {N : Nat} {n : Nat} {K : am_K} {I : am_I} {F : am_F} {a0 : Nat} {r0 : Int × am_I} {x1 : Int} (h0 : (K a0).1 = 12) : X12_ends N K F a0 I x1 = some r0 → am_Ct η l yX12_ends cX12_ends 2 (some .int) 2 40 0 0 [qr a0, qi x1] n K I F (am_pS 1 r0 n K F) := fun g => am_Ct.of false (by decide) (by decide) (Nat.le_of_ble_eq_true rfl) (fun _ => w_X12_ends (N := N) h0 g)
def M_X12_move : am_M := (yX12_move.cls, cX12_move, 5, (some .int), am_room 5 120 0 0, false)
def X12_move_b142 (N : Nat) (K : am_K) (F : am_F) (a0 : Nat) (I : am_I) (s0 : Int) : Option (Int × am_I) :=
  some (s0, I)
theorem w_X12_move_b142 {η : am_E} {l : Launch} {N : Nat} {n : Nat} {K : am_K} {I : am_I} {F : am_F} {a0 : Nat} {r0 : Int × am_I} {s0 : Int} (h0 : (K a0).1 = 12) : X12_move_b142 N K F a0 I s0 = some r0 → Ok η l M_X12_move (am_qm η (am_pS 1 r0 n K F) 0 0) 142 [(0, qr a0)] [qi s0] n K I F 0 0 := by
  unfold X12_move_b142
  exact fi_ireturnS dX12_move_142 rfl
def X12_move_b120 (N : Nat) (K : am_K) (F : am_F) (a0 : Nat) (I : am_I) (x3 : Int) (x4 : Int) : Option (Int × am_I) :=
  if 0 < x3 then (am_cl (X12_no N K F a0 I x3) (fun v_5 I_6 => X12_move_b142 N K F a0 I_6 v_5)) else (am_cl (X12_moveFrom N K F a0 I x4) (fun v_1 I_2 => am_cl (X12_ok N K F a0 I_2 v_1) (fun v_3 I_4 => X12_move_b142 N K F a0 I_4 v_3)))
theorem w_X12_move_b120 {η : am_E} {l : Launch} {N : Nat} {n : Nat} {K : am_K} {I : am_I} {F : am_F} {a0 : Nat} {r0 : Int × am_I} {x3 : Int} {x4 : Int} (h0 : (K a0).1 = 12) : X12_move_b120 N K F a0 I x3 x4 = some r0 → Ok η l M_X12_move (am_qm η (am_pS 1 r0 n K F) 0 0) 120 [(0, qr a0), (3, qi x3), (4, qi x4)] [] n K I F 0 0 := by
  unfold X12_move_b120
  refine ok_iload_n (q := 121) 1 dX12_move_120 rfl rfl rfl ?_
  refine ok_if_le (q := 132) (q2 := 124) dX12_move_121 rfl rfl ?_ ?_
  · skip
    refine ok_aload_n (q := 133) 0 dX12_move_132 rfl rfl rfl ?_
    refine ok_aload_n (q := 134) 0 dX12_move_133 rfl rfl rfl ?_
    refine ok_iload (q := 136) 2 dX12_move_134 rfl rfl ?_
    refine fi_callV1S (q := 139) (as := [qi x4]) (st := [qr a0]) dX12_move_136 rfl mo_X12_289 h0 rfl (Nat.le_of_ble_eq_true rfl) rfl rfl (Nat.le_of_ble_eq_true rfl) (Nat.le_of_ble_eq_true rfl) (Nat.le_of_ble_eq_true rfl) (Nat.zero_le _) (Nat.zero_le _) (fun _ hr => ct_X12_moveFrom (N := N) h0 hr) (fun v_1 I_2 => ?_)
    refine fi_callV1S (q := 142) (as := [qi v_1]) (st := []) dX12_move_139 rfl mo_X12_268 h0 rfl (Nat.le_of_ble_eq_true rfl) rfl rfl (Nat.le_of_ble_eq_true rfl) (Nat.le_of_ble_eq_true rfl) (Nat.le_of_ble_eq_true rfl) (Nat.zero_le _) (Nat.zero_le _) (fun _ hr => ct_X12_ok (N := N) h0 hr) (fun v_3 I_4 => ?_)
    exact fun g => ok_pick [0] rfl (w_X12_move_b142 (N := N) h0 g)
  · skip
    refine ok_aload_n (q := 125) 0 dX12_move_124 rfl rfl rfl ?_
    refine ok_iload_n (q := 126) 1 dX12_move_125 rfl rfl rfl ?_
    refine fi_callV1S (q := 129) (as := [qi x3]) (st := []) dX12_move_126 rfl mo_X12_265 h0 rfl (Nat.le_of_ble_eq_true rfl) rfl rfl (Nat.le_of_ble_eq_true rfl) (Nat.le_of_ble_eq_true rfl) (Nat.le_of_ble_eq_true rfl) (Nat.zero_le _) (Nat.zero_le _) (fun _ hr => ct_X12_no (N := N) h0 hr) (fun v_5 I_6 => ?_)
    refine ok_goto (q := 142) dX12_move_129 rfl ?_
    exact fun g => ok_pick [0] rfl (w_X12_move_b142 (N := N) h0 g)
def X12_move_b119 (N : Nat) (K : am_K) (F : am_F) (a0 : Nat) (I : am_I) (x4 : Int) (s0 : Int) : Option (Int × am_I) :=
  X12_move_b120 N K F a0 I s0 x4
theorem w_X12_move_b119 {η : am_E} {l : Launch} {N : Nat} {n : Nat} {K : am_K} {I : am_I} {F : am_F} {a0 : Nat} {r0 : Int × am_I} {x4 : Int} {s0 : Int} (h0 : (K a0).1 = 12) : X12_move_b119 N K F a0 I x4 s0 = some r0 → Ok η l M_X12_move (am_qm η (am_pS 1 r0 n K F) 0 0) 119 [(0, qr a0), (4, qi x4)] [qi s0] n K I F 0 0 := by
  unfold X12_move_b119
  refine ok_istore_n (q := 120) (ls' := [(3, qi s0), (0, qr a0), (4, qi x4)]) dX12_move_119 rfl rfl (Nat.le_of_ble_eq_true rfl) rfl ?_
  exact fun g => ok_pick [1, 0, 2] rfl (w_X12_move_b120 (N := N) h0 g)
def X12_move_b83 (N : Nat) (K : am_K) (F : am_F) (a0 : Nat) (I : am_I) (x3 : Int) (x4 : Int) : Option (Int × am_I) :=
  if x3 = 0 then (am_cl (X12_mayMove N K F a0 I (F a0 3) (I a0 5) (F a0 35)) (fun v_1 I_2 => if (K (F a0 35)).1 = 101 then if (0 : Int) ≤ x4 ∧ x4 < (K (F a0 35)).2 then if (I_2 (F a0 35) x4) = 0 then (X12_move_b119 N K F a0 I_2 x4 5) else (X12_move_b119 N K F a0 I_2 x4 0) else none else none)) else (X12_move_b120 N K F a0 I x3 x4)
theorem w_X12_move_b83 {η : am_E} {l : Launch} {N : Nat} {n : Nat} {K : am_K} {I : am_I} {F : am_F} {a0 : Nat} {r0 : Int × am_I} {x3 : Int} {x4 : Int} (h0 : (K a0).1 = 12) : X12_move_b83 N K F a0 I x3 x4 = some r0 → Ok η l M_X12_move (am_qm η (am_pS 1 r0 n K F) 0 0) 83 [(0, qr a0), (3, qi x3), (4, qi x4)] [] n K I F 0 0 := by
  unfold X12_move_b83
  refine ok_iload_n (q := 84) 1 dX12_move_83 rfl rfl rfl ?_
  refine ok_if_ne (q := 120) (q2 := 87) dX12_move_84 rfl rfl ?_ ?_
  · skip
    exact fun g => ok_pick [0, 1, 2] rfl (w_X12_move_b120 (N := N) h0 g)
  · skip
    refine ok_aload_n (q := 88) 0 dX12_move_87 rfl rfl rfl ?_
    refine ok_aload_n (q := 89) 0 dX12_move_88 rfl rfl rfl ?_
    refine ok_getR (q := 92) (ci := 12) (k := 3) (x := F a0 3) dX12_move_89 rfl fo_X12_13 h0 rfl ?_
    refine ok_aload_n (q := 93) 0 dX12_move_92 rfl rfl rfl ?_
    refine ok_getI (q := 96) (ci := 12) (k := 5) (x := I a0 5) dX12_move_93 rfl fo_X12_96 h0 rfl ?_
    refine ok_aload_n (q := 97) 0 dX12_move_96 rfl rfl rfl ?_
    refine ok_getR (q := 100) (ci := 12) (k := 35) (x := F a0 35) dX12_move_97 rfl fo_X12_65 h0 rfl ?_
    refine fi_callV1S (q := 103) (as := [qr (F a0 3), qi (I a0 5), qr (F a0 35)]) (st := []) dX12_move_100 rfl mo_X12_201 h0 rfl (Nat.le_of_ble_eq_true rfl) rfl rfl (Nat.le_of_ble_eq_true rfl) (Nat.le_of_ble_eq_true rfl) (Nat.le_of_ble_eq_true rfl) (Nat.zero_le _) (Nat.zero_le _) (fun _ hr => ct_X12_mayMove (N := N) h0 hr) (fun v_1 I_2 => ?_)
    refine ok_pop (q := 104) dX12_move_103 rfl rfl ?_
    refine ok_aload_n (q := 105) 0 dX12_move_104 rfl rfl rfl ?_
    refine ok_getR (q := 108) (ci := 12) (k := 35) (x := F a0 35) dX12_move_105 rfl fo_X12_65 h0 rfl ?_
    refine ok_iload (q := 110) 2 dX12_move_108 rfl rfl ?_
    refine fi_chk (fun h_3 => ?_)
    refine fi_chk (fun h_4 => ?_)
    refine ok_baload (q := 111) (v := I_2 (F a0 35) x4) dX12_move_110 rfl h_3 h_4.1 h_4.2 rfl ?_
    refine ok_if_eq (q := 118) (q2 := 114) dX12_move_111 rfl rfl ?_ ?_
    · skip
      refine ok_iconst (q := 119) (x := 5) dX12_move_118 rfl rfl (by decide) ?_
      exact fun g => ok_pick [0, 2] rfl (w_X12_move_b119 (N := N) h0 g)
    · skip
      refine ok_iconst (q := 115) (x := 0) dX12_move_114 rfl rfl (by decide) ?_
      refine ok_goto (q := 119) dX12_move_115 rfl ?_
      exact fun g => ok_pick [0, 2] rfl (w_X12_move_b119 (N := N) h0 g)
def X12_move_b82 (N : Nat) (K : am_K) (F : am_F) (a0 : Nat) (I : am_I) (x4 : Int) (s0 : Int) : Option (Int × am_I) :=
  X12_move_b83 N K F a0 I s0 x4
theorem w_X12_move_b82 {η : am_E} {l : Launch} {N : Nat} {n : Nat} {K : am_K} {I : am_I} {F : am_F} {a0 : Nat} {r0 : Int × am_I} {x4 : Int} {s0 : Int} (h0 : (K a0).1 = 12) : X12_move_b82 N K F a0 I x4 s0 = some r0 → Ok η l M_X12_move (am_qm η (am_pS 1 r0 n K F) 0 0) 82 [(0, qr a0), (4, qi x4)] [qi s0] n K I F 0 0 := by
  unfold X12_move_b82
  refine ok_istore_n (q := 83) (ls' := [(3, qi s0), (0, qr a0), (4, qi x4)]) dX12_move_82 rfl rfl (Nat.le_of_ble_eq_true rfl) rfl ?_
  exact fun g => ok_pick [1, 0, 2] rfl (w_X12_move_b83 (N := N) h0 g)
def X12_move_b24 (N : Nat) (K : am_K) (F : am_F) (a0 : Nat) (I : am_I) (x1 : Int) (x2 : Int) (x3 : Int) : Option (Int × am_I) :=
  am_lt (am_wI ((am_wI (x1 * (I a0 1))) + x2)) (fun x4_1 => if x3 = 0 then (am_cq (X12_isOwn N K F I a0 (F a0 3) (I a0 5) x4_1) (fun v_2 => if v_2 = 0 then (X12_move_b83 N K F a0 I x3 x4_1) else (am_cl (X12_make N K F a0 I (F a0 3) (I a0 5) x4_1) (fun _ I_3 => if (I_3 a0 18) = 0 then (X12_move_b82 N K F a0 I_3 x4_1 0) else (X12_move_b82 N K F a0 I_3 x4_1 6))))) else (X12_move_b83 N K F a0 I x3 x4_1))
theorem w_X12_move_b24 {η : am_E} {l : Launch} {N : Nat} {n : Nat} {K : am_K} {I : am_I} {F : am_F} {a0 : Nat} {r0 : Int × am_I} {x1 : Int} {x2 : Int} {x3 : Int} (h0 : (K a0).1 = 12) : X12_move_b24 N K F a0 I x1 x2 x3 = some r0 → Ok η l M_X12_move (am_qm η (am_pS 1 r0 n K F) 0 0) 24 [(0, qr a0), (1, qi x1), (2, qi x2), (3, qi x3)] [] n K I F 0 0 := by
  unfold X12_move_b24
  refine ok_iload_n (q := 25) 1 dX12_move_24 rfl rfl rfl ?_
  refine ok_aload_n (q := 26) 0 dX12_move_25 rfl rfl rfl ?_
  refine ok_getI (q := 29) (ci := 12) (k := 1) (x := I a0 1) dX12_move_26 rfl fo_X12_93 h0 rfl ?_
  refine ok_imulW (q := 30) dX12_move_29 rfl ?_
  refine ok_iload_n (q := 31) 2 dX12_move_30 rfl rfl rfl ?_
  refine ok_iaddW (q := 32) dX12_move_31 rfl ?_
  refine ok_istoreL (q := 34) (fun x4_1 => [(4, qi x4_1), (0, qr a0), (1, qi x1), (2, qi x2), (3, qi x3)]) dX12_move_32 rfl (Nat.le_of_ble_eq_true rfl) (fun _ => rfl) (fun x4_1 => ?_)
  refine ok_iload_n (q := 35) 4 dX12_move_34 rfl rfl rfl ?_
  refine ok_if_ne (q := 83) (q2 := 38) dX12_move_35 rfl rfl ?_ ?_
  · skip
    exact fun g => ok_pick [1, 4, 0] rfl (w_X12_move_b83 (N := N) h0 g)
  · skip
    refine ok_aload_n (q := 39) 1 dX12_move_38 rfl rfl rfl ?_
    refine ok_aload_n (q := 40) 1 dX12_move_39 rfl rfl rfl ?_
    refine ok_getR (q := 43) (ci := 12) (k := 3) (x := F a0 3) dX12_move_40 rfl fo_X12_13 h0 rfl ?_
    refine ok_aload_n (q := 44) 1 dX12_move_43 rfl rfl rfl ?_
    refine ok_getI (q := 47) (ci := 12) (k := 5) (x := I a0 5) dX12_move_44 rfl fo_X12_96 h0 rfl ?_
    refine ok_iload (q := 49) 0 dX12_move_47 rfl rfl ?_
    refine fi_callV1P (q := 52) (as := [qr (F a0 3), qi (I a0 5), qi x4_1]) (st := []) dX12_move_49 rfl mo_X12_168 h0 rfl (Nat.le_of_ble_eq_true rfl) rfl rfl (Nat.le_of_ble_eq_true rfl) (Nat.le_of_ble_eq_true rfl) (Nat.le_of_ble_eq_true rfl) (Nat.zero_le _) (Nat.zero_le _) (fun _ hr => ct_X12_isOwn (N := N) h0 hr) (fun v_2 => ?_)
    refine ok_if_eq (q := 83) (q2 := 55) dX12_move_52 rfl rfl ?_ ?_
    · skip
      exact fun g => ok_pick [1, 4, 0] rfl (w_X12_move_b83 (N := N) h0 g)
    · skip
      refine ok_aload_n (q := 56) 1 dX12_move_55 rfl rfl rfl ?_
      refine ok_aload_n (q := 57) 1 dX12_move_56 rfl rfl rfl ?_
      refine ok_getR (q := 60) (ci := 12) (k := 3) (x := F a0 3) dX12_move_57 rfl fo_X12_13 h0 rfl ?_
      refine ok_aload_n (q := 61) 1 dX12_move_60 rfl rfl rfl ?_
      refine ok_getI (q := 64) (ci := 12) (k := 5) (x := I a0 5) dX12_move_61 rfl fo_X12_96 h0 rfl ?_
      refine ok_iload (q := 66) 0 dX12_move_64 rfl rfl ?_
      refine fi_callV0S (q := 69) (as := [qr (F a0 3), qi (I a0 5), qi x4_1]) (st := []) dX12_move_66 rfl mo_X12_172 h0 rfl (Nat.le_of_ble_eq_true rfl) rfl rfl (Nat.le_of_ble_eq_true rfl) (Nat.le_of_ble_eq_true rfl) (Nat.le_of_ble_eq_true rfl) (Nat.zero_le _) (Nat.zero_le _) (fun _ hr => ct_X12_make (N := N) h0 hr) (fun _ I_3 => ?_)
      refine ok_aload_n (q := 70) 1 dX12_move_69 rfl rfl rfl ?_
      refine ok_getI (q := 73) (ci := 12) (k := 18) (x := I_3 a0 18) dX12_move_70 rfl fo_X12_155 h0 rfl ?_
      refine ok_if_eq (q := 81) (q2 := 76) dX12_move_73 rfl rfl ?_ ?_
      · skip
        refine ok_iconst (q := 82) (x := 0) dX12_move_81 rfl rfl (by decide) ?_
        exact fun g => ok_pick [1, 0] rfl (w_X12_move_b82 (N := N) h0 g)
      · skip
        refine ok_bipush (q := 78) (x := 6) dX12_move_76 rfl rfl (by decide) ?_
        refine ok_goto (q := 82) dX12_move_78 rfl ?_
        exact fun g => ok_pick [1, 0] rfl (w_X12_move_b82 (N := N) h0 g)
def X12_move (N : Nat) (K : am_K) (F : am_F) (a0 : Nat) (I : am_I) (x1 : Int) (x2 : Int) : Option (Int × am_I) :=
  am_cq (X12_pitWhy N K F I a0 x1 x2) (fun v_1 => if v_1 = 0 then (if (I a0 37) = 1000 then (X12_move_b24 N K F a0 I x1 x2 10) else (X12_move_b24 N K F a0 I x1 x2 v_1)) else (X12_move_b24 N K F a0 I x1 x2 v_1))
theorem w_X12_move {η : am_E} {l : Launch} {N : Nat} {n : Nat} {K : am_K} {I : am_I} {F : am_F} {a0 : Nat} {r0 : Int × am_I} {x1 : Int} {x2 : Int} (h0 : (K a0).1 = 12) : X12_move N K F a0 I x1 x2 = some r0 → Ok η l M_X12_move (am_qm η (am_pS 1 r0 n K F) 0 0) 0 [(0, qr a0), (1, qi x1), (2, qi x2)] [] n K I F 0 0 := by
  unfold X12_move
  refine ok_aload_n (q := 1) 0 dX12_move_0 rfl rfl rfl ?_
  refine ok_iload_n (q := 2) 1 dX12_move_1 rfl rfl rfl ?_
  refine ok_iload_n (q := 3) 2 dX12_move_2 rfl rfl rfl ?_
  refine fi_callV1P (q := 6) (as := [qi x1, qi x2]) (st := []) dX12_move_3 rfl mo_X12_271 h0 rfl (Nat.le_of_ble_eq_true rfl) rfl rfl (Nat.le_of_ble_eq_true rfl) (Nat.le_of_ble_eq_true rfl) (Nat.le_of_ble_eq_true rfl) (Nat.zero_le _) (Nat.zero_le _) (fun _ hr => ct_X12_pitWhy (N := N) h0 hr) (fun v_1 => ?_)
  refine ok_istore_n (q := 7) (ls' := [(3, qi v_1), (0, qr a0), (1, qi x1), (2, qi x2)]) dX12_move_6 rfl rfl (Nat.le_of_ble_eq_true rfl) rfl ?_
  refine ok_iload_n (q := 8) 0 dX12_move_7 rfl rfl rfl ?_
  refine ok_if_ne (q := 24) (q2 := 11) dX12_move_8 rfl rfl ?_ ?_
  · skip
    exact fun g => ok_pick [1, 2, 3, 0] rfl (w_X12_move_b24 (N := N) h0 g)
  · skip
    refine ok_aload_n (q := 12) 1 dX12_move_11 rfl rfl rfl ?_
    refine ok_getI (q := 15) (ci := 12) (k := 37) (x := I a0 37) dX12_move_12 rfl fo_X12_121 h0 rfl ?_
    refine ok_sipush (q := 18) (x := 1000) dX12_move_15 rfl rfl (by decide) ?_
    refine ok_icmp_ne (q := 24) (q2 := 21) dX12_move_18 rfl rfl ?_ ?_
    · skip
      exact fun g => ok_pick [1, 2, 3, 0] rfl (w_X12_move_b24 (N := N) h0 g)
    · skip
      refine ok_bipush (q := 23) (x := 10) dX12_move_21 rfl rfl (by decide) ?_
      refine ok_istore_n (q := 24) (ls' := [(3, qi 10), (0, qr a0), (1, qi x1), (2, qi x2)]) dX12_move_23 rfl rfl (Nat.le_of_ble_eq_true rfl) rfl ?_
      exact fun g => ok_pick [1, 2, 3, 0] rfl (w_X12_move_b24 (N := N) h0 g)
theorem ct_X12_move {η : am_E} {l : Launch} {N : Nat} {n : Nat} {K : am_K} {I : am_I} {F : am_F} {a0 : Nat} {r0 : Int × am_I} {x1 : Int} {x2 : Int} (h0 : (K a0).1 = 12) : X12_move N K F a0 I x1 x2 = some r0 → am_Ct η l yX12_move cX12_move 5 (some .int) 5 120 0 0 [qr a0, qi x1, qi x2] n K I F (am_pS 1 r0 n K F) := fun g => am_Ct.of false (by decide) (by decide) (Nat.le_of_ble_eq_true rfl) (fun _ => w_X12_move (N := N) h0 g)
def M_X12_undo : am_M := (yX12_undo.cls, cX12_undo, 1, (some .int), am_room 1 23 0 0, false)
def X12_undo (N : Nat) (K : am_K) (F : am_F) (a0 : Nat) (I : am_I) : Option (Int × am_I) :=
  if (I a0 37) = 0 then (am_cl (X12_no N K F a0 I 8) (fun v_8 I_9 => some (v_8, I_9))) else (if am_inI ((I a0 37) - 1) then am_lt (am_u2 I a0 37 ((I a0 37) - 1)) (fun I_2 => if am_inI ((I_2 a0 38) + 1) then am_lt (am_u2 I_2 a0 38 ((I_2 a0 38) + 1)) (fun I_4 => am_cl (X12_bring N K F a0 I_4 (I_4 a0 37)) (fun _ I_5 => am_cl (X12_ok N K F a0 I_5 (I_5 a0 37)) (fun v_6 I_7 => some (v_6, I_7)))) else none) else none)
theorem w_X12_undo {η : am_E} {l : Launch} {N : Nat} {n : Nat} {K : am_K} {I : am_I} {F : am_F} {a0 : Nat} {r0 : Int × am_I} (h0 : (K a0).1 = 12) : X12_undo N K F a0 I = some r0 → Ok η l M_X12_undo (am_qm η (am_pS 1 r0 n K F) 0 0) 0 [(0, qr a0)] [] n K I F 0 0 := by
  unfold X12_undo
  refine ok_aload_n (q := 1) 0 dX12_undo_0 rfl rfl rfl ?_
  refine ok_getI (q := 4) (ci := 12) (k := 37) (x := I a0 37) dX12_undo_1 rfl fo_X12_121 h0 rfl ?_
  refine ok_if_ne (q := 14) (q2 := 7) dX12_undo_4 rfl rfl ?_ ?_
  · skip
    refine ok_aload_n (q := 15) 0 dX12_undo_14 rfl rfl rfl ?_
    refine ok_dup (q := 16) dX12_undo_15 rfl rfl ?_
    refine ok_getI (q := 19) (ci := 12) (k := 37) (x := I a0 37) dX12_undo_16 rfl fo_X12_121 h0 rfl ?_
    refine ok_iconst (q := 20) (x := 1) dX12_undo_19 rfl rfl (by decide) ?_
    refine fi_chk (fun h_1 => ?_)
    refine ok_isub (q := 21) dX12_undo_20 rfl h_1 ?_
    refine ok_putI (q := 24) (ci := 12) (k := 37) dX12_undo_21 rfl fo_X12_121 h0 ft_12_37 ff_12_37 (fun I_2 => ?_)
    refine ok_aload_n (q := 25) 0 dX12_undo_24 rfl rfl rfl ?_
    refine ok_dup (q := 26) dX12_undo_25 rfl rfl ?_
    refine ok_getI (q := 29) (ci := 12) (k := 38) (x := I_2 a0 38) dX12_undo_26 rfl fo_X12_124 h0 rfl ?_
    refine ok_iconst (q := 30) (x := 1) dX12_undo_29 rfl rfl (by decide) ?_
    refine fi_chk (fun h_3 => ?_)
    refine ok_iadd (q := 31) dX12_undo_30 rfl h_3 ?_
    refine ok_putI (q := 34) (ci := 12) (k := 38) dX12_undo_31 rfl fo_X12_124 h0 ft_12_38 ff_12_38 (fun I_4 => ?_)
    refine ok_aload_n (q := 35) 0 dX12_undo_34 rfl rfl rfl ?_
    refine ok_aload_n (q := 36) 0 dX12_undo_35 rfl rfl rfl ?_
    refine ok_getI (q := 39) (ci := 12) (k := 37) (x := I_4 a0 37) dX12_undo_36 rfl fo_X12_121 h0 rfl ?_
    refine fi_callV0S (q := 42) (as := [qi (I_4 a0 37)]) (st := []) dX12_undo_39 rfl mo_X12_292 h0 rfl (Nat.le_of_ble_eq_true rfl) rfl rfl (Nat.le_of_ble_eq_true rfl) (Nat.le_of_ble_eq_true rfl) (Nat.le_of_ble_eq_true rfl) (Nat.zero_le _) (Nat.zero_le _) (fun _ hr => ct_X12_bring (N := N) h0 hr) (fun _ I_5 => ?_)
    refine ok_aload_n (q := 43) 0 dX12_undo_42 rfl rfl rfl ?_
    refine ok_aload_n (q := 44) 0 dX12_undo_43 rfl rfl rfl ?_
    refine ok_getI (q := 47) (ci := 12) (k := 37) (x := I_5 a0 37) dX12_undo_44 rfl fo_X12_121 h0 rfl ?_
    refine fi_callV1S (q := 50) (as := [qi (I_5 a0 37)]) (st := []) dX12_undo_47 rfl mo_X12_268 h0 rfl (Nat.le_of_ble_eq_true rfl) rfl rfl (Nat.le_of_ble_eq_true rfl) (Nat.le_of_ble_eq_true rfl) (Nat.le_of_ble_eq_true rfl) (Nat.zero_le _) (Nat.zero_le _) (fun _ hr => ct_X12_ok (N := N) h0 hr) (fun v_6 I_7 => ?_)
    exact fi_ireturnS dX12_undo_50 rfl
  · skip
    refine ok_aload_n (q := 8) 0 dX12_undo_7 rfl rfl rfl ?_
    refine ok_bipush (q := 10) (x := 8) dX12_undo_8 rfl rfl (by decide) ?_
    refine fi_callV1S (q := 13) (as := [qi 8]) (st := []) dX12_undo_10 rfl mo_X12_265 h0 rfl (Nat.le_of_ble_eq_true rfl) rfl rfl (Nat.le_of_ble_eq_true rfl) (Nat.le_of_ble_eq_true rfl) (Nat.le_of_ble_eq_true rfl) (Nat.zero_le _) (Nat.zero_le _) (fun _ hr => ct_X12_no (N := N) h0 hr) (fun v_8 I_9 => ?_)
    exact fi_ireturnS dX12_undo_13 rfl
theorem ct_X12_undo {η : am_E} {l : Launch} {N : Nat} {n : Nat} {K : am_K} {I : am_I} {F : am_F} {a0 : Nat} {r0 : Int × am_I} (h0 : (K a0).1 = 12) : X12_undo N K F a0 I = some r0 → am_Ct η l yX12_undo cX12_undo 1 (some .int) 1 23 0 0 [qr a0] n K I F (am_pS 1 r0 n K F) := fun g => am_Ct.of false (by decide) (by decide) (Nat.le_of_ble_eq_true rfl) (fun _ => w_X12_undo (N := N) h0 g)
def M_X12_redo : am_M := (yX12_redo.cls, cX12_redo, 1, (some .int), am_room 1 23 0 0, false)
def X12_redo (N : Nat) (K : am_K) (F : am_F) (a0 : Nat) (I : am_I) : Option (Int × am_I) :=
  if (I a0 38) = 0 then (am_cl (X12_no N K F a0 I 8) (fun v_8 I_9 => some (v_8, I_9))) else (if am_inI ((I a0 37) + 1) then am_lt (am_u2 I a0 37 ((I a0 37) + 1)) (fun I_2 => if am_inI ((I_2 a0 38) - 1) then am_lt (am_u2 I_2 a0 38 ((I_2 a0 38) - 1)) (fun I_4 => am_cl (X12_bring N K F a0 I_4 (I_4 a0 37)) (fun _ I_5 => am_cl (X12_ok N K F a0 I_5 (I_5 a0 37)) (fun v_6 I_7 => some (v_6, I_7)))) else none) else none)
theorem w_X12_redo {η : am_E} {l : Launch} {N : Nat} {n : Nat} {K : am_K} {I : am_I} {F : am_F} {a0 : Nat} {r0 : Int × am_I} (h0 : (K a0).1 = 12) : X12_redo N K F a0 I = some r0 → Ok η l M_X12_redo (am_qm η (am_pS 1 r0 n K F) 0 0) 0 [(0, qr a0)] [] n K I F 0 0 := by
  unfold X12_redo
  refine ok_aload_n (q := 1) 0 dX12_redo_0 rfl rfl rfl ?_
  refine ok_getI (q := 4) (ci := 12) (k := 38) (x := I a0 38) dX12_redo_1 rfl fo_X12_124 h0 rfl ?_
  refine ok_if_ne (q := 14) (q2 := 7) dX12_redo_4 rfl rfl ?_ ?_
  · skip
    refine ok_aload_n (q := 15) 0 dX12_redo_14 rfl rfl rfl ?_
    refine ok_dup (q := 16) dX12_redo_15 rfl rfl ?_
    refine ok_getI (q := 19) (ci := 12) (k := 37) (x := I a0 37) dX12_redo_16 rfl fo_X12_121 h0 rfl ?_
    refine ok_iconst (q := 20) (x := 1) dX12_redo_19 rfl rfl (by decide) ?_
    refine fi_chk (fun h_1 => ?_)
    refine ok_iadd (q := 21) dX12_redo_20 rfl h_1 ?_
    refine ok_putI (q := 24) (ci := 12) (k := 37) dX12_redo_21 rfl fo_X12_121 h0 ft_12_37 ff_12_37 (fun I_2 => ?_)
    refine ok_aload_n (q := 25) 0 dX12_redo_24 rfl rfl rfl ?_
    refine ok_dup (q := 26) dX12_redo_25 rfl rfl ?_
    refine ok_getI (q := 29) (ci := 12) (k := 38) (x := I_2 a0 38) dX12_redo_26 rfl fo_X12_124 h0 rfl ?_
    refine ok_iconst (q := 30) (x := 1) dX12_redo_29 rfl rfl (by decide) ?_
    refine fi_chk (fun h_3 => ?_)
    refine ok_isub (q := 31) dX12_redo_30 rfl h_3 ?_
    refine ok_putI (q := 34) (ci := 12) (k := 38) dX12_redo_31 rfl fo_X12_124 h0 ft_12_38 ff_12_38 (fun I_4 => ?_)
    refine ok_aload_n (q := 35) 0 dX12_redo_34 rfl rfl rfl ?_
    refine ok_aload_n (q := 36) 0 dX12_redo_35 rfl rfl rfl ?_
    refine ok_getI (q := 39) (ci := 12) (k := 37) (x := I_4 a0 37) dX12_redo_36 rfl fo_X12_121 h0 rfl ?_
    refine fi_callV0S (q := 42) (as := [qi (I_4 a0 37)]) (st := []) dX12_redo_39 rfl mo_X12_292 h0 rfl (Nat.le_of_ble_eq_true rfl) rfl rfl (Nat.le_of_ble_eq_true rfl) (Nat.le_of_ble_eq_true rfl) (Nat.le_of_ble_eq_true rfl) (Nat.zero_le _) (Nat.zero_le _) (fun _ hr => ct_X12_bring (N := N) h0 hr) (fun _ I_5 => ?_)
    refine ok_aload_n (q := 43) 0 dX12_redo_42 rfl rfl rfl ?_
    refine ok_aload_n (q := 44) 0 dX12_redo_43 rfl rfl rfl ?_
    refine ok_getI (q := 47) (ci := 12) (k := 37) (x := I_5 a0 37) dX12_redo_44 rfl fo_X12_121 h0 rfl ?_
    refine fi_callV1S (q := 50) (as := [qi (I_5 a0 37)]) (st := []) dX12_redo_47 rfl mo_X12_268 h0 rfl (Nat.le_of_ble_eq_true rfl) rfl rfl (Nat.le_of_ble_eq_true rfl) (Nat.le_of_ble_eq_true rfl) (Nat.le_of_ble_eq_true rfl) (Nat.zero_le _) (Nat.zero_le _) (fun _ hr => ct_X12_ok (N := N) h0 hr) (fun v_6 I_7 => ?_)
    exact fi_ireturnS dX12_redo_50 rfl
  · skip
    refine ok_aload_n (q := 8) 0 dX12_redo_7 rfl rfl rfl ?_
    refine ok_bipush (q := 10) (x := 8) dX12_redo_8 rfl rfl (by decide) ?_
    refine fi_callV1S (q := 13) (as := [qi 8]) (st := []) dX12_redo_10 rfl mo_X12_265 h0 rfl (Nat.le_of_ble_eq_true rfl) rfl rfl (Nat.le_of_ble_eq_true rfl) (Nat.le_of_ble_eq_true rfl) (Nat.le_of_ble_eq_true rfl) (Nat.zero_le _) (Nat.zero_le _) (fun _ hr => ct_X12_no (N := N) h0 hr) (fun v_8 I_9 => ?_)
    exact fi_ireturnS dX12_redo_13 rfl
theorem ct_X12_redo {η : am_E} {l : Launch} {N : Nat} {n : Nat} {K : am_K} {I : am_I} {F : am_F} {a0 : Nat} {r0 : Int × am_I} (h0 : (K a0).1 = 12) : X12_redo N K F a0 I = some r0 → am_Ct η l yX12_redo cX12_redo 1 (some .int) 1 23 0 0 [qr a0] n K I F (am_pS 1 r0 n K F) := fun g => am_Ct.of false (by decide) (by decide) (Nat.le_of_ble_eq_true rfl) (fun _ => w_X12_redo (N := N) h0 g)
def M_X12_pit : am_M := (yX12_pit.cls, cX12_pit, 4, (some .int), am_room 2 47 0 0, false)
def X12_pit_b36 (N : Nat) (K : am_K) (F : am_F) (a0 : Nat) (I : am_I) (s0 : Int) : Option (Int × am_I) :=
  some (s0, I)
theorem w_X12_pit_b36 {η : am_E} {l : Launch} {N : Nat} {n : Nat} {K : am_K} {I : am_I} {F : am_F} {a0 : Nat} {r0 : Int × am_I} {s0 : Int} (h0 : (K a0).1 = 12) : X12_pit_b36 N K F a0 I s0 = some r0 → Ok η l M_X12_pit (am_qm η (am_pS 1 r0 n K F) 0 0) 36 [(0, qr a0)] [qi s0] n K I F 0 0 := by
  unfold X12_pit_b36
  exact fi_ireturnS dX12_pit_36 rfl
def X12_pit (N : Nat) (K : am_K) (F : am_F) (a0 : Nat) (I : am_I) (x1 : Int) (x2 : Int) : Option (Int × am_I) :=
  am_cq (X12_pitWhy N K F I a0 x1 x2) (fun v_1 => if 0 < v_1 then (am_cl (X12_no N K F a0 I v_1) (fun v_8 I_9 => X12_pit_b36 N K F a0 I_9 v_8)) else (if am_inI (x1 * (I a0 1)) then if am_inI ((x1 * (I a0 1)) + x2) then if (K (F a0 3)).1 = 100 then if (0 : Int) ≤ ((x1 * (I a0 1)) + x2) ∧ ((x1 * (I a0 1)) + x2) < (K (F a0 3)).2 then am_cl (X12_ok N K F a0 I (I (F a0 3) ((x1 * (I a0 1)) + x2))) (fun v_6 I_7 => X12_pit_b36 N K F a0 I_7 v_6) else none else none else none else none))
theorem w_X12_pit {η : am_E} {l : Launch} {N : Nat} {n : Nat} {K : am_K} {I : am_I} {F : am_F} {a0 : Nat} {r0 : Int × am_I} {x1 : Int} {x2 : Int} (h0 : (K a0).1 = 12) : X12_pit N K F a0 I x1 x2 = some r0 → Ok η l M_X12_pit (am_qm η (am_pS 1 r0 n K F) 0 0) 0 [(0, qr a0), (1, qi x1), (2, qi x2)] [] n K I F 0 0 := by
  unfold X12_pit
  refine ok_aload_n (q := 1) 0 dX12_pit_0 rfl rfl rfl ?_
  refine ok_iload_n (q := 2) 1 dX12_pit_1 rfl rfl rfl ?_
  refine ok_iload_n (q := 3) 2 dX12_pit_2 rfl rfl rfl ?_
  refine fi_callV1P (q := 6) (as := [qi x1, qi x2]) (st := []) dX12_pit_3 rfl mo_X12_271 h0 rfl (Nat.le_of_ble_eq_true rfl) rfl rfl (Nat.le_of_ble_eq_true rfl) (Nat.le_of_ble_eq_true rfl) (Nat.le_of_ble_eq_true rfl) (Nat.zero_le _) (Nat.zero_le _) (fun _ hr => ct_X12_pitWhy (N := N) h0 hr) (fun v_1 => ?_)
  refine ok_istore_n (q := 7) (ls' := [(3, qi v_1), (0, qr a0), (1, qi x1), (2, qi x2)]) dX12_pit_6 rfl rfl (Nat.le_of_ble_eq_true rfl) rfl ?_
  refine ok_iload_n (q := 8) 0 dX12_pit_7 rfl rfl rfl ?_
  refine ok_if_le (q := 19) (q2 := 11) dX12_pit_8 rfl rfl ?_ ?_
  · skip
    refine ok_aload_n (q := 20) 1 dX12_pit_19 rfl rfl rfl ?_
    refine ok_aload_n (q := 21) 1 dX12_pit_20 rfl rfl rfl ?_
    refine ok_getR (q := 24) (ci := 12) (k := 3) (x := F a0 3) dX12_pit_21 rfl fo_X12_13 h0 rfl ?_
    refine ok_iload_n (q := 25) 2 dX12_pit_24 rfl rfl rfl ?_
    refine ok_aload_n (q := 26) 1 dX12_pit_25 rfl rfl rfl ?_
    refine ok_getI (q := 29) (ci := 12) (k := 1) (x := I a0 1) dX12_pit_26 rfl fo_X12_93 h0 rfl ?_
    refine fi_chk (fun h_2 => ?_)
    refine ok_imul (q := 30) dX12_pit_29 rfl h_2 ?_
    refine ok_iload_n (q := 31) 3 dX12_pit_30 rfl rfl rfl ?_
    refine fi_chk (fun h_3 => ?_)
    refine ok_iadd (q := 32) dX12_pit_31 rfl h_3 ?_
    refine fi_chk (fun h_4 => ?_)
    refine fi_chk (fun h_5 => ?_)
    refine ok_iaload (q := 33) (v := I (F a0 3) ((x1 * (I a0 1)) + x2)) dX12_pit_32 rfl h_4 h_5.1 h_5.2 rfl ?_
    refine fi_callV1S (q := 36) (as := [qi (I (F a0 3) ((x1 * (I a0 1)) + x2))]) (st := []) dX12_pit_33 rfl mo_X12_268 h0 rfl (Nat.le_of_ble_eq_true rfl) rfl rfl (Nat.le_of_ble_eq_true rfl) (Nat.le_of_ble_eq_true rfl) (Nat.le_of_ble_eq_true rfl) (Nat.zero_le _) (Nat.zero_le _) (fun _ hr => ct_X12_ok (N := N) h0 hr) (fun v_6 I_7 => ?_)
    exact fun g => ok_pick [1] rfl (w_X12_pit_b36 (N := N) h0 g)
  · skip
    refine ok_aload_n (q := 12) 1 dX12_pit_11 rfl rfl rfl ?_
    refine ok_iload_n (q := 13) 0 dX12_pit_12 rfl rfl rfl ?_
    refine fi_callV1S (q := 16) (as := [qi v_1]) (st := []) dX12_pit_13 rfl mo_X12_265 h0 rfl (Nat.le_of_ble_eq_true rfl) rfl rfl (Nat.le_of_ble_eq_true rfl) (Nat.le_of_ble_eq_true rfl) (Nat.le_of_ble_eq_true rfl) (Nat.zero_le _) (Nat.zero_le _) (fun _ hr => ct_X12_no (N := N) h0 hr) (fun v_8 I_9 => ?_)
    refine ok_goto (q := 36) dX12_pit_16 rfl ?_
    exact fun g => ok_pick [1] rfl (w_X12_pit_b36 (N := N) h0 g)
theorem ct_X12_pit {η : am_E} {l : Launch} {N : Nat} {n : Nat} {K : am_K} {I : am_I} {F : am_F} {a0 : Nat} {r0 : Int × am_I} {x1 : Int} {x2 : Int} (h0 : (K a0).1 = 12) : X12_pit N K F a0 I x1 x2 = some r0 → am_Ct η l yX12_pit cX12_pit 4 (some .int) 2 47 0 0 [qr a0, qi x1, qi x2] n K I F (am_pS 1 r0 n K F) := fun g => am_Ct.of false (by decide) (by decide) (Nat.le_of_ble_eq_true rfl) (fun _ => w_X12_pit (N := N) h0 g)
def M_X12_stored : am_M := (yX12_stored.cls, cX12_stored, 2, (some .int), am_room 1 25 0 0, false)
def X12_stored_b28 (N : Nat) (K : am_K) (F : am_F) (a0 : Nat) (I : am_I) (s0 : Int) : Option (Int × am_I) :=
  some (s0, I)
theorem w_X12_stored_b28 {η : am_E} {l : Launch} {N : Nat} {n : Nat} {K : am_K} {I : am_I} {F : am_F} {a0 : Nat} {r0 : Int × am_I} {s0 : Int} (h0 : (K a0).1 = 12) : X12_stored_b28 N K F a0 I s0 = some r0 → Ok η l M_X12_stored (am_qm η (am_pS 1 r0 n K F) 0 0) 28 [(0, qr a0)] [qi s0] n K I F 0 0 := by
  unfold X12_stored_b28
  exact fi_ireturnS dX12_stored_28 rfl
def X12_stored (N : Nat) (K : am_K) (F : am_F) (a0 : Nat) (I : am_I) (x1 : Int) : Option (Int × am_I) :=
  am_cq (X12_isIn N K F I x1 0 1) (fun v_1 => if v_1 = 0 then (am_cl (X12_no N K F a0 I 3) (fun v_6 I_7 => X12_stored_b28 N K F a0 I_7 v_6)) else (if (K (F a0 4)).1 = 100 then if (0 : Int) ≤ x1 ∧ x1 < (K (F a0 4)).2 then am_cl (X12_ok N K F a0 I (I (F a0 4) x1)) (fun v_4 I_5 => X12_stored_b28 N K F a0 I_5 v_4) else none else none))
theorem w_X12_stored {η : am_E} {l : Launch} {N : Nat} {n : Nat} {K : am_K} {I : am_I} {F : am_F} {a0 : Nat} {r0 : Int × am_I} {x1 : Int} (h0 : (K a0).1 = 12) : X12_stored N K F a0 I x1 = some r0 → Ok η l M_X12_stored (am_qm η (am_pS 1 r0 n K F) 0 0) 0 [(0, qr a0), (1, qi x1)] [] n K I F 0 0 := by
  unfold X12_stored
  refine ok_iload_n (q := 1) 1 dX12_stored_0 rfl rfl rfl ?_
  refine ok_i2l (q := 2) dX12_stored_1 rfl ?_
  refine ok_lconst (q := 3) (x := 0) dX12_stored_2 rfl rfl (by decide) ?_
  refine ok_lconst (q := 4) (x := 1) dX12_stored_3 rfl rfl (by decide) ?_
  refine fi_callS1P (q := 7) (as := [ql x1, ql 0, ql 1]) (st := []) dX12_stored_4 rfl mo_X12_164 rfl rfl (Nat.le_of_ble_eq_true rfl) (Nat.le_of_ble_eq_true rfl) (Nat.le_of_ble_eq_true rfl) (Nat.zero_le _) (Nat.zero_le _) (fun _ hr => ct_X12_isIn (N := N) hr) (fun v_1 => ?_)
  refine ok_if_ne (q := 18) (q2 := 10) dX12_stored_7 rfl rfl ?_ ?_
  · skip
    refine ok_aload_n (q := 19) 0 dX12_stored_18 rfl rfl rfl ?_
    refine ok_aload_n (q := 20) 0 dX12_stored_19 rfl rfl rfl ?_
    refine ok_getR (q := 23) (ci := 12) (k := 4) (x := F a0 4) dX12_stored_20 rfl fo_X12_17 h0 rfl ?_
    refine ok_iload_n (q := 24) 1 dX12_stored_23 rfl rfl rfl ?_
    refine fi_chk (fun h_2 => ?_)
    refine fi_chk (fun h_3 => ?_)
    refine ok_iaload (q := 25) (v := I (F a0 4) x1) dX12_stored_24 rfl h_2 h_3.1 h_3.2 rfl ?_
    refine fi_callV1S (q := 28) (as := [qi (I (F a0 4) x1)]) (st := []) dX12_stored_25 rfl mo_X12_268 h0 rfl (Nat.le_of_ble_eq_true rfl) rfl rfl (Nat.le_of_ble_eq_true rfl) (Nat.le_of_ble_eq_true rfl) (Nat.le_of_ble_eq_true rfl) (Nat.zero_le _) (Nat.zero_le _) (fun _ hr => ct_X12_ok (N := N) h0 hr) (fun v_4 I_5 => ?_)
    exact fun g => ok_pick [0] rfl (w_X12_stored_b28 (N := N) h0 g)
  · skip
    refine ok_aload_n (q := 11) 0 dX12_stored_10 rfl rfl rfl ?_
    refine ok_iconst (q := 12) (x := 3) dX12_stored_11 rfl rfl (by decide) ?_
    refine fi_callV1S (q := 15) (as := [qi 3]) (st := []) dX12_stored_12 rfl mo_X12_265 h0 rfl (Nat.le_of_ble_eq_true rfl) rfl rfl (Nat.le_of_ble_eq_true rfl) (Nat.le_of_ble_eq_true rfl) (Nat.le_of_ble_eq_true rfl) (Nat.zero_le _) (Nat.zero_le _) (fun _ hr => ct_X12_no (N := N) h0 hr) (fun v_6 I_7 => ?_)
    refine ok_goto (q := 28) dX12_stored_15 rfl ?_
    exact fun g => ok_pick [0] rfl (w_X12_stored_b28 (N := N) h0 g)
theorem ct_X12_stored {η : am_E} {l : Launch} {N : Nat} {n : Nat} {K : am_K} {I : am_I} {F : am_F} {a0 : Nat} {r0 : Int × am_I} {x1 : Int} (h0 : (K a0).1 = 12) : X12_stored N K F a0 I x1 = some r0 → am_Ct η l yX12_stored cX12_stored 2 (some .int) 1 25 0 0 [qr a0, qi x1] n K I F (am_pS 1 r0 n K F) := fun g => am_Ct.of false (by decide) (by decide) (Nat.le_of_ble_eq_true rfl) (fun _ => w_X12_stored (N := N) h0 g)
def M_X12_allowed : am_M := (yX12_allowed.cls, cX12_allowed, 1, (some .int), am_room 5 120 0 0, false)
def X12_allowed (N : Nat) (K : am_K) (F : am_F) (a0 : Nat) (I : am_I) : Option (Int × am_I) :=
  am_cl (X12_mayMove N K F a0 I (F a0 3) (I a0 5) (F a0 35)) (fun v_1 I_2 => some (v_1, I_2))
theorem w_X12_allowed {η : am_E} {l : Launch} {N : Nat} {n : Nat} {K : am_K} {I : am_I} {F : am_F} {a0 : Nat} {r0 : Int × am_I} (h0 : (K a0).1 = 12) : X12_allowed N K F a0 I = some r0 → Ok η l M_X12_allowed (am_qm η (am_pS 1 r0 n K F) 0 0) 0 [(0, qr a0)] [] n K I F 0 0 := by
  unfold X12_allowed
  refine ok_aload_n (q := 1) 0 dX12_allowed_0 rfl rfl rfl ?_
  refine ok_aload_n (q := 2) 0 dX12_allowed_1 rfl rfl rfl ?_
  refine ok_getR (q := 5) (ci := 12) (k := 3) (x := F a0 3) dX12_allowed_2 rfl fo_X12_13 h0 rfl ?_
  refine ok_aload_n (q := 6) 0 dX12_allowed_5 rfl rfl rfl ?_
  refine ok_getI (q := 9) (ci := 12) (k := 5) (x := I a0 5) dX12_allowed_6 rfl fo_X12_96 h0 rfl ?_
  refine ok_aload_n (q := 10) 0 dX12_allowed_9 rfl rfl rfl ?_
  refine ok_getR (q := 13) (ci := 12) (k := 35) (x := F a0 35) dX12_allowed_10 rfl fo_X12_65 h0 rfl ?_
  refine fi_callV1S (q := 16) (as := [qr (F a0 3), qi (I a0 5), qr (F a0 35)]) (st := []) dX12_allowed_13 rfl mo_X12_201 h0 rfl (Nat.le_of_ble_eq_true rfl) rfl rfl (Nat.le_of_ble_eq_true rfl) (Nat.le_of_ble_eq_true rfl) (Nat.le_of_ble_eq_true rfl) (Nat.zero_le _) (Nat.zero_le _) (fun _ hr => ct_X12_mayMove (N := N) h0 hr) (fun v_1 I_2 => ?_)
  exact fi_ireturnS dX12_allowed_16 rfl
theorem ct_X12_allowed {η : am_E} {l : Launch} {N : Nat} {n : Nat} {K : am_K} {I : am_I} {F : am_F} {a0 : Nat} {r0 : Int × am_I} (h0 : (K a0).1 = 12) : X12_allowed N K F a0 I = some r0 → am_Ct η l yX12_allowed cX12_allowed 1 (some .int) 5 120 0 0 [qr a0] n K I F (am_pS 1 r0 n K F) := fun g => am_Ct.of false (by decide) (by decide) (Nat.le_of_ble_eq_true rfl) (fun _ => w_X12_allowed (N := N) h0 g)
def M_X12_over : am_M := (yX12_over.cls, cX12_over, 1, (some .int), am_room 6 140 0 0, false)
def X12_over_b12 (N : Nat) (K : am_K) (F : am_F) (a0 : Nat) (I : am_I) (s0 : Int) : Option (Int × am_I) :=
  some (s0, I)
theorem w_X12_over_b12 {η : am_E} {l : Launch} {N : Nat} {n : Nat} {K : am_K} {I : am_I} {F : am_F} {a0 : Nat} {r0 : Int × am_I} {s0 : Int} (h0 : (K a0).1 = 12) : X12_over_b12 N K F a0 I s0 = some r0 → Ok η l M_X12_over (am_qm η (am_pS 1 r0 n K F) 0 0) 12 [(0, qr a0)] [qi s0] n K I F 0 0 := by
  unfold X12_over_b12
  exact fi_ireturnS dX12_over_12 rfl
def X12_over (N : Nat) (K : am_K) (F : am_F) (a0 : Nat) (I : am_I) : Option (Int × am_I) :=
  am_cl (X12_allowed N K F a0 I) (fun v_1 I_2 => if v_1 = 0 then (X12_over_b12 N K F a0 I_2 1) else (X12_over_b12 N K F a0 I_2 0))
theorem w_X12_over {η : am_E} {l : Launch} {N : Nat} {n : Nat} {K : am_K} {I : am_I} {F : am_F} {a0 : Nat} {r0 : Int × am_I} (h0 : (K a0).1 = 12) : X12_over N K F a0 I = some r0 → Ok η l M_X12_over (am_qm η (am_pS 1 r0 n K F) 0 0) 0 [(0, qr a0)] [] n K I F 0 0 := by
  unfold X12_over
  refine ok_aload_n (q := 1) 0 dX12_over_0 rfl rfl rfl ?_
  refine fi_callV1S (q := 4) (as := []) (st := []) dX12_over_1 rfl mo_X12_301 h0 rfl (Nat.le_of_ble_eq_true rfl) rfl rfl (Nat.le_of_ble_eq_true rfl) (Nat.le_of_ble_eq_true rfl) (Nat.le_of_ble_eq_true rfl) (Nat.zero_le _) (Nat.zero_le _) (fun _ hr => ct_X12_allowed (N := N) h0 hr) (fun v_1 I_2 => ?_)
  refine ok_if_ne (q := 11) (q2 := 7) dX12_over_4 rfl rfl ?_ ?_
  · skip
    refine ok_iconst (q := 12) (x := 0) dX12_over_11 rfl rfl (by decide) ?_
    exact fun g => ok_pick [0] rfl (w_X12_over_b12 (N := N) h0 g)
  · skip
    refine ok_iconst (q := 8) (x := 1) dX12_over_7 rfl rfl (by decide) ?_
    refine ok_goto (q := 12) dX12_over_8 rfl ?_
    exact fun g => ok_pick [0] rfl (w_X12_over_b12 (N := N) h0 g)
theorem ct_X12_over {η : am_E} {l : Launch} {N : Nat} {n : Nat} {K : am_K} {I : am_I} {F : am_F} {a0 : Nat} {r0 : Int × am_I} (h0 : (K a0).1 = 12) : X12_over N K F a0 I = some r0 → am_Ct η l yX12_over cX12_over 1 (some .int) 6 140 0 0 [qr a0] n K I F (am_pS 1 r0 n K F) := fun g => am_Ct.of false (by decide) (by decide) (Nat.le_of_ble_eq_true rfl) (fun _ => w_X12_over (N := N) h0 g)
def M_X12_scored : am_M := (yX12_scored.cls, cX12_scored, 2, (some .int), am_room 7 160 0 0, false)
def X12_scored_b31 (N : Nat) (K : am_K) (F : am_F) (a0 : Nat) (I : am_I) (s0 : Int) (s1 : Int) : Option (Int × am_I) :=
  if am_inI (s1 + s0) then some (s1 + s0, I) else none
theorem w_X12_scored_b31 {η : am_E} {l : Launch} {N : Nat} {n : Nat} {K : am_K} {I : am_I} {F : am_F} {a0 : Nat} {r0 : Int × am_I} {s0 : Int} {s1 : Int} (h0 : (K a0).1 = 12) : X12_scored_b31 N K F a0 I s0 s1 = some r0 → Ok η l M_X12_scored (am_qm η (am_pS 1 r0 n K F) 0 0) 31 [(0, qr a0)] [qi s0, qi s1] n K I F 0 0 := by
  unfold X12_scored_b31
  refine fi_chk (fun h_1 => ?_)
  refine ok_iadd (q := 32) dX12_scored_31 rfl h_1 ?_
  exact fi_ireturnS dX12_scored_32 rfl
def X12_scored (N : Nat) (K : am_K) (F : am_F) (a0 : Nat) (I : am_I) (x1 : Int) : Option (Int × am_I) :=
  if (K (F a0 4)).1 = 100 then if (0 : Int) ≤ x1 ∧ x1 < (K (F a0 4)).2 then am_cl (X12_over N K F a0 I) (fun v_3 I_4 => if v_3 = 1 then (am_cq (X12_counts N K F I_4 a0 (F a0 3) (I_4 a0 5) x1) (fun v_5 => X12_scored_b31 N K F a0 I_4 v_5 (I (F a0 4) x1))) else (X12_scored_b31 N K F a0 I_4 0 (I (F a0 4) x1))) else none else none
theorem w_X12_scored {η : am_E} {l : Launch} {N : Nat} {n : Nat} {K : am_K} {I : am_I} {F : am_F} {a0 : Nat} {r0 : Int × am_I} {x1 : Int} (h0 : (K a0).1 = 12) : X12_scored N K F a0 I x1 = some r0 → Ok η l M_X12_scored (am_qm η (am_pS 1 r0 n K F) 0 0) 0 [(0, qr a0), (1, qi x1)] [] n K I F 0 0 := by
  unfold X12_scored
  refine ok_aload_n (q := 1) 0 dX12_scored_0 rfl rfl rfl ?_
  refine ok_getR (q := 4) (ci := 12) (k := 4) (x := F a0 4) dX12_scored_1 rfl fo_X12_17 h0 rfl ?_
  refine ok_iload_n (q := 5) 1 dX12_scored_4 rfl rfl rfl ?_
  refine fi_chk (fun h_1 => ?_)
  refine fi_chk (fun h_2 => ?_)
  refine ok_iaload (q := 6) (v := I (F a0 4) x1) dX12_scored_5 rfl h_1 h_2.1 h_2.2 rfl ?_
  refine ok_aload_n (q := 7) 0 dX12_scored_6 rfl rfl rfl ?_
  refine fi_callV1S (q := 10) (as := []) (st := [qi (I (F a0 4) x1)]) dX12_scored_7 rfl mo_X12_295 h0 rfl (Nat.le_of_ble_eq_true rfl) rfl rfl (Nat.le_of_ble_eq_true rfl) (Nat.le_of_ble_eq_true rfl) (Nat.le_of_ble_eq_true rfl) (Nat.zero_le _) (Nat.zero_le _) (fun _ hr => ct_X12_over (N := N) h0 hr) (fun v_3 I_4 => ?_)
  refine ok_iconst (q := 11) (x := 1) dX12_scored_10 rfl rfl (by decide) ?_
  refine ok_icmp_ne (q := 30) (q2 := 14) dX12_scored_11 rfl rfl ?_ ?_
  · skip
    refine ok_iconst (q := 31) (x := 0) dX12_scored_30 rfl rfl (by decide) ?_
    exact fun g => ok_pick [0] rfl (w_X12_scored_b31 (N := N) h0 g)
  · skip
    refine ok_aload_n (q := 15) 0 dX12_scored_14 rfl rfl rfl ?_
    refine ok_aload_n (q := 16) 0 dX12_scored_15 rfl rfl rfl ?_
    refine ok_getR (q := 19) (ci := 12) (k := 3) (x := F a0 3) dX12_scored_16 rfl fo_X12_13 h0 rfl ?_
    refine ok_aload_n (q := 20) 0 dX12_scored_19 rfl rfl rfl ?_
    refine ok_getI (q := 23) (ci := 12) (k := 5) (x := I_4 a0 5) dX12_scored_20 rfl fo_X12_96 h0 rfl ?_
    refine ok_iload_n (q := 24) 1 dX12_scored_23 rfl rfl rfl ?_
    refine fi_callV1P (q := 27) (as := [qr (F a0 3), qi (I_4 a0 5), qi x1]) (st := [qi (I (F a0 4) x1)]) dX12_scored_24 rfl mo_X12_205 h0 rfl (Nat.le_of_ble_eq_true rfl) rfl rfl (Nat.le_of_ble_eq_true rfl) (Nat.le_of_ble_eq_true rfl) (Nat.le_of_ble_eq_true rfl) (Nat.zero_le _) (Nat.zero_le _) (fun _ hr => ct_X12_counts (N := N) h0 hr) (fun v_5 => ?_)
    refine ok_goto (q := 31) dX12_scored_27 rfl ?_
    exact fun g => ok_pick [0] rfl (w_X12_scored_b31 (N := N) h0 g)
theorem ct_X12_scored {η : am_E} {l : Launch} {N : Nat} {n : Nat} {K : am_K} {I : am_I} {F : am_F} {a0 : Nat} {r0 : Int × am_I} {x1 : Int} (h0 : (K a0).1 = 12) : X12_scored N K F a0 I x1 = some r0 → am_Ct η l yX12_scored cX12_scored 2 (some .int) 7 160 0 0 [qr a0, qi x1] n K I F (am_pS 1 r0 n K F) := fun g => am_Ct.of false (by decide) (by decide) (Nat.le_of_ble_eq_true rfl) (fun _ => w_X12_scored (N := N) h0 g)
def M_X12_score : am_M := (yX12_score.cls, cX12_score, 2, (some .int), am_room 8 181 0 0, false)
def X12_score_b27 (N : Nat) (K : am_K) (F : am_F) (a0 : Nat) (I : am_I) (s0 : Int) : Option (Int × am_I) :=
  some (s0, I)
theorem w_X12_score_b27 {η : am_E} {l : Launch} {N : Nat} {n : Nat} {K : am_K} {I : am_I} {F : am_F} {a0 : Nat} {r0 : Int × am_I} {s0 : Int} (h0 : (K a0).1 = 12) : X12_score_b27 N K F a0 I s0 = some r0 → Ok η l M_X12_score (am_qm η (am_pS 1 r0 n K F) 0 0) 27 [(0, qr a0)] [qi s0] n K I F 0 0 := by
  unfold X12_score_b27
  exact fi_ireturnS dX12_score_27 rfl
def X12_score (N : Nat) (K : am_K) (F : am_F) (a0 : Nat) (I : am_I) (x1 : Int) : Option (Int × am_I) :=
  am_cq (X12_isIn N K F I x1 0 1) (fun v_1 => if v_1 = 0 then (am_cl (X12_no N K F a0 I 3) (fun v_6 I_7 => X12_score_b27 N K F a0 I_7 v_6)) else (am_cl (X12_scored N K F a0 I x1) (fun v_2 I_3 => am_cl (X12_ok N K F a0 I_3 v_2) (fun v_4 I_5 => X12_score_b27 N K F a0 I_5 v_4))))
theorem w_X12_score {η : am_E} {l : Launch} {N : Nat} {n : Nat} {K : am_K} {I : am_I} {F : am_F} {a0 : Nat} {r0 : Int × am_I} {x1 : Int} (h0 : (K a0).1 = 12) : X12_score N K F a0 I x1 = some r0 → Ok η l M_X12_score (am_qm η (am_pS 1 r0 n K F) 0 0) 0 [(0, qr a0), (1, qi x1)] [] n K I F 0 0 := by
  unfold X12_score
  refine ok_iload_n (q := 1) 1 dX12_score_0 rfl rfl rfl ?_
  refine ok_i2l (q := 2) dX12_score_1 rfl ?_
  refine ok_lconst (q := 3) (x := 0) dX12_score_2 rfl rfl (by decide) ?_
  refine ok_lconst (q := 4) (x := 1) dX12_score_3 rfl rfl (by decide) ?_
  refine fi_callS1P (q := 7) (as := [ql x1, ql 0, ql 1]) (st := []) dX12_score_4 rfl mo_X12_164 rfl rfl (Nat.le_of_ble_eq_true rfl) (Nat.le_of_ble_eq_true rfl) (Nat.le_of_ble_eq_true rfl) (Nat.zero_le _) (Nat.zero_le _) (fun _ hr => ct_X12_isIn (N := N) hr) (fun v_1 => ?_)
  refine ok_if_ne (q := 18) (q2 := 10) dX12_score_7 rfl rfl ?_ ?_
  · skip
    refine ok_aload_n (q := 19) 0 dX12_score_18 rfl rfl rfl ?_
    refine ok_aload_n (q := 20) 0 dX12_score_19 rfl rfl rfl ?_
    refine ok_iload_n (q := 21) 1 dX12_score_20 rfl rfl rfl ?_
    refine fi_callV1S (q := 24) (as := [qi x1]) (st := [qr a0]) dX12_score_21 rfl mo_X12_298 h0 rfl (Nat.le_of_ble_eq_true rfl) rfl rfl (Nat.le_of_ble_eq_true rfl) (Nat.le_of_ble_eq_true rfl) (Nat.le_of_ble_eq_true rfl) (Nat.zero_le _) (Nat.zero_le _) (fun _ hr => ct_X12_scored (N := N) h0 hr) (fun v_2 I_3 => ?_)
    refine fi_callV1S (q := 27) (as := [qi v_2]) (st := []) dX12_score_24 rfl mo_X12_268 h0 rfl (Nat.le_of_ble_eq_true rfl) rfl rfl (Nat.le_of_ble_eq_true rfl) (Nat.le_of_ble_eq_true rfl) (Nat.le_of_ble_eq_true rfl) (Nat.zero_le _) (Nat.zero_le _) (fun _ hr => ct_X12_ok (N := N) h0 hr) (fun v_4 I_5 => ?_)
    exact fun g => ok_pick [0] rfl (w_X12_score_b27 (N := N) h0 g)
  · skip
    refine ok_aload_n (q := 11) 0 dX12_score_10 rfl rfl rfl ?_
    refine ok_iconst (q := 12) (x := 3) dX12_score_11 rfl rfl (by decide) ?_
    refine fi_callV1S (q := 15) (as := [qi 3]) (st := []) dX12_score_12 rfl mo_X12_265 h0 rfl (Nat.le_of_ble_eq_true rfl) rfl rfl (Nat.le_of_ble_eq_true rfl) (Nat.le_of_ble_eq_true rfl) (Nat.le_of_ble_eq_true rfl) (Nat.zero_le _) (Nat.zero_le _) (fun _ hr => ct_X12_no (N := N) h0 hr) (fun v_6 I_7 => ?_)
    refine ok_goto (q := 27) dX12_score_15 rfl ?_
    exact fun g => ok_pick [0] rfl (w_X12_score_b27 (N := N) h0 g)
theorem ct_X12_score {η : am_E} {l : Launch} {N : Nat} {n : Nat} {K : am_K} {I : am_I} {F : am_F} {a0 : Nat} {r0 : Int × am_I} {x1 : Int} (h0 : (K a0).1 = 12) : X12_score N K F a0 I x1 = some r0 → am_Ct η l yX12_score cX12_score 2 (some .int) 8 181 0 0 [qr a0, qi x1] n K I F (am_pS 1 r0 n K F) := fun g => am_Ct.of false (by decide) (by decide) (Nat.le_of_ble_eq_true rfl) (fun _ => w_X12_score (N := N) h0 g)
def M_X12_turn : am_M := (yX12_turn.cls, cX12_turn, 1, (some .int), am_room 0 0 0 0, false)
def X12_turn (N : Nat) (K : am_K) (F : am_F) (I : am_I) (a0 : Nat) : Option Int :=
  some (I a0 5)
theorem w_X12_turn {η : am_E} {l : Launch} {N : Nat} {n : Nat} {K : am_K} {I : am_I} {F : am_F} {a0 : Nat} {r0 : Int} (h0 : (K a0).1 = 12) : X12_turn N K F I a0 = some r0 → Ok η l M_X12_turn (am_qm η (am_pS 1 (r0, I) n K F) 0 0) 0 [(0, qr a0)] [] n K I F 0 0 := by
  unfold X12_turn
  refine ok_aload_n (q := 1) 0 dX12_turn_0 rfl rfl rfl ?_
  refine ok_getI (q := 4) (ci := 12) (k := 5) (x := I a0 5) dX12_turn_1 rfl fo_X12_96 h0 rfl ?_
  exact fi_ireturnP dX12_turn_4 rfl
theorem ct_X12_turn {η : am_E} {l : Launch} {N : Nat} {n : Nat} {K : am_K} {I : am_I} {F : am_F} {a0 : Nat} {r0 : Int} (h0 : (K a0).1 = 12) : X12_turn N K F I a0 = some r0 → am_Ct η l yX12_turn cX12_turn 1 (some .int) 0 0 0 0 [qr a0] n K I F (am_pS 1 (r0, I) n K F) := fun g => am_Ct.of false (by decide) (by decide) (Nat.le_of_ble_eq_true rfl) (fun _ => w_X12_turn (N := N) h0 g)
def M_X12_moves : am_M := (yX12_moves.cls, cX12_moves, 1, (some .int), am_room 0 0 0 0, false)
def X12_moves (N : Nat) (K : am_K) (F : am_F) (I : am_I) (a0 : Nat) : Option Int :=
  some (I a0 37)
theorem w_X12_moves {η : am_E} {l : Launch} {N : Nat} {n : Nat} {K : am_K} {I : am_I} {F : am_F} {a0 : Nat} {r0 : Int} (h0 : (K a0).1 = 12) : X12_moves N K F I a0 = some r0 → Ok η l M_X12_moves (am_qm η (am_pS 1 (r0, I) n K F) 0 0) 0 [(0, qr a0)] [] n K I F 0 0 := by
  unfold X12_moves
  refine ok_aload_n (q := 1) 0 dX12_moves_0 rfl rfl rfl ?_
  refine ok_getI (q := 4) (ci := 12) (k := 37) (x := I a0 37) dX12_moves_1 rfl fo_X12_121 h0 rfl ?_
  exact fi_ireturnP dX12_moves_4 rfl
theorem ct_X12_moves {η : am_E} {l : Launch} {N : Nat} {n : Nat} {K : am_K} {I : am_I} {F : am_F} {a0 : Nat} {r0 : Int} (h0 : (K a0).1 = 12) : X12_moves N K F I a0 = some r0 → am_Ct η l yX12_moves cX12_moves 1 (some .int) 0 0 0 0 [qr a0] n K I F (am_pS 1 (r0, I) n K F) := fun g => am_Ct.of false (by decide) (by decide) (Nat.le_of_ble_eq_true rfl) (fun _ => w_X12_moves (N := N) h0 g)
def M_X12_positions : am_M := (yX12_positions.cls, cX12_positions, 2, (some .long), am_room 3 66 0 0, false)
def X12_positions (N : Nat) (K : am_K) (F : am_F) (a0 : Nat) (I : am_I) (x1 : Int) : Option (Int × am_I) :=
  am_cq (X12_isIn N K F I x1 0 12) (fun v_1 => if v_1 = 0 then (am_cl (X12_no N K F a0 I 7) (fun v_4 I_5 => some (v_4, I_5))) else (am_lt (am_u2 I a0 15 0) (fun I_2 => am_cq (X12_placesTo N K F I_2 a0 x1) (fun v_3 => some (v_3, I_2)))))
theorem w_X12_positions {η : am_E} {l : Launch} {N : Nat} {n : Nat} {K : am_K} {I : am_I} {F : am_F} {a0 : Nat} {r0 : Int × am_I} {x1 : Int} (h0 : (K a0).1 = 12) : X12_positions N K F a0 I x1 = some r0 → Ok η l M_X12_positions (am_qm η (am_pS 2 r0 n K F) 0 0) 0 [(0, qr a0), (1, qi x1)] [] n K I F 0 0 := by
  unfold X12_positions
  refine ok_iload_n (q := 1) 1 dX12_positions_0 rfl rfl rfl ?_
  refine ok_i2l (q := 2) dX12_positions_1 rfl ?_
  refine ok_lconst (q := 3) (x := 0) dX12_positions_2 rfl rfl (by decide) ?_
  refine ok_ldc2 (q := 6) (x := 12) (v := 12) dX12_positions_3 rfl kc_X12_304 rfl (by decide) ?_
  refine fi_callS1P (q := 9) (as := [ql x1, ql 0, ql 12]) (st := []) dX12_positions_6 rfl mo_X12_164 rfl rfl (Nat.le_of_ble_eq_true rfl) (Nat.le_of_ble_eq_true rfl) (Nat.le_of_ble_eq_true rfl) (Nat.zero_le _) (Nat.zero_le _) (fun _ hr => ct_X12_isIn (N := N) hr) (fun v_1 => ?_)
  refine ok_if_ne (q := 20) (q2 := 12) dX12_positions_9 rfl rfl ?_ ?_
  · skip
    refine ok_aload_n (q := 21) 0 dX12_positions_20 rfl rfl rfl ?_
    refine ok_iconst (q := 22) (x := 0) dX12_positions_21 rfl rfl (by decide) ?_
    refine ok_putI (q := 25) (ci := 12) (k := 15) dX12_positions_22 rfl fo_X12_260 h0 ft_12_15 ff_12_15 (fun I_2 => ?_)
    refine ok_aload_n (q := 26) 0 dX12_positions_25 rfl rfl rfl ?_
    refine ok_iload_n (q := 27) 1 dX12_positions_26 rfl rfl rfl ?_
    refine fi_callV2P (q := 30) (as := [qi x1]) (st := []) dX12_positions_27 rfl mo_X12_193 h0 rfl (Nat.le_of_ble_eq_true rfl) rfl rfl (Nat.le_of_ble_eq_true rfl) (Nat.le_of_ble_eq_true rfl) (Nat.le_of_ble_eq_true rfl) (Nat.zero_le _) (Nat.zero_le _) (fun _ hr => ct_X12_placesTo (N := N) h0 hr) (fun v_3 => ?_)
    exact fi_lreturnS dX12_positions_30 rfl
  · skip
    refine ok_aload_n (q := 13) 0 dX12_positions_12 rfl rfl rfl ?_
    refine ok_bipush (q := 15) (x := 7) dX12_positions_13 rfl rfl (by decide) ?_
    refine fi_callV1S (q := 18) (as := [qi 7]) (st := []) dX12_positions_15 rfl mo_X12_265 h0 rfl (Nat.le_of_ble_eq_true rfl) rfl rfl (Nat.le_of_ble_eq_true rfl) (Nat.le_of_ble_eq_true rfl) (Nat.le_of_ble_eq_true rfl) (Nat.zero_le _) (Nat.zero_le _) (fun _ hr => ct_X12_no (N := N) h0 hr) (fun v_4 I_5 => ?_)
    refine ok_i2l (q := 19) dX12_positions_18 rfl ?_
    exact fi_lreturnS dX12_positions_19 rfl
theorem ct_X12_positions {η : am_E} {l : Launch} {N : Nat} {n : Nat} {K : am_K} {I : am_I} {F : am_F} {a0 : Nat} {r0 : Int × am_I} {x1 : Int} (h0 : (K a0).1 = 12) : X12_positions N K F a0 I x1 = some r0 → am_Ct η l yX12_positions cX12_positions 2 (some .long) 3 66 0 0 [qr a0, qi x1] n K I F (am_pS 2 r0 n K F) := fun g => am_Ct.of false (by decide) (by decide) (Nat.le_of_ble_eq_true rfl) (fun _ => w_X12_positions (N := N) h0 g)
def M_X12_place : am_M := (yX12_place.cls, cX12_place, 1, (some .long), am_room 4 94 0 0, false)
def X12_place (N : Nat) (K : am_K) (F : am_F) (a0 : Nat) (I : am_I) : Option (Int × am_I) :=
  am_cq (X12_seedsOf N K F I a0 (F a0 3)) (fun v_1 => if 12 < v_1 then (am_cl (X12_no N K F a0 I 10) (fun v_4 I_5 => some (v_4, I_5))) else (am_lt (am_u2 I a0 15 0) (fun I_2 => am_cq (X12_placeOf N K F I_2 a0 (F a0 3) (I_2 a0 5)) (fun v_3 => some (v_3, I_2)))))
theorem w_X12_place {η : am_E} {l : Launch} {N : Nat} {n : Nat} {K : am_K} {I : am_I} {F : am_F} {a0 : Nat} {r0 : Int × am_I} (h0 : (K a0).1 = 12) : X12_place N K F a0 I = some r0 → Ok η l M_X12_place (am_qm η (am_pS 2 r0 n K F) 0 0) 0 [(0, qr a0)] [] n K I F 0 0 := by
  unfold X12_place
  refine ok_aload_n (q := 1) 0 dX12_place_0 rfl rfl rfl ?_
  refine ok_aload_n (q := 2) 0 dX12_place_1 rfl rfl rfl ?_
  refine ok_getR (q := 5) (ci := 12) (k := 3) (x := F a0 3) dX12_place_2 rfl fo_X12_13 h0 rfl ?_
  refine fi_callV1P (q := 8) (as := [qr (F a0 3)]) (st := []) dX12_place_5 rfl mo_X12_189 h0 rfl (Nat.le_of_ble_eq_true rfl) rfl rfl (Nat.le_of_ble_eq_true rfl) (Nat.le_of_ble_eq_true rfl) (Nat.le_of_ble_eq_true rfl) (Nat.zero_le _) (Nat.zero_le _) (fun _ hr => ct_X12_seedsOf (N := N) h0 hr) (fun v_1 => ?_)
  refine ok_bipush (q := 10) (x := 12) dX12_place_8 rfl rfl (by decide) ?_
  refine ok_icmp_le (q := 21) (q2 := 13) dX12_place_10 rfl rfl ?_ ?_
  · skip
    refine ok_aload_n (q := 22) 0 dX12_place_21 rfl rfl rfl ?_
    refine ok_iconst (q := 23) (x := 0) dX12_place_22 rfl rfl (by decide) ?_
    refine ok_putI (q := 26) (ci := 12) (k := 15) dX12_place_23 rfl fo_X12_260 h0 ft_12_15 ff_12_15 (fun I_2 => ?_)
    refine ok_aload_n (q := 27) 0 dX12_place_26 rfl rfl rfl ?_
    refine ok_aload_n (q := 28) 0 dX12_place_27 rfl rfl rfl ?_
    refine ok_getR (q := 31) (ci := 12) (k := 3) (x := F a0 3) dX12_place_28 rfl fo_X12_13 h0 rfl ?_
    refine ok_aload_n (q := 32) 0 dX12_place_31 rfl rfl rfl ?_
    refine ok_getI (q := 35) (ci := 12) (k := 5) (x := I_2 a0 5) dX12_place_32 rfl fo_X12_96 h0 rfl ?_
    refine fi_callV2P (q := 38) (as := [qr (F a0 3), qi (I_2 a0 5)]) (st := []) dX12_place_35 rfl mo_X12_209 h0 rfl (Nat.le_of_ble_eq_true rfl) rfl rfl (Nat.le_of_ble_eq_true rfl) (Nat.le_of_ble_eq_true rfl) (Nat.le_of_ble_eq_true rfl) (Nat.zero_le _) (Nat.zero_le _) (fun _ hr => ct_X12_placeOf (N := N) h0 hr) (fun v_3 => ?_)
    exact fi_lreturnS dX12_place_38 rfl
  · skip
    refine ok_aload_n (q := 14) 0 dX12_place_13 rfl rfl rfl ?_
    refine ok_bipush (q := 16) (x := 10) dX12_place_14 rfl rfl (by decide) ?_
    refine fi_callV1S (q := 19) (as := [qi 10]) (st := []) dX12_place_16 rfl mo_X12_265 h0 rfl (Nat.le_of_ble_eq_true rfl) rfl rfl (Nat.le_of_ble_eq_true rfl) (Nat.le_of_ble_eq_true rfl) (Nat.le_of_ble_eq_true rfl) (Nat.zero_le _) (Nat.zero_le _) (fun _ hr => ct_X12_no (N := N) h0 hr) (fun v_4 I_5 => ?_)
    refine ok_i2l (q := 20) dX12_place_19 rfl ?_
    exact fi_lreturnS dX12_place_20 rfl
theorem ct_X12_place {η : am_E} {l : Launch} {N : Nat} {n : Nat} {K : am_K} {I : am_I} {F : am_F} {a0 : Nat} {r0 : Int × am_I} (h0 : (K a0).1 = 12) : X12_place N K F a0 I = some r0 → am_Ct η l yX12_place cX12_place 1 (some .long) 4 94 0 0 [qr a0] n K I F (am_pS 2 r0 n K F) := fun g => am_Ct.of false (by decide) (by decide) (Nat.le_of_ble_eq_true rfl) (fun _ => w_X12_place (N := N) h0 g)
def M_X12_ofPlace : am_M := (yX12_ofPlace.cls, cX12_ofPlace, 7, (some .int), am_room 4 93 0 0, false)
def X12_ofPlace_b97 (N : Nat) (K : am_K) (F : am_F) (a0 : Nat) (k71 : am_I → Int → Int → Int → Option (Int × am_I)) (I : am_I) (x3 : Int) (x6 : Int) (s0 : Int) (s1 : Int) : Option (Int × am_I) :=
  if am_inI (s1 + s0) then am_lt (s1 + s0) (fun x5_2 => k71 I x3 x5_2 x6) else none
theorem w_X12_ofPlace_b97 {η : am_E} {l : Launch} {N : Nat} {n : Nat} {K : am_K} {I : am_I} {F : am_F} {a0 : Nat} {r0 : Int × am_I} {k71 : am_I → Int → Int → Int → Option (Int × am_I)} {x3 : Int} {x6 : Int} {s0 : Int} {s1 : Int} (h0 : (K a0).1 = 12) (H71 : ∀ (I : am_I) (x3 : Int) (x5 : Int) (x6 : Int), k71 I x3 x5 x6 = some r0 → Ok η l M_X12_ofPlace (am_qm η (am_pS 1 r0 n K F) 0 0) 71 [(0, qr a0), (3, qi x3), (5, qi x5), (6, qi x6)] [] n K I F 0 0) : X12_ofPlace_b97 N K F a0 k71 I x3 x6 s0 s1 = some r0 → Ok η l M_X12_ofPlace (am_qm η (am_pS 1 r0 n K F) 0 0) 97 [(0, qr a0), (3, qi x3), (6, qi x6)] [qi s0, qi s1] n K I F 0 0 := by
  unfold X12_ofPlace_b97
  refine fi_chk (fun h_1 => ?_)
  refine ok_iadd (q := 98) dX12_ofPlace_97 rfl h_1 ?_
  refine ok_istoreL (q := 100) (fun x5_2 => [(5, qi x5_2), (0, qr a0), (3, qi x3), (6, qi x6)]) dX12_ofPlace_98 rfl (Nat.le_of_ble_eq_true rfl) (fun _ => rfl) (fun x5_2 => ?_)
  refine ok_goto (q := 71) dX12_ofPlace_100 rfl ?_
  exact fun g => ok_pick [1, 2, 0, 3] rfl (H71 _ _ _ _ g)
def X12_ofPlace_s71 (N : Nat) (K : am_K) (F : am_F) (a0 : Nat) (k71 : am_I → Int → Int → Int → Option (Int × am_I)) (I : am_I) (x3 : Int) (x5 : Int) (x6 : Int) : Option (Int × am_I) :=
  if x5 < x3 then (if am_inI (x6 + 1) then am_lt (x6 + 1) (fun x6_6 => if (K (F a0 2)).1 = 101 then if (0 : Int) ≤ x6_6 ∧ x6_6 < (K (F a0 2)).2 then if (I (F a0 2) x6_6) = 0 then (X12_ofPlace_b97 N K F a0 k71 I x3 x6_6 1 x5) else (X12_ofPlace_b97 N K F a0 k71 I x3 x6_6 0 x5) else none else none) else none) else (if (K (F a0 20)).1 = 100 then if (0 : Int) ≤ x6 ∧ x6 < (K (F a0 20)).2 then am_cl (X12_ok N K F a0 I (I (F a0 20) x6)) (fun v_3 I_4 => some (v_3, I_4)) else none else none)
theorem w_X12_ofPlace_s71 {η : am_E} {l : Launch} {N : Nat} {n : Nat} {K : am_K} {I : am_I} {F : am_F} {a0 : Nat} {r0 : Int × am_I} {k71 : am_I → Int → Int → Int → Option (Int × am_I)} {x3 : Int} {x5 : Int} {x6 : Int} (h0 : (K a0).1 = 12) (H71 : ∀ (I : am_I) (x3 : Int) (x5 : Int) (x6 : Int), k71 I x3 x5 x6 = some r0 → Ok η l M_X12_ofPlace (am_qm η (am_pS 1 r0 n K F) 0 0) 71 [(0, qr a0), (3, qi x3), (5, qi x5), (6, qi x6)] [] n K I F 0 0) : X12_ofPlace_s71 N K F a0 k71 I x3 x5 x6 = some r0 → Ok η l M_X12_ofPlace (am_qm η (am_pS 1 r0 n K F) 0 0) 71 [(0, qr a0), (3, qi x3), (5, qi x5), (6, qi x6)] [] n K I F 0 0 := by
  unfold X12_ofPlace_s71
  refine ok_iload (q := 73) 2 dX12_ofPlace_71 rfl rfl ?_
  refine ok_iload_n (q := 74) 1 dX12_ofPlace_73 rfl rfl rfl ?_
  refine ok_icmp_ge (q := 103) (q2 := 77) dX12_ofPlace_74 rfl rfl ?_ ?_
  · skip
    refine ok_aload_n (q := 104) 0 dX12_ofPlace_103 rfl rfl rfl ?_
    refine ok_aload_n (q := 105) 0 dX12_ofPlace_104 rfl rfl rfl ?_
    refine ok_getR (q := 108) (ci := 12) (k := 20) (x := F a0 20) dX12_ofPlace_105 rfl fo_X12_29 h0 rfl ?_
    refine ok_iload (q := 110) 3 dX12_ofPlace_108 rfl rfl ?_
    refine fi_chk (fun h_1 => ?_)
    refine fi_chk (fun h_2 => ?_)
    refine ok_iaload (q := 111) (v := I (F a0 20) x6) dX12_ofPlace_110 rfl h_1 h_2.1 h_2.2 rfl ?_
    refine fi_callV1S (q := 114) (as := [qi (I (F a0 20) x6)]) (st := []) dX12_ofPlace_111 rfl mo_X12_268 h0 rfl (Nat.le_of_ble_eq_true rfl) rfl rfl (Nat.le_of_ble_eq_true rfl) (Nat.le_of_ble_eq_true rfl) (Nat.le_of_ble_eq_true rfl) (Nat.zero_le _) (Nat.zero_le _) (fun _ hr => ct_X12_ok (N := N) h0 hr) (fun v_3 I_4 => ?_)
    exact fi_ireturnS dX12_ofPlace_114 rfl
  · skip
    refine fi_chk (fun h_5 => ?_)
    refine ok_iincL (q := 80) (fun x6_6 => [(6, qi x6_6), (0, qr a0), (3, qi x3), (5, qi x5)]) 3 dX12_ofPlace_77 rfl rfl h_5 (Nat.le_of_ble_eq_true rfl) (fun _ => rfl) (fun x6_6 => ?_)
    refine ok_iload (q := 82) 3 dX12_ofPlace_80 rfl rfl ?_
    refine ok_aload_n (q := 83) 1 dX12_ofPlace_82 rfl rfl rfl ?_
    refine ok_getR (q := 86) (ci := 12) (k := 2) (x := F a0 2) dX12_ofPlace_83 rfl fo_X12_9 h0 rfl ?_
    refine ok_iload (q := 88) 0 dX12_ofPlace_86 rfl rfl ?_
    refine fi_chk (fun h_7 => ?_)
    refine fi_chk (fun h_8 => ?_)
    refine ok_baload (q := 89) (v := I (F a0 2) x6_6) dX12_ofPlace_88 rfl h_7 h_8.1 h_8.2 rfl ?_
    refine ok_if_eq (q := 96) (q2 := 92) dX12_ofPlace_89 rfl rfl ?_ ?_
    · skip
      refine ok_iconst (q := 97) (x := 1) dX12_ofPlace_96 rfl rfl (by decide) ?_
      exact fun g => ok_pick [1, 2, 0] rfl (w_X12_ofPlace_b97 (N := N) h0 H71 g)
    · skip
      refine ok_iconst (q := 93) (x := 0) dX12_ofPlace_92 rfl rfl (by decide) ?_
      refine ok_goto (q := 97) dX12_ofPlace_93 rfl ?_
      exact fun g => ok_pick [1, 2, 0] rfl (w_X12_ofPlace_b97 (N := N) h0 H71 g)
def X12_ofPlace_h71 (N : Nat) (K : am_K) (F : am_F) (a0 : Nat) : Nat → am_I → Int → Int → Int → Option (Int × am_I) := am_it (fun kh => X12_ofPlace_s71 N K F a0 kh) (fun _ _ _ _ => none)
theorem w_X12_ofPlace_h71 {η : am_E} {l : Launch} {N : Nat} {n : Nat} {K : am_K} {F : am_F} {a0 : Nat} {r0 : Int × am_I} (h0 : (K a0).1 = 12) (f : Nat) : ∀ (I : am_I) (x3 : Int) (x5 : Int) (x6 : Int), X12_ofPlace_h71 N K F a0 f I x3 x5 x6 = some r0 → Ok η l M_X12_ofPlace (am_qm η (am_pS 1 r0 n K F) 0 0) 71 [(0, qr a0), (3, qi x3), (5, qi x5), (6, qi x6)] [] n K I F 0 0 := by
  induction f with
  | zero => intro I x3 x5 x6 g; exact fi_none g
  | succ f ih => intro I x3 x5 x6 g; exact w_X12_ofPlace_s71 (N := N) h0 ih g
def X12_ofPlace (N : Nat) (K : am_K) (F : am_F) (a0 : Nat) (I : am_I) (x1 : Int) (x3 : Int) : Option (Int × am_I) :=
  am_cq (X12_placesTo N K F I a0 12) (fun v_1 => am_cq (X12_isIn N K F I x1 0 (am_wL (v_1 - 1))) (fun v_2 => if v_2 = 0 then (am_cl (X12_no N K F a0 I 3) (fun v_12 I_13 => some (v_12, I_13))) else (am_cq (X12_there N K F I a0) (fun v_3 => if am_inI (v_3 - 1) then am_cq (X12_isIn N K F I x3 (-1) (v_3 - 1)) (fun v_5 => if v_5 = 0 then (am_cl (X12_no N K F a0 I 7) (fun v_10 I_11 => some (v_10, I_11))) else (am_cl (X12_layOut N K F a0 I x1) (fun v_6 I_7 => if x3 < 0 then (am_cl (X12_ok N K F a0 I_7 v_6) (fun v_8 I_9 => some (v_8, I_9))) else (X12_ofPlace_h71 N K F a0 N I_7 x3 (-1) (-1))))) else none))))
theorem w_X12_ofPlace {η : am_E} {l : Launch} {N : Nat} {n : Nat} {K : am_K} {I : am_I} {F : am_F} {a0 : Nat} {r0 : Int × am_I} {x1 : Int} {x3 : Int} (h0 : (K a0).1 = 12) : X12_ofPlace N K F a0 I x1 x3 = some r0 → Ok η l M_X12_ofPlace (am_qm η (am_pS 1 r0 n K F) 0 0) 0 [(0, qr a0), (1, ql x1), (3, qi x3)] [] n K I F 0 0 := by
  unfold X12_ofPlace
  refine ok_lload_n (q := 1) 1 dX12_ofPlace_0 rfl rfl rfl ?_
  refine ok_lconst (q := 2) (x := 0) dX12_ofPlace_1 rfl rfl (by decide) ?_
  refine ok_aload_n (q := 3) 0 dX12_ofPlace_2 rfl rfl rfl ?_
  refine ok_bipush (q := 5) (x := 12) dX12_ofPlace_3 rfl rfl (by decide) ?_
  refine fi_callV2P (q := 8) (as := [qi 12]) (st := [ql 0, ql x1]) dX12_ofPlace_5 rfl mo_X12_193 h0 rfl (Nat.le_of_ble_eq_true rfl) rfl rfl (Nat.le_of_ble_eq_true rfl) (Nat.le_of_ble_eq_true rfl) (Nat.le_of_ble_eq_true rfl) (Nat.zero_le _) (Nat.zero_le _) (fun _ hr => ct_X12_placesTo (N := N) h0 hr) (fun v_1 => ?_)
  refine ok_lconst (q := 9) (x := 1) dX12_ofPlace_8 rfl rfl (by decide) ?_
  refine ok_lsubW (q := 10) dX12_ofPlace_9 rfl ?_
  refine fi_callS1P (q := 13) (as := [ql x1, ql 0, ql (am_wL (v_1 - 1))]) (st := []) dX12_ofPlace_10 rfl mo_X12_164 rfl rfl (Nat.le_of_ble_eq_true rfl) (Nat.le_of_ble_eq_true rfl) (Nat.le_of_ble_eq_true rfl) (Nat.zero_le _) (Nat.zero_le _) (fun _ hr => ct_X12_isIn (N := N) hr) (fun v_2 => ?_)
  refine ok_if_ne (q := 22) (q2 := 16) dX12_ofPlace_13 rfl rfl ?_ ?_
  · skip
    refine ok_iload_n (q := 23) 2 dX12_ofPlace_22 rfl rfl rfl ?_
    refine ok_i2l (q := 24) dX12_ofPlace_23 rfl ?_
    refine ok_ldc2 (q := 27) (x := -1) (v := -1) dX12_ofPlace_24 rfl kc_X12_306 rfl (by decide) ?_
    refine ok_aload_n (q := 28) 0 dX12_ofPlace_27 rfl rfl rfl ?_
    refine fi_callV1P (q := 31) (as := []) (st := [ql (-1), ql x3]) dX12_ofPlace_28 rfl mo_X12_180 h0 rfl (Nat.le_of_ble_eq_true rfl) rfl rfl (Nat.le_of_ble_eq_true rfl) (Nat.le_of_ble_eq_true rfl) (Nat.le_of_ble_eq_true rfl) (Nat.zero_le _) (Nat.zero_le _) (fun _ hr => ct_X12_there (N := N) h0 hr) (fun v_3 => ?_)
    refine ok_iconst (q := 32) (x := 1) dX12_ofPlace_31 rfl rfl (by decide) ?_
    refine fi_chk (fun h_4 => ?_)
    refine ok_isub (q := 33) dX12_ofPlace_32 rfl h_4 ?_
    refine ok_i2l (q := 34) dX12_ofPlace_33 rfl ?_
    refine fi_callS1P (q := 37) (as := [ql x3, ql (-1), ql (v_3 - 1)]) (st := []) dX12_ofPlace_34 rfl mo_X12_164 rfl rfl (Nat.le_of_ble_eq_true rfl) (Nat.le_of_ble_eq_true rfl) (Nat.le_of_ble_eq_true rfl) (Nat.zero_le _) (Nat.zero_le _) (fun _ hr => ct_X12_isIn (N := N) hr) (fun v_5 => ?_)
    refine ok_if_ne (q := 47) (q2 := 40) dX12_ofPlace_37 rfl rfl ?_ ?_
    · skip
      refine ok_aload_n (q := 48) 0 dX12_ofPlace_47 rfl rfl rfl ?_
      refine ok_lload_n (q := 49) 1 dX12_ofPlace_48 rfl rfl rfl ?_
      refine fi_callV1S (q := 52) (as := [ql x1]) (st := []) dX12_ofPlace_49 rfl mo_X12_197 h0 rfl (Nat.le_of_ble_eq_true rfl) rfl rfl (Nat.le_of_ble_eq_true rfl) (Nat.le_of_ble_eq_true rfl) (Nat.le_of_ble_eq_true rfl) (Nat.zero_le _) (Nat.zero_le _) (fun _ hr => ct_X12_layOut (N := N) h0 hr) (fun v_6 I_7 => ?_)
      refine ok_istore (q := 54) (ls' := [(4, qi v_6), (0, qr a0), (1, ql x1), (3, qi x3)]) dX12_ofPlace_52 rfl (Nat.le_of_ble_eq_true rfl) rfl ?_
      refine ok_iload_n (q := 55) 3 dX12_ofPlace_54 rfl rfl rfl ?_
      refine ok_if_ge (q := 65) (q2 := 58) dX12_ofPlace_55 rfl rfl ?_ ?_
      · skip
        refine ok_iconst (q := 66) (x := -1) dX12_ofPlace_65 rfl rfl (by decide) ?_
        refine ok_istore (q := 68) (ls' := [(5, qi (-1)), (4, qi v_6), (0, qr a0), (1, ql x1), (3, qi x3)]) dX12_ofPlace_66 rfl (Nat.le_of_ble_eq_true rfl) rfl ?_
        refine ok_iconst (q := 69) (x := -1) dX12_ofPlace_68 rfl rfl (by decide) ?_
        refine ok_istore (q := 71) (ls' := [(6, qi (-1)), (5, qi (-1)), (4, qi v_6), (0, qr a0), (1, ql x1), (3, qi x3)]) dX12_ofPlace_69 rfl (Nat.le_of_ble_eq_true rfl) rfl ?_
        exact fun g => ok_pick [3, 5, 1, 0] rfl (w_X12_ofPlace_h71 (N := N) h0 N _ _ _ _ g)
      · skip
        refine ok_aload_n (q := 59) 1 dX12_ofPlace_58 rfl rfl rfl ?_
        refine ok_iload (q := 61) 0 dX12_ofPlace_59 rfl rfl ?_
        refine fi_callV1S (q := 64) (as := [qi v_6]) (st := []) dX12_ofPlace_61 rfl mo_X12_268 h0 rfl (Nat.le_of_ble_eq_true rfl) rfl rfl (Nat.le_of_ble_eq_true rfl) (Nat.le_of_ble_eq_true rfl) (Nat.le_of_ble_eq_true rfl) (Nat.zero_le _) (Nat.zero_le _) (fun _ hr => ct_X12_ok (N := N) h0 hr) (fun v_8 I_9 => ?_)
        exact fi_ireturnS dX12_ofPlace_64 rfl
    · skip
      refine ok_aload_n (q := 41) 0 dX12_ofPlace_40 rfl rfl rfl ?_
      refine ok_bipush (q := 43) (x := 7) dX12_ofPlace_41 rfl rfl (by decide) ?_
      refine fi_callV1S (q := 46) (as := [qi 7]) (st := []) dX12_ofPlace_43 rfl mo_X12_265 h0 rfl (Nat.le_of_ble_eq_true rfl) rfl rfl (Nat.le_of_ble_eq_true rfl) (Nat.le_of_ble_eq_true rfl) (Nat.le_of_ble_eq_true rfl) (Nat.zero_le _) (Nat.zero_le _) (fun _ hr => ct_X12_no (N := N) h0 hr) (fun v_10 I_11 => ?_)
      exact fi_ireturnS dX12_ofPlace_46 rfl
  · skip
    refine ok_aload_n (q := 17) 0 dX12_ofPlace_16 rfl rfl rfl ?_
    refine ok_iconst (q := 18) (x := 3) dX12_ofPlace_17 rfl rfl (by decide) ?_
    refine fi_callV1S (q := 21) (as := [qi 3]) (st := []) dX12_ofPlace_18 rfl mo_X12_265 h0 rfl (Nat.le_of_ble_eq_true rfl) rfl rfl (Nat.le_of_ble_eq_true rfl) (Nat.le_of_ble_eq_true rfl) (Nat.le_of_ble_eq_true rfl) (Nat.zero_le _) (Nat.zero_le _) (fun _ hr => ct_X12_no (N := N) h0 hr) (fun v_12 I_13 => ?_)
    exact fi_ireturnS dX12_ofPlace_21 rfl
theorem ct_X12_ofPlace {η : am_E} {l : Launch} {N : Nat} {n : Nat} {K : am_K} {I : am_I} {F : am_F} {a0 : Nat} {r0 : Int × am_I} {x1 : Int} {x3 : Int} (h0 : (K a0).1 = 12) : X12_ofPlace N K F a0 I x1 x3 = some r0 → am_Ct η l yX12_ofPlace cX12_ofPlace 7 (some .int) 4 93 0 0 [qr a0, ql x1, qi x3] n K I F (am_pS 1 r0 n K F) := fun g => am_Ct.of false (by decide) (by decide) (Nat.le_of_ble_eq_true rfl) (fun _ => w_X12_ofPlace (N := N) h0 g)
def M_X12_sidePits : am_M := (yX12_sidePits.cls, cX12_sidePits, 4, (some .int), am_room 1 21 0 0, false)
def X12_sidePits_b36 (N : Nat) (K : am_K) (F : am_F) (I : am_I) (a0 : Nat) (k4 : Int → Int → Int → Option Int) (x1 : Int) (x3 : Int) (s0 : Int) (s1 : Int) : Option Int :=
  if am_inI (s1 + s0) then am_lt (s1 + s0) (fun x2_2 => if am_inI (x3 + 1) then am_lt (x3 + 1) (fun x3_4 => k4 x1 x2_2 x3_4) else none) else none
theorem w_X12_sidePits_b36 {η : am_E} {l : Launch} {N : Nat} {n : Nat} {K : am_K} {I : am_I} {F : am_F} {a0 : Nat} {r0 : Int} {k4 : Int → Int → Int → Option Int} {x1 : Int} {x3 : Int} {s0 : Int} {s1 : Int} (h0 : (K a0).1 = 12) (H4 : ∀ (x1 : Int) (x2 : Int) (x3 : Int), k4 x1 x2 x3 = some r0 → Ok η l M_X12_sidePits (am_qm η (am_pS 1 (r0, I) n K F) 0 0) 4 [(0, qr a0), (1, qi x1), (2, qi x2), (3, qi x3)] [] n K I F 0 0) : X12_sidePits_b36 N K F I a0 k4 x1 x3 s0 s1 = some r0 → Ok η l M_X12_sidePits (am_qm η (am_pS 1 (r0, I) n K F) 0 0) 36 [(0, qr a0), (1, qi x1), (3, qi x3)] [qi s0, qi s1] n K I F 0 0 := by
  unfold X12_sidePits_b36
  refine fi_chk (fun h_1 => ?_)
  refine ok_iadd (q := 37) dX12_sidePits_36 rfl h_1 ?_
  refine ok_istore_nL (q := 38) (fun x2_2 => [(2, qi x2_2), (0, qr a0), (1, qi x1), (3, qi x3)]) dX12_sidePits_37 rfl rfl (Nat.le_of_ble_eq_true rfl) (fun _ => rfl) (fun x2_2 => ?_)
  refine fi_chk (fun h_3 => ?_)
  refine ok_iincL (q := 41) (fun x3_4 => [(3, qi x3_4), (2, qi x2_2), (0, qr a0), (1, qi x1)]) 3 dX12_sidePits_38 rfl rfl h_3 (Nat.le_of_ble_eq_true rfl) (fun _ => rfl) (fun x3_4 => ?_)
  refine ok_goto (q := 4) dX12_sidePits_41 rfl ?_
  exact fun g => ok_pick [2, 3, 1, 0] rfl (H4 _ _ _ g)
def X12_sidePits_b35 (N : Nat) (K : am_K) (F : am_F) (I : am_I) (a0 : Nat) (k4 : Int → Int → Int → Option Int) (x1 : Int) (x3 : Int) (s0 : Int) : Option Int :=
  X12_sidePits_b36 N K F I a0 k4 x1 x3 0 s0
theorem w_X12_sidePits_b35 {η : am_E} {l : Launch} {N : Nat} {n : Nat} {K : am_K} {I : am_I} {F : am_F} {a0 : Nat} {r0 : Int} {k4 : Int → Int → Int → Option Int} {x1 : Int} {x3 : Int} {s0 : Int} (h0 : (K a0).1 = 12) (H4 : ∀ (x1 : Int) (x2 : Int) (x3 : Int), k4 x1 x2 x3 = some r0 → Ok η l M_X12_sidePits (am_qm η (am_pS 1 (r0, I) n K F) 0 0) 4 [(0, qr a0), (1, qi x1), (2, qi x2), (3, qi x3)] [] n K I F 0 0) : X12_sidePits_b35 N K F I a0 k4 x1 x3 s0 = some r0 → Ok η l M_X12_sidePits (am_qm η (am_pS 1 (r0, I) n K F) 0 0) 35 [(0, qr a0), (1, qi x1), (3, qi x3)] [qi s0] n K I F 0 0 := by
  unfold X12_sidePits_b35
  refine ok_iconst (q := 36) (x := 0) dX12_sidePits_35 rfl rfl (by decide) ?_
  exact fun g => ok_pick [0, 1, 2] rfl (w_X12_sidePits_b36 (N := N) h0 H4 g)
def X12_sidePits_s4 (N : Nat) (K : am_K) (F : am_F) (I : am_I) (a0 : Nat) (k4 : Int → Int → Int → Option Int) (x1 : Int) (x2 : Int) (x3 : Int) : Option Int :=
  am_cq (X12_all N K F I a0) (fun v_1 => if x3 < v_1 then (if (K (F a0 2)).1 = 101 then if (0 : Int) ≤ x3 ∧ x3 < (K (F a0 2)).2 then if (I (F a0 2) x3) = 0 then (am_cq (X12_sideOf N K F I a0 x3) (fun v_4 => if v_4 = x1 then (X12_sidePits_b36 N K F I a0 k4 x1 x3 1 x2) else (X12_sidePits_b35 N K F I a0 k4 x1 x3 x2))) else (X12_sidePits_b35 N K F I a0 k4 x1 x3 x2) else none else none) else (some (x2)))
theorem w_X12_sidePits_s4 {η : am_E} {l : Launch} {N : Nat} {n : Nat} {K : am_K} {I : am_I} {F : am_F} {a0 : Nat} {r0 : Int} {k4 : Int → Int → Int → Option Int} {x1 : Int} {x2 : Int} {x3 : Int} (h0 : (K a0).1 = 12) (H4 : ∀ (x1 : Int) (x2 : Int) (x3 : Int), k4 x1 x2 x3 = some r0 → Ok η l M_X12_sidePits (am_qm η (am_pS 1 (r0, I) n K F) 0 0) 4 [(0, qr a0), (1, qi x1), (2, qi x2), (3, qi x3)] [] n K I F 0 0) : X12_sidePits_s4 N K F I a0 k4 x1 x2 x3 = some r0 → Ok η l M_X12_sidePits (am_qm η (am_pS 1 (r0, I) n K F) 0 0) 4 [(0, qr a0), (1, qi x1), (2, qi x2), (3, qi x3)] [] n K I F 0 0 := by
  unfold X12_sidePits_s4
  refine ok_iload_n (q := 5) 3 dX12_sidePits_4 rfl rfl rfl ?_
  refine ok_aload_n (q := 6) 0 dX12_sidePits_5 rfl rfl rfl ?_
  refine fi_callV1P (q := 9) (as := []) (st := [qi x3]) dX12_sidePits_6 rfl mo_X12_133 h0 rfl (Nat.le_of_ble_eq_true rfl) rfl rfl (Nat.le_of_ble_eq_true rfl) (Nat.le_of_ble_eq_true rfl) (Nat.le_of_ble_eq_true rfl) (Nat.zero_le _) (Nat.zero_le _) (fun _ hr => ct_X12_all (N := N) h0 hr) (fun v_1 => ?_)
  refine ok_icmp_ge (q := 44) (q2 := 12) dX12_sidePits_9 rfl rfl ?_ ?_
  · skip
    refine ok_iload_n (q := 45) 2 dX12_sidePits_44 rfl rfl rfl ?_
    exact fi_ireturnP dX12_sidePits_45 rfl
  · skip
    refine ok_iload_n (q := 13) 2 dX12_sidePits_12 rfl rfl rfl ?_
    refine ok_aload_n (q := 14) 0 dX12_sidePits_13 rfl rfl rfl ?_
    refine ok_getR (q := 17) (ci := 12) (k := 2) (x := F a0 2) dX12_sidePits_14 rfl fo_X12_9 h0 rfl ?_
    refine ok_iload_n (q := 18) 3 dX12_sidePits_17 rfl rfl rfl ?_
    refine fi_chk (fun h_2 => ?_)
    refine fi_chk (fun h_3 => ?_)
    refine ok_baload (q := 19) (v := I (F a0 2) x3) dX12_sidePits_18 rfl h_2 h_3.1 h_3.2 rfl ?_
    refine ok_if_ne (q := 35) (q2 := 22) dX12_sidePits_19 rfl rfl ?_ ?_
    · skip
      exact fun g => ok_pick [0, 1, 3] rfl (w_X12_sidePits_b35 (N := N) h0 H4 g)
    · skip
      refine ok_aload_n (q := 23) 0 dX12_sidePits_22 rfl rfl rfl ?_
      refine ok_iload_n (q := 24) 3 dX12_sidePits_23 rfl rfl rfl ?_
      refine fi_callV1P (q := 27) (as := [qi x3]) (st := [qi x2]) dX12_sidePits_24 rfl mo_X12_137 h0 rfl (Nat.le_of_ble_eq_true rfl) rfl rfl (Nat.le_of_ble_eq_true rfl) (Nat.le_of_ble_eq_true rfl) (Nat.le_of_ble_eq_true rfl) (Nat.zero_le _) (Nat.zero_le _) (fun _ hr => ct_X12_sideOf (N := N) h0 hr) (fun v_4 => ?_)
      refine ok_iload_n (q := 28) 1 dX12_sidePits_27 rfl rfl rfl ?_
      refine ok_icmp_ne (q := 35) (q2 := 31) dX12_sidePits_28 rfl rfl ?_ ?_
      · skip
        exact fun g => ok_pick [0, 1, 3] rfl (w_X12_sidePits_b35 (N := N) h0 H4 g)
      · skip
        refine ok_iconst (q := 32) (x := 1) dX12_sidePits_31 rfl rfl (by decide) ?_
        refine ok_goto (q := 36) dX12_sidePits_32 rfl ?_
        exact fun g => ok_pick [0, 1, 3] rfl (w_X12_sidePits_b36 (N := N) h0 H4 g)
def X12_sidePits_h4 (N : Nat) (K : am_K) (F : am_F) (I : am_I) (a0 : Nat) : Nat → Int → Int → Int → Option Int := am_it (fun kh => X12_sidePits_s4 N K F I a0 kh) (fun _ _ _ => none)
theorem w_X12_sidePits_h4 {η : am_E} {l : Launch} {N : Nat} {n : Nat} {K : am_K} {I : am_I} {F : am_F} {a0 : Nat} {r0 : Int} (h0 : (K a0).1 = 12) (f : Nat) : ∀ (x1 : Int) (x2 : Int) (x3 : Int), X12_sidePits_h4 N K F I a0 f x1 x2 x3 = some r0 → Ok η l M_X12_sidePits (am_qm η (am_pS 1 (r0, I) n K F) 0 0) 4 [(0, qr a0), (1, qi x1), (2, qi x2), (3, qi x3)] [] n K I F 0 0 := by
  induction f with
  | zero => intro x1 x2 x3 g; exact fi_none g
  | succ f ih => intro x1 x2 x3 g; exact w_X12_sidePits_s4 (N := N) h0 ih g
def X12_sidePits (N : Nat) (K : am_K) (F : am_F) (I : am_I) (a0 : Nat) (x1 : Int) : Option Int :=
  X12_sidePits_h4 N K F I a0 N x1 0 0
theorem w_X12_sidePits {η : am_E} {l : Launch} {N : Nat} {n : Nat} {K : am_K} {I : am_I} {F : am_F} {a0 : Nat} {r0 : Int} {x1 : Int} (h0 : (K a0).1 = 12) : X12_sidePits N K F I a0 x1 = some r0 → Ok η l M_X12_sidePits (am_qm η (am_pS 1 (r0, I) n K F) 0 0) 0 [(0, qr a0), (1, qi x1)] [] n K I F 0 0 := by
  unfold X12_sidePits
  refine ok_iconst (q := 1) (x := 0) dX12_sidePits_0 rfl rfl (by decide) ?_
  refine ok_istore_n (q := 2) (ls' := [(2, qi 0), (0, qr a0), (1, qi x1)]) dX12_sidePits_1 rfl rfl (Nat.le_of_ble_eq_true rfl) rfl ?_
  refine ok_iconst (q := 3) (x := 0) dX12_sidePits_2 rfl rfl (by decide) ?_
  refine ok_istore_n (q := 4) (ls' := [(3, qi 0), (2, qi 0), (0, qr a0), (1, qi x1)]) dX12_sidePits_3 rfl rfl (Nat.le_of_ble_eq_true rfl) rfl ?_
  exact fun g => ok_pick [2, 3, 1, 0] rfl (w_X12_sidePits_h4 (N := N) h0 N _ _ _ g)
theorem ct_X12_sidePits {η : am_E} {l : Launch} {N : Nat} {n : Nat} {K : am_K} {I : am_I} {F : am_F} {a0 : Nat} {r0 : Int} {x1 : Int} (h0 : (K a0).1 = 12) : X12_sidePits N K F I a0 x1 = some r0 → am_Ct η l yX12_sidePits cX12_sidePits 4 (some .int) 1 21 0 0 [qr a0, qi x1] n K I F (am_pS 1 (r0, I) n K F) := fun g => am_Ct.of false (by decide) (by decide) (Nat.le_of_ble_eq_true rfl) (fun _ => w_X12_sidePits (N := N) h0 g)
