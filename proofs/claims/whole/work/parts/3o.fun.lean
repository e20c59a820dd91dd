def M_X12_copy : am_M := (yX12_copy.cls, cX12_copy, 2, (some .int), am_room 1 21 0 0, false)
def X12_copy_s16 (N : Nat) (K : am_K) (F : am_F) (a0 : Nat) (k16 : am_I → Int → Option (Int × am_I)) (I : am_I) (x1 : Int) : Option (Int × am_I) :=
  if x1 < (I a0 24) then (if (K (F a0 25)).1 = 100 then if (0 : Int) ≤ x1 ∧ x1 < (K (F a0 25)).2 then if (K (F a0 27)).1 = 100 then if F a0 27 ≠ 1 then if (0 : Int) ≤ x1 ∧ x1 < (K (F a0 27)).2 then am_lt (am_u2 I (F a0 27) x1 (I (F a0 25) x1)) (fun I_8 => if (K (F a0 26)).1 = 100 then if (0 : Int) ≤ x1 ∧ x1 < (K (F a0 26)).2 then if (K (F a0 28)).1 = 100 then if F a0 28 ≠ 1 then if (0 : Int) ≤ x1 ∧ x1 < (K (F a0 28)).2 then am_lt (am_u2 I_8 (F a0 28) x1 (I_8 (F a0 26) x1)) (fun I_14 => if am_inI (x1 + 1) then am_lt (x1 + 1) (fun x1_16 => k16 I_14 x1_16) else none) else none else none else none else none else none) else none else none else none else none else none) else (am_cl (X12_ok N K F a0 I (I a0 24)) (fun v_1 I_2 => some (v_1, I_2)))
theorem w_X12_copy_s16 {η : am_E} {l : Launch} {N : Nat} {n : Nat} {K : am_K} {I : am_I} {F : am_F} {a0 : Nat} {r0 : Int × am_I} {k16 : am_I → Int → Option (Int × am_I)} {x1 : Int} (h0 : (K a0).1 = 12) (H16 : ∀ (I : am_I) (x1 : Int), k16 I x1 = some r0 → Ok η l M_X12_copy (am_qm η (am_pS 1 r0 n K F) 0 0) 16 [(0, qr a0), (1, qi x1)] [] n K I F 0 0) : X12_copy_s16 N K F a0 k16 I x1 = some r0 → Ok η l M_X12_copy (am_qm η (am_pS 1 r0 n K F) 0 0) 16 [(0, qr a0), (1, qi x1)] [] n K I F 0 0 := by
  unfold X12_copy_s16
  refine ok_iload_n (q := 17) 1 dX12_copy_16 rfl rfl rfl ?_
  refine ok_aload_n (q := 18) 0 dX12_copy_17 rfl rfl rfl ?_
  refine ok_getI (q := 21) (ci := 12) (k := 24) (x := I a0 24) dX12_copy_18 rfl fo_X12_238 h0 rfl ?_
  refine ok_icmp_ge (q := 54) (q2 := 24) dX12_copy_21 rfl rfl ?_ ?_
  · skip
    refine ok_aload_n (q := 55) 0 dX12_copy_54 rfl rfl rfl ?_
    refine ok_aload_n (q := 56) 0 dX12_copy_55 rfl rfl rfl ?_
    refine ok_getI (q := 59) (ci := 12) (k := 24) (x := I a0 24) dX12_copy_56 rfl fo_X12_238 h0 rfl ?_
    refine fi_callV1S (q := 62) (as := [qi (I a0 24)]) (st := []) dX12_copy_59 rfl mo_X12_268 h0 rfl (Nat.le_of_ble_eq_true rfl) rfl rfl (Nat.le_of_ble_eq_true rfl) (Nat.le_of_ble_eq_true rfl) (Nat.le_of_ble_eq_true rfl) (Nat.zero_le _) (Nat.zero_le _) (fun _ hr => ct_X12_ok (N := N) h0 hr) (fun v_1 I_2 => ?_)
    exact fi_ireturnS dX12_copy_62 rfl
  · skip
    refine ok_aload_n (q := 25) 0 dX12_copy_24 rfl rfl rfl ?_
    refine ok_getR (q := 28) (ci := 12) (k := 27) (x := F a0 27) dX12_copy_25 rfl fo_X12_39 h0 rfl ?_
    refine ok_iload_n (q := 29) 1 dX12_copy_28 rfl rfl rfl ?_
    refine ok_aload_n (q := 30) 0 dX12_copy_29 rfl rfl rfl ?_
    refine ok_getR (q := 33) (ci := 12) (k := 25) (x := F a0 25) dX12_copy_30 rfl fo_X12_33 h0 rfl ?_
    refine ok_iload_n (q := 34) 1 dX12_copy_33 rfl rfl rfl ?_
    refine fi_chk (fun h_3 => ?_)
    refine fi_chk (fun h_4 => ?_)
    refine ok_iaload (q := 35) (v := I (F a0 25) x1) dX12_copy_34 rfl h_3 h_4.1 h_4.2 rfl ?_
    refine fi_chk (fun h_5 => ?_)
    refine fi_chk (fun h_6 => ?_)
    refine fi_chk (fun h_7 => ?_)
    refine ok_iastore (q := 36) dX12_copy_35 rfl h_5 h_6 h_7.1 h_7.2 (fun I_8 => ?_)
    refine ok_aload_n (q := 37) 0 dX12_copy_36 rfl rfl rfl ?_
    refine ok_getR (q := 40) (ci := 12) (k := 28) (x := F a0 28) dX12_copy_37 rfl fo_X12_42 h0 rfl ?_
    refine ok_iload_n (q := 41) 1 dX12_copy_40 rfl rfl rfl ?_
    refine ok_aload_n (q := 42) 0 dX12_copy_41 rfl rfl rfl ?_
    refine ok_getR (q := 45) (ci := 12) (k := 26) (x := F a0 26) dX12_copy_42 rfl fo_X12_36 h0 rfl ?_
    refine ok_iload_n (q := 46) 1 dX12_copy_45 rfl rfl rfl ?_
    refine fi_chk (fun h_9 => ?_)
    refine fi_chk (fun h_10 => ?_)
    refine ok_iaload (q := 47) (v := I_8 (F a0 26) x1) dX12_copy_46 rfl h_9 h_10.1 h_10.2 rfl ?_
    refine fi_chk (fun h_11 => ?_)
    refine fi_chk (fun h_12 => ?_)
    refine fi_chk (fun h_13 => ?_)
    refine ok_iastore (q := 48) dX12_copy_47 rfl h_11 h_12 h_13.1 h_13.2 (fun I_14 => ?_)
    refine fi_chk (fun h_15 => ?_)
    refine ok_iincL (q := 51) (fun x1_16 => [(1, qi x1_16), (0, qr a0)]) 1 dX12_copy_48 rfl rfl h_15 (Nat.le_of_ble_eq_true rfl) (fun _ => rfl) (fun x1_16 => ?_)
    refine ok_goto (q := 16) dX12_copy_51 rfl ?_
    exact fun g => ok_pick [1, 0] rfl (H16 _ _ g)
def X12_copy_h16 (N : Nat) (K : am_K) (F : am_F) (a0 : Nat) : Nat → am_I → Int → Option (Int × am_I) := am_it (fun kh => X12_copy_s16 N K F a0 kh) (fun _ _ => none)
theorem w_X12_copy_h16 {η : am_E} {l : Launch} {N : Nat} {n : Nat} {K : am_K} {F : am_F} {a0 : Nat} {r0 : Int × am_I} (h0 : (K a0).1 = 12) (f : Nat) : ∀ (I : am_I) (x1 : Int), X12_copy_h16 N K F a0 f I x1 = some r0 → Ok η l M_X12_copy (am_qm η (am_pS 1 r0 n K F) 0 0) 16 [(0, qr a0), (1, qi x1)] [] n K I F 0 0 := by
  induction f with
  | zero => intro I x1 g; exact fi_none g
  | succ f ih => intro I x1 g; exact w_X12_copy_s16 (N := N) h0 ih g
def X12_copy (N : Nat) (K : am_K) (F : am_F) (a0 : Nat) (I : am_I) : Option (Int × am_I) :=
  if (I a0 21) = 0 then (am_cl (X12_no N K F a0 I 9) (fun v_1 I_2 => some (v_1, I_2))) else (X12_copy_h16 N K F a0 N I 0)
theorem w_X12_copy {η : am_E} {l : Launch} {N : Nat} {n : Nat} {K : am_K} {I : am_I} {F : am_F} {a0 : Nat} {r0 : Int × am_I} (h0 : (K a0).1 = 12) : X12_copy N K F a0 I = some r0 → Ok η l M_X12_copy (am_qm η (am_pS 1 r0 n K F) 0 0) 0 [(0, qr a0)] [] n K I F 0 0 := by
  unfold X12_copy
  refine ok_aload_n (q := 1) 0 dX12_copy_0 rfl rfl rfl ?_
  refine ok_getI (q := 4) (ci := 12) (k := 21) (x := I a0 21) dX12_copy_1 rfl fo_X12_127 h0 rfl ?_
  refine ok_if_ne (q := 14) (q2 := 7) dX12_copy_4 rfl rfl ?_ ?_
  · skip
    refine ok_iconst (q := 15) (x := 0) dX12_copy_14 rfl rfl (by decide) ?_
    refine ok_istore_n (q := 16) (ls' := [(1, qi 0), (0, qr a0)]) dX12_copy_15 rfl rfl (Nat.le_of_ble_eq_true rfl) rfl ?_
    exact fun g => ok_pick [1, 0] rfl (w_X12_copy_h16 (N := N) h0 N _ _ g)
  · skip
    refine ok_aload_n (q := 8) 0 dX12_copy_7 rfl rfl rfl ?_
    refine ok_bipush (q := 10) (x := 9) dX12_copy_8 rfl rfl (by decide) ?_
    refine fi_callV1S (q := 13) (as := [qi 9]) (st := []) dX12_copy_10 rfl mo_X12_265 h0 rfl (Nat.le_of_ble_eq_true rfl) rfl rfl (Nat.le_of_ble_eq_true rfl) (Nat.le_of_ble_eq_true rfl) (Nat.le_of_ble_eq_true rfl) (Nat.zero_le _) (Nat.zero_le _) (fun _ hr => ct_X12_no (N := N) h0 hr) (fun v_1 I_2 => ?_)
    exact fi_ireturnS dX12_copy_13 rfl
theorem ct_X12_copy {η : am_E} {l : Launch} {N : Nat} {n : Nat} {K : am_K} {I : am_I} {F : am_F} {a0 : Nat} {r0 : Int × am_I} (h0 : (K a0).1 = 12) : X12_copy N K F a0 I = some r0 → am_Ct η l yX12_copy cX12_copy 2 (some .int) 1 21 0 0 [qr a0] n K I F (am_pS 1 r0 n K F) := fun g => am_Ct.of false (by decide) (by decide) (Nat.le_of_ble_eq_true rfl) (fun _ => w_X12_copy (N := N) h0 g)
def M_X12_check : am_M := (yX12_check.cls, cX12_check, 3, (some .int), am_room 6 149 0 0, false)
def X12_check_b45 (N : Nat) (K : am_K) (F : am_F) (a0 : Nat) (I : am_I) (x2 : Int) : Option (Int × am_I) :=
  am_cl (X12_ok N K F a0 I x2) (fun v_1 I_2 => some (v_1, I_2))
theorem w_X12_check_b45 {η : am_E} {l : Launch} {N : Nat} {n : Nat} {K : am_K} {I : am_I} {F : am_F} {a0 : Nat} {r0 : Int × am_I} {x2 : Int} (h0 : (K a0).1 = 12) : X12_check_b45 N K F a0 I x2 = some r0 → Ok η l M_X12_check (am_qm η (am_pS 1 r0 n K F) 0 0) 45 [(0, qr a0), (2, qi x2)] [] n K I F 0 0 := by
  unfold X12_check_b45
  refine ok_aload_n (q := 46) 0 dX12_check_45 rfl rfl rfl ?_
  refine ok_iload_n (q := 47) 1 dX12_check_46 rfl rfl rfl ?_
  refine fi_callV1S (q := 50) (as := [qi x2]) (st := []) dX12_check_47 rfl mo_X12_268 h0 rfl (Nat.le_of_ble_eq_true rfl) rfl rfl (Nat.le_of_ble_eq_true rfl) (Nat.le_of_ble_eq_true rfl) (Nat.le_of_ble_eq_true rfl) (Nat.zero_le _) (Nat.zero_le _) (fun _ hr => ct_X12_ok (N := N) h0 hr) (fun v_1 I_2 => ?_)
  exact fi_ireturnS dX12_check_50 rfl
def X12_check_s26 (N : Nat) (K : am_K) (F : am_F) (a0 : Nat) (k26 : am_I → Int → Int → Option (Int × am_I)) (I : am_I) (x1 : Int) (x2 : Int) : Option (Int × am_I) :=
  if x2 < x1 then (am_cl (X12_isRight N K F a0 I x2) (fun v_1 I_2 => if v_1 = 0 then (X12_check_b45 N K F a0 I_2 x2) else (if am_inI (x2 + 1) then am_lt (x2 + 1) (fun x2_4 => k26 I_2 x1 x2_4) else none))) else (X12_check_b45 N K F a0 I x2)
theorem w_X12_check_s26 {η : am_E} {l : Launch} {N : Nat} {n : Nat} {K : am_K} {I : am_I} {F : am_F} {a0 : Nat} {r0 : Int × am_I} {k26 : am_I → Int → Int → Option (Int × am_I)} {x1 : Int} {x2 : Int} (h0 : (K a0).1 = 12) (H26 : ∀ (I : am_I) (x1 : Int) (x2 : Int), k26 I x1 x2 = some r0 → Ok η l M_X12_check (am_qm η (am_pS 1 r0 n K F) 0 0) 26 [(0, qr a0), (1, qi x1), (2, qi x2)] [] n K I F 0 0) : X12_check_s26 N K F a0 k26 I x1 x2 = some r0 → Ok η l M_X12_check (am_qm η (am_pS 1 r0 n K F) 0 0) 26 [(0, qr a0), (1, qi x1), (2, qi x2)] [] n K I F 0 0 := by
  unfold X12_check_s26
  refine ok_iload_n (q := 27) 2 dX12_check_26 rfl rfl rfl ?_
  refine ok_iload_n (q := 28) 1 dX12_check_27 rfl rfl rfl ?_
  refine ok_icmp_ge (q := 45) (q2 := 31) dX12_check_28 rfl rfl ?_ ?_
  · skip
    exact fun g => ok_pick [0, 2] rfl (w_X12_check_b45 (N := N) h0 g)
  · skip
    refine ok_aload_n (q := 32) 0 dX12_check_31 rfl rfl rfl ?_
    refine ok_iload_n (q := 33) 2 dX12_check_32 rfl rfl rfl ?_
    refine fi_callV1S (q := 36) (as := [qi x2]) (st := []) dX12_check_33 rfl mo_X12_330 h0 rfl (Nat.le_of_ble_eq_true rfl) rfl rfl (Nat.le_of_ble_eq_true rfl) (Nat.le_of_ble_eq_true rfl) (Nat.le_of_ble_eq_true rfl) (Nat.zero_le _) (Nat.zero_le _) (fun _ hr => ct_X12_isRight (N := N) h0 hr) (fun v_1 I_2 => ?_)
    refine ok_if_eq (q := 45) (q2 := 39) dX12_check_36 rfl rfl ?_ ?_
    · skip
      exact fun g => ok_pick [0, 2] rfl (w_X12_check_b45 (N := N) h0 g)
    · skip
      refine fi_chk (fun h_3 => ?_)
      refine ok_iincL (q := 42) (fun x2_4 => [(2, qi x2_4), (0, qr a0), (1, qi x1)]) 2 dX12_check_39 rfl rfl h_3 (Nat.le_of_ble_eq_true rfl) (fun _ => rfl) (fun x2_4 => ?_)
      refine ok_goto (q := 26) dX12_check_42 rfl ?_
      exact fun g => ok_pick [1, 2, 0] rfl (H26 _ _ _ g)
def X12_check_h26 (N : Nat) (K : am_K) (F : am_F) (a0 : Nat) : Nat → am_I → Int → Int → Option (Int × am_I) := am_it (fun kh => X12_check_s26 N K F a0 kh) (fun _ _ _ => none)
theorem w_X12_check_h26 {η : am_E} {l : Launch} {N : Nat} {n : Nat} {K : am_K} {F : am_F} {a0 : Nat} {r0 : Int × am_I} (h0 : (K a0).1 = 12) (f : Nat) : ∀ (I : am_I) (x1 : Int) (x2 : Int), X12_check_h26 N K F a0 f I x1 x2 = some r0 → Ok η l M_X12_check (am_qm η (am_pS 1 r0 n K F) 0 0) 26 [(0, qr a0), (1, qi x1), (2, qi x2)] [] n K I F 0 0 := by
  induction f with
  | zero => intro I x1 x2 g; exact fi_none g
  | succ f ih => intro I x1 x2 g; exact w_X12_check_s26 (N := N) h0 ih g
def X12_check (N : Nat) (K : am_K) (F : am_F) (a0 : Nat) (I : am_I) : Option (Int × am_I) :=
  if (I a0 21) = 0 then (am_cl (X12_no N K F a0 I 9) (fun v_3 I_4 => some (v_3, I_4))) else (am_cq (X12_placesTo N K F I a0 (I a0 22)) (fun v_1 => if am_inI (v_1) then X12_check_h26 N K F a0 N I v_1 0 else none))
theorem w_X12_check {η : am_E} {l : Launch} {N : Nat} {n : Nat} {K : am_K} {I : am_I} {F : am_F} {a0 : Nat} {r0 : Int × am_I} (h0 : (K a0).1 = 12) : X12_check N K F a0 I = some r0 → Ok η l M_X12_check (am_qm η (am_pS 1 r0 n K F) 0 0) 0 [(0, qr a0)] [] n K I F 0 0 := by
  unfold X12_check
  refine ok_aload_n (q := 1) 0 dX12_check_0 rfl rfl rfl ?_
  refine ok_getI (q := 4) (ci := 12) (k := 21) (x := I a0 21) dX12_check_1 rfl fo_X12_127 h0 rfl ?_
  refine ok_if_ne (q := 14) (q2 := 7) dX12_check_4 rfl rfl ?_ ?_
  · skip
    refine ok_aload_n (q := 15) 0 dX12_check_14 rfl rfl rfl ?_
    refine ok_aload_n (q := 16) 0 dX12_check_15 rfl rfl rfl ?_
    refine ok_getI (q := 19) (ci := 12) (k := 22) (x := I a0 22) dX12_check_16 rfl fo_X12_315 h0 rfl ?_
    refine fi_callV2P (q := 22) (as := [qi (I a0 22)]) (st := []) dX12_check_19 rfl mo_X12_193 h0 rfl (Nat.le_of_ble_eq_true rfl) rfl rfl (Nat.le_of_ble_eq_true rfl) (Nat.le_of_ble_eq_true rfl) (Nat.le_of_ble_eq_true rfl) (Nat.zero_le _) (Nat.zero_le _) (fun _ hr => ct_X12_placesTo (N := N) h0 hr) (fun v_1 => ?_)
    refine fi_chk (fun h_2 => ?_)
    refine ok_l2i (q := 23) dX12_check_22 rfl h_2 ?_
    refine ok_istore_n (q := 24) (ls' := [(1, qi v_1), (0, qr a0)]) dX12_check_23 rfl rfl (Nat.le_of_ble_eq_true rfl) rfl ?_
    refine ok_iconst (q := 25) (x := 0) dX12_check_24 rfl rfl (by decide) ?_
    refine ok_istore_n (q := 26) (ls' := [(2, qi 0), (1, qi v_1), (0, qr a0)]) dX12_check_25 rfl rfl (Nat.le_of_ble_eq_true rfl) rfl ?_
    exact fun g => ok_pick [2, 1, 0] rfl (w_X12_check_h26 (N := N) h0 N _ _ _ g)
  · skip
    refine ok_aload_n (q := 8) 0 dX12_check_7 rfl rfl rfl ?_
    refine ok_bipush (q := 10) (x := 9) dX12_check_8 rfl rfl (by decide) ?_
    refine fi_callV1S (q := 13) (as := [qi 9]) (st := []) dX12_check_10 rfl mo_X12_265 h0 rfl (Nat.le_of_ble_eq_true rfl) rfl rfl (Nat.le_of_ble_eq_true rfl) (Nat.le_of_ble_eq_true rfl) (Nat.le_of_ble_eq_true rfl) (Nat.zero_le _) (Nat.zero_le _) (fun _ hr => ct_X12_no (N := N) h0 hr) (fun v_3 I_4 => ?_)
    exact fi_ireturnS dX12_check_13 rfl
theorem ct_X12_check {η : am_E} {l : Launch} {N : Nat} {n : Nat} {K : am_K} {I : am_I} {F : am_F} {a0 : Nat} {r0 : Int × am_I} (h0 : (K a0).1 = 12) : X12_check N K F a0 I = some r0 → am_Ct η l yX12_check cX12_check 3 (some .int) 6 149 0 0 [qr a0] n K I F (am_pS 1 r0 n K F) := fun g => am_Ct.of false (by decide) (by decide) (Nat.le_of_ble_eq_true rfl) (fun _ => w_X12_check (N := N) h0 g)
def M_X12_line : am_M := (yX12_line.cls, cX12_line, 3, (some .int), am_room 7 168 0 0, false)
def X12_line_b27 (N : Nat) (K : am_K) (F : am_F) (a0 : Nat) (I : am_I) (s0 : Int) : Option (Int × am_I) :=
  some (s0, I)
theorem w_X12_line_b27 {η : am_E} {l : Launch} {N : Nat} {n : Nat} {K : am_K} {I : am_I} {F : am_F} {a0 : Nat} {r0 : Int × am_I} {s0 : Int} (h0 : (K a0).1 = 12) : X12_line_b27 N K F a0 I s0 = some r0 → Ok η l M_X12_line (am_qm η (am_pS 1 r0 n K F) 0 0) 27 [(0, qr a0)] [qi s0] n K I F 0 0 := by
  unfold X12_line_b27
  exact fi_ireturnS dX12_line_27 rfl
def X12_line (N : Nat) (K : am_K) (F : am_F) (a0 : Nat) (I : am_I) (x1 : Int) : Option (Int × am_I) :=
  am_cq (X12_placeWhy N K F I a0 x1) (fun v_1 => if 0 < v_1 then (am_cl (X12_no N K F a0 I v_1) (fun v_6 I_7 => X12_line_b27 N K F a0 I_7 v_6)) else (am_cl (X12_follow N K F a0 I x1) (fun v_2 I_3 => am_cl (X12_ok N K F a0 I_3 v_2) (fun v_4 I_5 => X12_line_b27 N K F a0 I_5 v_4))))
theorem w_X12_line {η : am_E} {l : Launch} {N : Nat} {n : Nat} {K : am_K} {I : am_I} {F : am_F} {a0 : Nat} {r0 : Int × am_I} {x1 : Int} (h0 : (K a0).1 = 12) : X12_line N K F a0 I x1 = some r0 → Ok η l M_X12_line (am_qm η (am_pS 1 r0 n K F) 0 0) 0 [(0, qr a0), (1, qi x1)] [] n K I F 0 0 := by
  unfold X12_line
  refine ok_aload_n (q := 1) 0 dX12_line_0 rfl rfl rfl ?_
  refine ok_iload_n (q := 2) 1 dX12_line_1 rfl rfl rfl ?_
  refine fi_callV1P (q := 5) (as := [qi x1]) (st := []) dX12_line_2 rfl mo_X12_323 h0 rfl (Nat.le_of_ble_eq_true rfl) rfl rfl (Nat.le_of_ble_eq_true rfl) (Nat.le_of_ble_eq_true rfl) (Nat.le_of_ble_eq_true rfl) (Nat.zero_le _) (Nat.zero_le _) (fun _ hr => ct_X12_placeWhy (N := N) h0 hr) (fun v_1 => ?_)
  refine ok_istore_n (q := 6) (ls' := [(2, qi v_1), (0, qr a0), (1, qi x1)]) dX12_line_5 rfl rfl (Nat.le_of_ble_eq_true rfl) rfl ?_
  refine ok_iload_n (q := 7) 0 dX12_line_6 rfl rfl rfl ?_
  refine ok_if_le (q := 18) (q2 := 10) dX12_line_7 rfl rfl ?_ ?_
  · skip
    refine ok_aload_n (q := 19) 1 dX12_line_18 rfl rfl rfl ?_
    refine ok_aload_n (q := 20) 1 dX12_line_19 rfl rfl rfl ?_
    refine ok_iload_n (q := 21) 2 dX12_line_20 rfl rfl rfl ?_
    refine fi_callV1S (q := 24) (as := [qi x1]) (st := [qr a0]) dX12_line_21 rfl mo_X12_333 h0 rfl (Nat.le_of_ble_eq_true rfl) rfl rfl (Nat.le_of_ble_eq_true rfl) (Nat.le_of_ble_eq_true rfl) (Nat.le_of_ble_eq_true rfl) (Nat.zero_le _) (Nat.zero_le _) (fun _ hr => ct_X12_follow (N := N) h0 hr) (fun v_2 I_3 => ?_)
    refine fi_callV1S (q := 27) (as := [qi v_2]) (st := []) dX12_line_24 rfl mo_X12_268 h0 rfl (Nat.le_of_ble_eq_true rfl) rfl rfl (Nat.le_of_ble_eq_true rfl) (Nat.le_of_ble_eq_true rfl) (Nat.le_of_ble_eq_true rfl) (Nat.zero_le _) (Nat.zero_le _) (fun _ hr => ct_X12_ok (N := N) h0 hr) (fun v_4 I_5 => ?_)
    exact fun g => ok_pick [1] rfl (w_X12_line_b27 (N := N) h0 g)
  · skip
    refine ok_aload_n (q := 11) 1 dX12_line_10 rfl rfl rfl ?_
    refine ok_iload_n (q := 12) 0 dX12_line_11 rfl rfl rfl ?_
    refine fi_callV1S (q := 15) (as := [qi v_1]) (st := []) dX12_line_12 rfl mo_X12_265 h0 rfl (Nat.le_of_ble_eq_true rfl) rfl rfl (Nat.le_of_ble_eq_true rfl) (Nat.le_of_ble_eq_true rfl) (Nat.le_of_ble_eq_true rfl) (Nat.zero_le _) (Nat.zero_le _) (fun _ hr => ct_X12_no (N := N) h0 hr) (fun v_6 I_7 => ?_)
    refine ok_goto (q := 27) dX12_line_15 rfl ?_
    exact fun g => ok_pick [1] rfl (w_X12_line_b27 (N := N) h0 g)
theorem ct_X12_line {η : am_E} {l : Launch} {N : Nat} {n : Nat} {K : am_K} {I : am_I} {F : am_F} {a0 : Nat} {r0 : Int × am_I} {x1 : Int} (h0 : (K a0).1 = 12) : X12_line N K F a0 I x1 = some r0 → am_Ct η l yX12_line cX12_line 3 (some .int) 7 168 0 0 [qr a0, qi x1] n K I F (am_pS 1 r0 n K F) := fun g => am_Ct.of false (by decide) (by decide) (Nat.le_of_ble_eq_true rfl) (fun _ => w_X12_line (N := N) h0 g)
def M_X12_lineAt : am_M := (yX12_lineAt.cls, cX12_lineAt, 2, (some .int), am_room 1 25 0 0, false)
def X12_lineAt_b50 (N : Nat) (K : am_K) (F : am_F) (a0 : Nat) (I : am_I) (s0 : Int) : Option (Int × am_I) :=
  some (s0, I)
theorem w_X12_lineAt_b50 {η : am_E} {l : Launch} {N : Nat} {n : Nat} {K : am_K} {I : am_I} {F : am_F} {a0 : Nat} {r0 : Int × am_I} {s0 : Int} (h0 : (K a0).1 = 12) : X12_lineAt_b50 N K F a0 I s0 = some r0 → Ok η l M_X12_lineAt (am_qm η (am_pS 1 r0 n K F) 0 0) 50 [(0, qr a0)] [qi s0] n K I F 0 0 := by
  unfold X12_lineAt_b50
  exact fi_ireturnS dX12_lineAt_50 rfl
def X12_lineAt (N : Nat) (K : am_K) (F : am_F) (a0 : Nat) (I : am_I) (x1 : Int) : Option (Int × am_I) :=
  if (I a0 39) = 0 then (am_cl (X12_no N K F a0 I 9) (fun v_9 I_10 => X12_lineAt_b50 N K F a0 I_10 v_9)) else (if am_inI ((I a0 40) - 1) then am_cq (X12_isIn N K F I x1 0 ((I a0 40) - 1)) (fun v_2 => if v_2 = 0 then (am_cl (X12_no N K F a0 I 3) (fun v_7 I_8 => X12_lineAt_b50 N K F a0 I_8 v_7)) else (if (K (F a0 41)).1 = 100 then if (0 : Int) ≤ x1 ∧ x1 < (K (F a0 41)).2 then am_cl (X12_ok N K F a0 I (I (F a0 41) x1)) (fun v_5 I_6 => X12_lineAt_b50 N K F a0 I_6 v_5) else none else none)) else none)
theorem w_X12_lineAt {η : am_E} {l : Launch} {N : Nat} {n : Nat} {K : am_K} {I : am_I} {F : am_F} {a0 : Nat} {r0 : Int × am_I} {x1 : Int} (h0 : (K a0).1 = 12) : X12_lineAt N K F a0 I x1 = some r0 → Ok η l M_X12_lineAt (am_qm η (am_pS 1 r0 n K F) 0 0) 0 [(0, qr a0), (1, qi x1)] [] n K I F 0 0 := by
  unfold X12_lineAt
  refine ok_aload_n (q := 1) 0 dX12_lineAt_0 rfl rfl rfl ?_
  refine ok_getI (q := 4) (ci := 12) (k := 39) (x := I a0 39) dX12_lineAt_1 rfl fo_X12_130 h0 rfl ?_
  refine ok_if_ne (q := 16) (q2 := 7) dX12_lineAt_4 rfl rfl ?_ ?_
  · skip
    refine ok_iload_n (q := 17) 1 dX12_lineAt_16 rfl rfl rfl ?_
    refine ok_i2l (q := 18) dX12_lineAt_17 rfl ?_
    refine ok_lconst (q := 19) (x := 0) dX12_lineAt_18 rfl rfl (by decide) ?_
    refine ok_aload_n (q := 20) 0 dX12_lineAt_19 rfl rfl rfl ?_
    refine ok_getI (q := 23) (ci := 12) (k := 40) (x := I a0 40) dX12_lineAt_20 rfl fo_X12_251 h0 rfl ?_
    refine ok_iconst (q := 24) (x := 1) dX12_lineAt_23 rfl rfl (by decide) ?_
    refine fi_chk (fun h_1 => ?_)
    refine ok_isub (q := 25) dX12_lineAt_24 rfl h_1 ?_
    refine ok_i2l (q := 26) dX12_lineAt_25 rfl ?_
    refine fi_callS1P (q := 29) (as := [ql x1, ql 0, ql ((I a0 40) - 1)]) (st := []) dX12_lineAt_26 rfl mo_X12_164 rfl rfl (Nat.le_of_ble_eq_true rfl) (Nat.le_of_ble_eq_true rfl) (Nat.le_of_ble_eq_true rfl) (Nat.zero_le _) (Nat.zero_le _) (fun _ hr => ct_X12_isIn (N := N) hr) (fun v_2 => ?_)
    refine ok_if_ne (q := 40) (q2 := 32) dX12_lineAt_29 rfl rfl ?_ ?_
    · skip
      refine ok_aload_n (q := 41) 0 dX12_lineAt_40 rfl rfl rfl ?_
      refine ok_aload_n (q := 42) 0 dX12_lineAt_41 rfl rfl rfl ?_
      refine ok_getR (q := 45) (ci := 12) (k := 41) (x := F a0 41) dX12_lineAt_42 rfl fo_X12_72 h0 rfl ?_
      refine ok_iload_n (q := 46) 1 dX12_lineAt_45 rfl rfl rfl ?_
      refine fi_chk (fun h_3 => ?_)
      refine fi_chk (fun h_4 => ?_)
      refine ok_iaload (q := 47) (v := I (F a0 41) x1) dX12_lineAt_46 rfl h_3 h_4.1 h_4.2 rfl ?_
      refine fi_callV1S (q := 50) (as := [qi (I (F a0 41) x1)]) (st := []) dX12_lineAt_47 rfl mo_X12_268 h0 rfl (Nat.le_of_ble_eq_true rfl) rfl rfl (Nat.le_of_ble_eq_true rfl) (Nat.le_of_ble_eq_true rfl) (Nat.le_of_ble_eq_true rfl) (Nat.zero_le _) (Nat.zero_le _) (fun _ hr => ct_X12_ok (N := N) h0 hr) (fun v_5 I_6 => ?_)
      exact fun g => ok_pick [0] rfl (w_X12_lineAt_b50 (N := N) h0 g)
    · skip
      refine ok_aload_n (q := 33) 0 dX12_lineAt_32 rfl rfl rfl ?_
      refine ok_iconst (q := 34) (x := 3) dX12_lineAt_33 rfl rfl (by decide) ?_
      refine fi_callV1S (q := 37) (as := [qi 3]) (st := []) dX12_lineAt_34 rfl mo_X12_265 h0 rfl (Nat.le_of_ble_eq_true rfl) rfl rfl (Nat.le_of_ble_eq_true rfl) (Nat.le_of_ble_eq_true rfl) (Nat.le_of_ble_eq_true rfl) (Nat.zero_le _) (Nat.zero_le _) (fun _ hr => ct_X12_no (N := N) h0 hr) (fun v_7 I_8 => ?_)
      refine ok_goto (q := 50) dX12_lineAt_37 rfl ?_
      exact fun g => ok_pick [0] rfl (w_X12_lineAt_b50 (N := N) h0 g)
  · skip
    refine ok_aload_n (q := 8) 0 dX12_lineAt_7 rfl rfl rfl ?_
    refine ok_bipush (q := 10) (x := 9) dX12_lineAt_8 rfl rfl (by decide) ?_
    refine fi_callV1S (q := 13) (as := [qi 9]) (st := []) dX12_lineAt_10 rfl mo_X12_265 h0 rfl (Nat.le_of_ble_eq_true rfl) rfl rfl (Nat.le_of_ble_eq_true rfl) (Nat.le_of_ble_eq_true rfl) (Nat.le_of_ble_eq_true rfl) (Nat.zero_le _) (Nat.zero_le _) (fun _ hr => ct_X12_no (N := N) h0 hr) (fun v_9 I_10 => ?_)
    refine ok_goto (q := 50) dX12_lineAt_13 rfl ?_
    exact fun g => ok_pick [0] rfl (w_X12_lineAt_b50 (N := N) h0 g)
theorem ct_X12_lineAt {η : am_E} {l : Launch} {N : Nat} {n : Nat} {K : am_K} {I : am_I} {F : am_F} {a0 : Nat} {r0 : Int × am_I} {x1 : Int} (h0 : (K a0).1 = 12) : X12_lineAt N K F a0 I x1 = some r0 → am_Ct η l yX12_lineAt cX12_lineAt 2 (some .int) 1 25 0 0 [qr a0, qi x1] n K I F (am_pS 1 r0 n K F) := fun g => am_Ct.of false (by decide) (by decide) (Nat.le_of_ble_eq_true rfl) (fun _ => w_X12_lineAt (N := N) h0 g)
def M_X12_ring : am_M := (yX12_ring.cls, cX12_ring, 1, (some .int), am_room 1 21 0 0, false)
def X12_ring_b24 (N : Nat) (K : am_K) (F : am_F) (a0 : Nat) (I : am_I) (s0 : Int) : Option (Int × am_I) :=
  some (s0, I)
theorem w_X12_ring_b24 {η : am_E} {l : Launch} {N : Nat} {n : Nat} {K : am_K} {I : am_I} {F : am_F} {a0 : Nat} {r0 : Int × am_I} {s0 : Int} (h0 : (K a0).1 = 12) : X12_ring_b24 N K F a0 I s0 = some r0 → Ok η l M_X12_ring (am_qm η (am_pS 1 r0 n K F) 0 0) 24 [(0, qr a0)] [qi s0] n K I F 0 0 := by
  unfold X12_ring_b24
  exact fi_ireturnS dX12_ring_24 rfl
def X12_ring (N : Nat) (K : am_K) (F : am_F) (a0 : Nat) (I : am_I) : Option (Int × am_I) :=
  if (I a0 39) = 0 then (am_cl (X12_no N K F a0 I 9) (fun v_3 I_4 => X12_ring_b24 N K F a0 I_4 v_3)) else (am_cl (X12_ok N K F a0 I (I a0 43)) (fun v_1 I_2 => X12_ring_b24 N K F a0 I_2 v_1))
theorem w_X12_ring {η : am_E} {l : Launch} {N : Nat} {n : Nat} {K : am_K} {I : am_I} {F : am_F} {a0 : Nat} {r0 : Int × am_I} (h0 : (K a0).1 = 12) : X12_ring N K F a0 I = some r0 → Ok η l M_X12_ring (am_qm η (am_pS 1 r0 n K F) 0 0) 0 [(0, qr a0)] [] n K I F 0 0 := by
  unfold X12_ring
  refine ok_aload_n (q := 1) 0 dX12_ring_0 rfl rfl rfl ?_
  refine ok_getI (q := 4) (ci := 12) (k := 39) (x := I a0 39) dX12_ring_1 rfl fo_X12_130 h0 rfl ?_
  refine ok_if_ne (q := 16) (q2 := 7) dX12_ring_4 rfl rfl ?_ ?_
  · skip
    refine ok_aload_n (q := 17) 0 dX12_ring_16 rfl rfl rfl ?_
    refine ok_aload_n (q := 18) 0 dX12_ring_17 rfl rfl rfl ?_
    refine ok_getI (q := 21) (ci := 12) (k := 43) (x := I a0 43) dX12_ring_18 rfl fo_X12_254 h0 rfl ?_
    refine fi_callV1S (q := 24) (as := [qi (I a0 43)]) (st := []) dX12_ring_21 rfl mo_X12_268 h0 rfl (Nat.le_of_ble_eq_true rfl) rfl rfl (Nat.le_of_ble_eq_true rfl) (Nat.le_of_ble_eq_true rfl) (Nat.le_of_ble_eq_true rfl) (Nat.zero_le _) (Nat.zero_le _) (fun _ hr => ct_X12_ok (N := N) h0 hr) (fun v_1 I_2 => ?_)
    exact fun g => ok_pick [0] rfl (w_X12_ring_b24 (N := N) h0 g)
  · skip
    refine ok_aload_n (q := 8) 0 dX12_ring_7 rfl rfl rfl ?_
    refine ok_bipush (q := 10) (x := 9) dX12_ring_8 rfl rfl (by decide) ?_
    refine fi_callV1S (q := 13) (as := [qi 9]) (st := []) dX12_ring_10 rfl mo_X12_265 h0 rfl (Nat.le_of_ble_eq_true rfl) rfl rfl (Nat.le_of_ble_eq_true rfl) (Nat.le_of_ble_eq_true rfl) (Nat.le_of_ble_eq_true rfl) (Nat.zero_le _) (Nat.zero_le _) (fun _ hr => ct_X12_no (N := N) h0 hr) (fun v_3 I_4 => ?_)
    refine ok_goto (q := 24) dX12_ring_13 rfl ?_
    exact fun g => ok_pick [0] rfl (w_X12_ring_b24 (N := N) h0 g)
theorem ct_X12_ring {η : am_E} {l : Launch} {N : Nat} {n : Nat} {K : am_K} {I : am_I} {F : am_F} {a0 : Nat} {r0 : Int × am_I} (h0 : (K a0).1 = 12) : X12_ring N K F a0 I = some r0 → am_Ct η l yX12_ring cX12_ring 1 (some .int) 1 21 0 0 [qr a0] n K I F (am_pS 1 r0 n K F) := fun g => am_Ct.of false (by decide) (by decide) (Nat.le_of_ble_eq_true rfl) (fun _ => w_X12_ring (N := N) h0 g)
def M_X12_player : am_M := (yX12_player.cls, cX12_player, 5, (some .int), am_room 1 25 0 0, false)
def X12_player_b58 (N : Nat) (K : am_K) (F : am_F) (a0 : Nat) (I : am_I) (x2 : Int) (s0 : Int) (s1 : Int) (t2 : Nat) : Option (Int × am_I) :=
  if (K t2).1 = 102 then if t2 ≠ 1 then if (0 : Int) ≤ s1 ∧ s1 < (K t2).2 then am_lt (am_u2 I t2 s1 s0) (fun I_4 => am_cl (X12_ok N K F a0 I_4 x2) (fun v_5 I_6 => some (v_5, I_6))) else none else none else none
theorem w_X12_player_b58 {η : am_E} {l : Launch} {N : Nat} {n : Nat} {K : am_K} {I : am_I} {F : am_F} {a0 : Nat} {r0 : Int × am_I} {x2 : Int} {s0 : Int} {s1 : Int} {t2 : Nat} (h0 : (K a0).1 = 12) : X12_player_b58 N K F a0 I x2 s0 s1 t2 = some r0 → Ok η l M_X12_player (am_qm η (am_pS 1 r0 n K F) 0 0) 58 [(0, qr a0), (2, qi x2)] [ql s0, qi s1, qr t2] n K I F 0 0 := by
  unfold X12_player_b58
  refine fi_chk (fun h_1 => ?_)
  refine fi_chk (fun h_2 => ?_)
  refine fi_chk (fun h_3 => ?_)
  refine ok_lastore (q := 59) dX12_player_58 rfl h_1 h_2 h_3.1 h_3.2 (fun I_4 => ?_)
  refine ok_aload_n (q := 60) 0 dX12_player_59 rfl rfl rfl ?_
  refine ok_iload_n (q := 61) 1 dX12_player_60 rfl rfl rfl ?_
  refine fi_callV1S (q := 64) (as := [qi x2]) (st := []) dX12_player_61 rfl mo_X12_268 h0 rfl (Nat.le_of_ble_eq_true rfl) rfl rfl (Nat.le_of_ble_eq_true rfl) (Nat.le_of_ble_eq_true rfl) (Nat.le_of_ble_eq_true rfl) (Nat.zero_le _) (Nat.zero_le _) (fun _ hr => ct_X12_ok (N := N) h0 hr) (fun v_5 I_6 => ?_)
  exact fi_ireturnS dX12_player_64 rfl
def X12_player (N : Nat) (K : am_K) (F : am_F) (a0 : Nat) (I : am_I) (x1 : Int) (x2 : Int) (x3 : Int) : Option (Int × am_I) :=
  am_cq (X12_isIn N K F I x1 0 1) (fun v_1 => if v_1 = 0 then (am_cl (X12_no N K F a0 I 3) (fun v_9 I_10 => some (v_9, I_10))) else (am_cq (X12_isIn N K F I x2 0 3) (fun v_2 => if v_2 = 0 then (am_cl (X12_no N K F a0 I 7) (fun v_7 I_8 => some (v_7, I_8))) else (if (K (F a0 44)).1 = 100 then if F a0 44 ≠ 1 then if (0 : Int) ≤ x1 ∧ x1 < (K (F a0 44)).2 then am_lt (am_u2 I (F a0 44) x1 x2) (fun I_6 => if (am_cmp x3 0) = 0 then (X12_player_b58 N K F a0 I_6 x2 1 x1 (F a0 45)) else (X12_player_b58 N K F a0 I_6 x2 x3 x1 (F a0 45))) else none else none else none))))
theorem w_X12_player {η : am_E} {l : Launch} {N : Nat} {n : Nat} {K : am_K} {I : am_I} {F : am_F} {a0 : Nat} {r0 : Int × am_I} {x1 : Int} {x2 : Int} {x3 : Int} (h0 : (K a0).1 = 12) : X12_player N K F a0 I x1 x2 x3 = some r0 → Ok η l M_X12_player (am_qm η (am_pS 1 r0 n K F) 0 0) 0 [(0, qr a0), (1, qi x1), (2, qi x2), (3, ql x3)] [] n K I F 0 0 := by
  unfold X12_player
  refine ok_iload_n (q := 1) 1 dX12_player_0 rfl rfl rfl ?_
  refine ok_i2l (q := 2) dX12_player_1 rfl ?_
  refine ok_lconst (q := 3) (x := 0) dX12_player_2 rfl rfl (by decide) ?_
  refine ok_lconst (q := 4) (x := 1) dX12_player_3 rfl rfl (by decide) ?_
  refine fi_callS1P (q := 7) (as := [ql x1, ql 0, ql 1]) (st := []) dX12_player_4 rfl mo_X12_164 rfl rfl (Nat.le_of_ble_eq_true rfl) (Nat.le_of_ble_eq_true rfl) (Nat.le_of_ble_eq_true rfl) (Nat.zero_le _) (Nat.zero_le _) (fun _ hr => ct_X12_isIn (N := N) hr) (fun v_1 => ?_)
  refine ok_if_ne (q := 16) (q2 := 10) dX12_player_7 rfl rfl ?_ ?_
  · skip
    refine ok_iload_n (q := 17) 2 dX12_player_16 rfl rfl rfl ?_
    refine ok_i2l (q := 18) dX12_player_17 rfl ?_
    refine ok_lconst (q := 19) (x := 0) dX12_player_18 rfl rfl (by decide) ?_
    refine ok_ldc2 (q := 22) (x := 3) (v := 3) dX12_player_19 rfl kc_X12_281 rfl (by decide) ?_
    refine fi_callS1P (q := 25) (as := [ql x2, ql 0, ql 3]) (st := []) dX12_player_22 rfl mo_X12_164 rfl rfl (Nat.le_of_ble_eq_true rfl) (Nat.le_of_ble_eq_true rfl) (Nat.le_of_ble_eq_true rfl) (Nat.zero_le _) (Nat.zero_le _) (fun _ hr => ct_X12_isIn (N := N) hr) (fun v_2 => ?_)
    refine ok_if_ne (q := 35) (q2 := 28) dX12_player_25 rfl rfl ?_ ?_
    · skip
      refine ok_aload_n (q := 36) 0 dX12_player_35 rfl rfl rfl ?_
      refine ok_getR (q := 39) (ci := 12) (k := 44) (x := F a0 44) dX12_player_36 rfl fo_X12_78 h0 rfl ?_
      refine ok_iload_n (q := 40) 1 dX12_player_39 rfl rfl rfl ?_
      refine ok_iload_n (q := 41) 2 dX12_player_40 rfl rfl rfl ?_
      refine fi_chk (fun h_3 => ?_)
      refine fi_chk (fun h_4 => ?_)
      refine fi_chk (fun h_5 => ?_)
      refine ok_iastore (q := 42) dX12_player_41 rfl h_3 h_4 h_5.1 h_5.2 (fun I_6 => ?_)
      refine ok_aload_n (q := 43) 0 dX12_player_42 rfl rfl rfl ?_
      refine ok_getR (q := 46) (ci := 12) (k := 45) (x := F a0 45) dX12_player_43 rfl fo_X12_81 h0 rfl ?_
      refine ok_iload_n (q := 47) 1 dX12_player_46 rfl rfl rfl ?_
      refine ok_lload_n (q := 48) 3 dX12_player_47 rfl rfl rfl ?_
      refine ok_lconst (q := 49) (x := 0) dX12_player_48 rfl rfl (by decide) ?_
      refine ok_lcmp (q := 50) dX12_player_49 rfl ?_
      refine ok_if_ne (q := 57) (q2 := 53) dX12_player_50 rfl rfl ?_ ?_
      · skip
        refine ok_lload_n (q := 58) 3 dX12_player_57 rfl rfl rfl ?_
        exact fun g => ok_pick [0, 2] rfl (w_X12_player_b58 (N := N) h0 g)
      · skip
        refine ok_lconst (q := 54) (x := 1) dX12_player_53 rfl rfl (by decide) ?_
        refine ok_goto (q := 58) dX12_player_54 rfl ?_
        exact fun g => ok_pick [0, 2] rfl (w_X12_player_b58 (N := N) h0 g)
    · skip
      refine ok_aload_n (q := 29) 0 dX12_player_28 rfl rfl rfl ?_
      refine ok_bipush (q := 31) (x := 7) dX12_player_29 rfl rfl (by decide) ?_
      refine fi_callV1S (q := 34) (as := [qi 7]) (st := []) dX12_player_31 rfl mo_X12_265 h0 rfl (Nat.le_of_ble_eq_true rfl) rfl rfl (Nat.le_of_ble_eq_true rfl) (Nat.le_of_ble_eq_true rfl) (Nat.le_of_ble_eq_true rfl) (Nat.zero_le _) (Nat.zero_le _) (fun _ hr => ct_X12_no (N := N) h0 hr) (fun v_7 I_8 => ?_)
      exact fi_ireturnS dX12_player_34 rfl
  · skip
    refine ok_aload_n (q := 11) 0 dX12_player_10 rfl rfl rfl ?_
    refine ok_iconst (q := 12) (x := 3) dX12_player_11 rfl rfl (by decide) ?_
    refine fi_callV1S (q := 15) (as := [qi 3]) (st := []) dX12_player_12 rfl mo_X12_265 h0 rfl (Nat.le_of_ble_eq_true rfl) rfl rfl (Nat.le_of_ble_eq_true rfl) (Nat.le_of_ble_eq_true rfl) (Nat.le_of_ble_eq_true rfl) (Nat.zero_le _) (Nat.zero_le _) (fun _ hr => ct_X12_no (N := N) h0 hr) (fun v_9 I_10 => ?_)
    exact fi_ireturnS dX12_player_15 rfl
theorem ct_X12_player {η : am_E} {l : Launch} {N : Nat} {n : Nat} {K : am_K} {I : am_I} {F : am_F} {a0 : Nat} {r0 : Int × am_I} {x1 : Int} {x2 : Int} {x3 : Int} (h0 : (K a0).1 = 12) : X12_player N K F a0 I x1 x2 x3 = some r0 → am_Ct η l yX12_player cX12_player 5 (some .int) 1 25 0 0 [qr a0, qi x1, qi x2, ql x3] n K I F (am_pS 1 r0 n K F) := fun g => am_Ct.of false (by decide) (by decide) (Nat.le_of_ble_eq_true rfl) (fun _ => w_X12_player (N := N) h0 g)
def M_X12_play : am_M := (yX12_play.cls, cX12_play, 3, (some .int), am_room 7 170 0 0, false)
def X12_play_b61 (N : Nat) (K : am_K) (F : am_F) (a0 : Nat) (I : am_I) (x2 : Int) : Option (Int × am_I) :=
  am_cl (X12_ok N K F a0 I x2) (fun v_1 I_2 => some (v_1, I_2))
theorem w_X12_play_b61 {η : am_E} {l : Launch} {N : Nat} {n : Nat} {K : am_K} {I : am_I} {F : am_F} {a0 : Nat} {r0 : Int × am_I} {x2 : Int} (h0 : (K a0).1 = 12) : X12_play_b61 N K F a0 I x2 = some r0 → Ok η l M_X12_play (am_qm η (am_pS 1 r0 n K F) 0 0) 61 [(0, qr a0), (2, qi x2)] [] n K I F 0 0 := by
  unfold X12_play_b61
  refine ok_aload_n (q := 62) 0 dX12_play_61 rfl rfl rfl ?_
  refine ok_iload_n (q := 63) 1 dX12_play_62 rfl rfl rfl ?_
  refine fi_callV1S (q := 66) (as := [qi x2]) (st := []) dX12_play_63 rfl mo_X12_268 h0 rfl (Nat.le_of_ble_eq_true rfl) rfl rfl (Nat.le_of_ble_eq_true rfl) (Nat.le_of_ble_eq_true rfl) (Nat.le_of_ble_eq_true rfl) (Nat.zero_le _) (Nat.zero_le _) (fun _ hr => ct_X12_ok (N := N) h0 hr) (fun v_1 I_2 => ?_)
  exact fi_ireturnS dX12_play_66 rfl
def X12_play_s21 (N : Nat) (K : am_K) (F : am_F) (a0 : Nat) (k21 : am_I → Int → Int → Option (Int × am_I)) (I : am_I) (x1 : Int) (x2 : Int) : Option (Int × am_I) :=
  if x2 < x1 then (if (I a0 37) < 1000 then (am_cl (X12_over N K F a0 I) (fun v_1 I_2 => if v_1 = 0 then (am_cl (X12_chosen N K F a0 I_2) (fun v_3 I_4 => am_cl (X12_moveFrom N K F a0 I_4 v_3) (fun v_5 I_6 => am_lt (am_u2 I_6 a0 17 v_5) (fun I_7 => if am_inI (x2 + 1) then am_lt (x2 + 1) (fun x2_9 => k21 I_7 x1 x2_9) else none)))) else (X12_play_b61 N K F a0 I_2 x2))) else (X12_play_b61 N K F a0 I x2)) else (X12_play_b61 N K F a0 I x2)
theorem w_X12_play_s21 {η : am_E} {l : Launch} {N : Nat} {n : Nat} {K : am_K} {I : am_I} {F : am_F} {a0 : Nat} {r0 : Int × am_I} {k21 : am_I → Int → Int → Option (Int × am_I)} {x1 : Int} {x2 : Int} (h0 : (K a0).1 = 12) (H21 : ∀ (I : am_I) (x1 : Int) (x2 : Int), k21 I x1 x2 = some r0 → Ok η l M_X12_play (am_qm η (am_pS 1 r0 n K F) 0 0) 21 [(0, qr a0), (1, qi x1), (2, qi x2)] [] n K I F 0 0) : X12_play_s21 N K F a0 k21 I x1 x2 = some r0 → Ok η l M_X12_play (am_qm η (am_pS 1 r0 n K F) 0 0) 21 [(0, qr a0), (1, qi x1), (2, qi x2)] [] n K I F 0 0 := by
  unfold X12_play_s21
  refine ok_iload_n (q := 22) 2 dX12_play_21 rfl rfl rfl ?_
  refine ok_iload_n (q := 23) 1 dX12_play_22 rfl rfl rfl ?_
  refine ok_icmp_ge (q := 61) (q2 := 26) dX12_play_23 rfl rfl ?_ ?_
  · skip
    exact fun g => ok_pick [0, 2] rfl (w_X12_play_b61 (N := N) h0 g)
  · skip
    refine ok_aload_n (q := 27) 0 dX12_play_26 rfl rfl rfl ?_
    refine ok_getI (q := 30) (ci := 12) (k := 37) (x := I a0 37) dX12_play_27 rfl fo_X12_121 h0 rfl ?_
    refine ok_sipush (q := 33) (x := 1000) dX12_play_30 rfl rfl (by decide) ?_
    refine ok_icmp_ge (q := 61) (q2 := 36) dX12_play_33 rfl rfl ?_ ?_
    · skip
      exact fun g => ok_pick [0, 2] rfl (w_X12_play_b61 (N := N) h0 g)
    · skip
      refine ok_aload_n (q := 37) 0 dX12_play_36 rfl rfl rfl ?_
      refine fi_callV1S (q := 40) (as := []) (st := []) dX12_play_37 rfl mo_X12_295 h0 rfl (Nat.le_of_ble_eq_true rfl) rfl rfl (Nat.le_of_ble_eq_true rfl) (Nat.le_of_ble_eq_true rfl) (Nat.le_of_ble_eq_true rfl) (Nat.zero_le _) (Nat.zero_le _) (fun _ hr => ct_X12_over (N := N) h0 hr) (fun v_1 I_2 => ?_)
      refine ok_if_ne (q := 61) (q2 := 43) dX12_play_40 rfl rfl ?_ ?_
      · skip
        exact fun g => ok_pick [0, 2] rfl (w_X12_play_b61 (N := N) h0 g)
      · skip
        refine ok_aload_n (q := 44) 0 dX12_play_43 rfl rfl rfl ?_
        refine ok_aload_n (q := 45) 0 dX12_play_44 rfl rfl rfl ?_
        refine ok_aload_n (q := 46) 0 dX12_play_45 rfl rfl rfl ?_
        refine fi_callV1S (q := 49) (as := []) (st := [qr a0, qr a0]) dX12_play_46 rfl mo_X12_336 h0 rfl (Nat.le_of_ble_eq_true rfl) rfl rfl (Nat.le_of_ble_eq_true rfl) (Nat.le_of_ble_eq_true rfl) (Nat.le_of_ble_eq_true rfl) (Nat.zero_le _) (Nat.zero_le _) (fun _ hr => ct_X12_chosen (N := N) h0 hr) (fun v_3 I_4 => ?_)
        refine fi_callV1S (q := 52) (as := [qi v_3]) (st := [qr a0]) dX12_play_49 rfl mo_X12_289 h0 rfl (Nat.le_of_ble_eq_true rfl) rfl rfl (Nat.le_of_ble_eq_true rfl) (Nat.le_of_ble_eq_true rfl) (Nat.le_of_ble_eq_true rfl) (Nat.zero_le _) (Nat.zero_le _) (fun _ hr => ct_X12_moveFrom (N := N) h0 hr) (fun v_5 I_6 => ?_)
        refine ok_putI (q := 55) (ci := 12) (k := 17) dX12_play_52 rfl fo_X12_148 h0 ft_12_17 ff_12_17 (fun I_7 => ?_)
        refine fi_chk (fun h_8 => ?_)
        refine ok_iincL (q := 58) (fun x2_9 => [(2, qi x2_9), (0, qr a0), (1, qi x1)]) 2 dX12_play_55 rfl rfl h_8 (Nat.le_of_ble_eq_true rfl) (fun _ => rfl) (fun x2_9 => ?_)
        refine ok_goto (q := 21) dX12_play_58 rfl ?_
        exact fun g => ok_pick [1, 2, 0] rfl (H21 _ _ _ g)
def X12_play_h21 (N : Nat) (K : am_K) (F : am_F) (a0 : Nat) : Nat → am_I → Int → Int → Option (Int × am_I) := am_it (fun kh => X12_play_s21 N K F a0 kh) (fun _ _ _ => none)
theorem w_X12_play_h21 {η : am_E} {l : Launch} {N : Nat} {n : Nat} {K : am_K} {F : am_F} {a0 : Nat} {r0 : Int × am_I} (h0 : (K a0).1 = 12) (f : Nat) : ∀ (I : am_I) (x1 : Int) (x2 : Int), X12_play_h21 N K F a0 f I x1 x2 = some r0 → Ok η l M_X12_play (am_qm η (am_pS 1 r0 n K F) 0 0) 21 [(0, qr a0), (1, qi x1), (2, qi x2)] [] n K I F 0 0 := by
  induction f with
  | zero => intro I x1 x2 g; exact fi_none g
  | succ f ih => intro I x1 x2 g; exact w_X12_play_s21 (N := N) h0 ih g
def X12_play (N : Nat) (K : am_K) (F : am_F) (a0 : Nat) (I : am_I) (x1 : Int) : Option (Int × am_I) :=
  am_cq (X12_isIn N K F I x1 0 1000) (fun v_1 => if v_1 = 0 then (am_cl (X12_no N K F a0 I 7) (fun v_2 I_3 => some (v_2, I_3))) else (X12_play_h21 N K F a0 N I x1 0))
theorem w_X12_play {η : am_E} {l : Launch} {N : Nat} {n : Nat} {K : am_K} {I : am_I} {F : am_F} {a0 : Nat} {r0 : Int × am_I} {x1 : Int} (h0 : (K a0).1 = 12) : X12_play N K F a0 I x1 = some r0 → Ok η l M_X12_play (am_qm η (am_pS 1 r0 n K F) 0 0) 0 [(0, qr a0), (1, qi x1)] [] n K I F 0 0 := by
  unfold X12_play
  refine ok_iload_n (q := 1) 1 dX12_play_0 rfl rfl rfl ?_
  refine ok_i2l (q := 2) dX12_play_1 rfl ?_
  refine ok_lconst (q := 3) (x := 0) dX12_play_2 rfl rfl (by decide) ?_
  refine ok_ldc2 (q := 6) (x := 1000) (v := 1000) dX12_play_3 rfl kc_X12_279 rfl (by decide) ?_
  refine fi_callS1P (q := 9) (as := [ql x1, ql 0, ql 1000]) (st := []) dX12_play_6 rfl mo_X12_164 rfl rfl (Nat.le_of_ble_eq_true rfl) (Nat.le_of_ble_eq_true rfl) (Nat.le_of_ble_eq_true rfl) (Nat.zero_le _) (Nat.zero_le _) (fun _ hr => ct_X12_isIn (N := N) hr) (fun v_1 => ?_)
  refine ok_if_ne (q := 19) (q2 := 12) dX12_play_9 rfl rfl ?_ ?_
  · skip
    refine ok_iconst (q := 20) (x := 0) dX12_play_19 rfl rfl (by decide) ?_
    refine ok_istore_n (q := 21) (ls' := [(2, qi 0), (0, qr a0), (1, qi x1)]) dX12_play_20 rfl rfl (Nat.le_of_ble_eq_true rfl) rfl ?_
    exact fun g => ok_pick [1, 2, 0] rfl (w_X12_play_h21 (N := N) h0 N _ _ _ g)
  · skip
    refine ok_aload_n (q := 13) 0 dX12_play_12 rfl rfl rfl ?_
    refine ok_bipush (q := 15) (x := 7) dX12_play_13 rfl rfl (by decide) ?_
    refine fi_callV1S (q := 18) (as := [qi 7]) (st := []) dX12_play_15 rfl mo_X12_265 h0 rfl (Nat.le_of_ble_eq_true rfl) rfl rfl (Nat.le_of_ble_eq_true rfl) (Nat.le_of_ble_eq_true rfl) (Nat.le_of_ble_eq_true rfl) (Nat.zero_le _) (Nat.zero_le _) (fun _ hr => ct_X12_no (N := N) h0 hr) (fun v_2 I_3 => ?_)
    exact fi_ireturnS dX12_play_18 rfl
theorem ct_X12_play {η : am_E} {l : Launch} {N : Nat} {n : Nat} {K : am_K} {I : am_I} {F : am_F} {a0 : Nat} {r0 : Int × am_I} {x1 : Int} (h0 : (K a0).1 = 12) : X12_play N K F a0 I x1 = some r0 → am_Ct η l yX12_play cX12_play 3 (some .int) 7 170 0 0 [qr a0, qi x1] n K I F (am_pS 1 r0 n K F) := fun g => am_Ct.of false (by decide) (by decide) (Nat.le_of_ble_eq_true rfl) (fun _ => w_X12_play (N := N) h0 g)
def M_X12_status : am_M := (yX12_status.cls, cX12_status, 1, (some .int), am_room 0 0 0 0, false)
def X12_status (N : Nat) (K : am_K) (F : am_F) (I : am_I) (a0 : Nat) : Option Int :=
  some (I a0 15)
theorem w_X12_status {η : am_E} {l : Launch} {N : Nat} {n : Nat} {K : am_K} {I : am_I} {F : am_F} {a0 : Nat} {r0 : Int} (h0 : (K a0).1 = 12) : X12_status N K F I a0 = some r0 → Ok η l M_X12_status (am_qm η (am_pS 1 (r0, I) n K F) 0 0) 0 [(0, qr a0)] [] n K I F 0 0 := by
  unfold X12_status
  refine ok_aload_n (q := 1) 0 dX12_status_0 rfl rfl rfl ?_
  refine ok_getI (q := 4) (ci := 12) (k := 15) (x := I a0 15) dX12_status_1 rfl fo_X12_260 h0 rfl ?_
  exact fi_ireturnP dX12_status_4 rfl
theorem ct_X12_status {η : am_E} {l : Launch} {N : Nat} {n : Nat} {K : am_K} {I : am_I} {F : am_F} {a0 : Nat} {r0 : Int} (h0 : (K a0).1 = 12) : X12_status N K F I a0 = some r0 → am_Ct η l yX12_status cX12_status 1 (some .int) 0 0 0 0 [qr a0] n K I F (am_pS 1 (r0, I) n K F) := fun g => am_Ct.of false (by decide) (by decide) (Nat.le_of_ble_eq_true rfl) (fun _ => w_X12_status (N := N) h0 g)
def M_X12_digest : am_M := (yX12_digest.cls, cX12_digest, 4, (some .long), am_room 8 181 0 0, false)
def X12_digest_s164 (N : Nat) (K : am_K) (F : am_F) (a0 : Nat) (k164 : am_I → Int → Int → Option (Int × am_I)) (I : am_I) (x1 : Int) (x3 : Int) : Option (Int × am_I) :=
  if x3 < (I a0 24) then (if (K (F a0 25)).1 = 100 then if (0 : Int) ≤ x3 ∧ x3 < (K (F a0 25)).2 then if (K (F a0 26)).1 = 100 then if (0 : Int) ≤ x3 ∧ x3 < (K (F a0 26)).2 then am_lt (am_wL ((am_wL ((am_wL ((am_wL (x1 * 31)) + (I (F a0 25) x3))) * 31)) + (I (F a0 26) x3))) (fun x1_5 => if (K (F a0 27)).1 = 100 then if (0 : Int) ≤ x3 ∧ x3 < (K (F a0 27)).2 then if (K (F a0 28)).1 = 100 then if (0 : Int) ≤ x3 ∧ x3 < (K (F a0 28)).2 then am_lt (am_wL ((am_wL ((am_wL ((am_wL (x1_5 * 31)) + (I (F a0 27) x3))) * 31)) + (I (F a0 28) x3))) (fun x1_10 => if am_inI (x3 + 1) then am_lt (x3 + 1) (fun x3_12 => k164 I x1_10 x3_12) else none) else none else none else none else none) else none else none else none else none) else (some (x1, I))
theorem w_X12_digest_s164 {η : am_E} {l : Launch} {N : Nat} {n : Nat} {K : am_K} {I : am_I} {F : am_F} {a0 : Nat} {r0 : Int × am_I} {k164 : am_I → Int → Int → Option (Int × am_I)} {x1 : Int} {x3 : Int} (h0 : (K a0).1 = 12) (H164 : ∀ (I : am_I) (x1 : Int) (x3 : Int), k164 I x1 x3 = some r0 → Ok η l M_X12_digest (am_qm η (am_pS 2 r0 n K F) 0 0) 164 [(0, qr a0), (1, ql x1), (3, qi x3)] [] n K I F 0 0) : X12_digest_s164 N K F a0 k164 I x1 x3 = some r0 → Ok η l M_X12_digest (am_qm η (am_pS 2 r0 n K F) 0 0) 164 [(0, qr a0), (1, ql x1), (3, qi x3)] [] n K I F 0 0 := by
  unfold X12_digest_s164
  refine ok_iload_n (q := 165) 2 dX12_digest_164 rfl rfl rfl ?_
  refine ok_aload_n (q := 166) 0 dX12_digest_165 rfl rfl rfl ?_
  refine ok_getI (q := 169) (ci := 12) (k := 24) (x := I a0 24) dX12_digest_166 rfl fo_X12_238 h0 rfl ?_
  refine ok_icmp_ge (q := 230) (q2 := 172) dX12_digest_169 rfl rfl ?_ ?_
  · skip
    refine ok_lload_n (q := 231) 1 dX12_digest_230 rfl rfl rfl ?_
    exact fi_lreturnS dX12_digest_231 rfl
  · skip
    refine ok_lload_n (q := 173) 1 dX12_digest_172 rfl rfl rfl ?_
    refine ok_ldc2 (q := 176) (x := 31) (v := 31) dX12_digest_173 rfl kc_X12_341 rfl (by decide) ?_
    refine ok_lmulW (q := 177) dX12_digest_176 rfl ?_
    refine ok_aload_n (q := 178) 0 dX12_digest_177 rfl rfl rfl ?_
    refine ok_getR (q := 181) (ci := 12) (k := 25) (x := F a0 25) dX12_digest_178 rfl fo_X12_33 h0 rfl ?_
    refine ok_iload_n (q := 182) 2 dX12_digest_181 rfl rfl rfl ?_
    refine fi_chk (fun h_1 => ?_)
    refine fi_chk (fun h_2 => ?_)
    refine ok_iaload (q := 183) (v := I (F a0 25) x3) dX12_digest_182 rfl h_1 h_2.1 h_2.2 rfl ?_
    refine ok_i2l (q := 184) dX12_digest_183 rfl ?_
    refine ok_laddW (q := 185) dX12_digest_184 rfl ?_
    refine ok_ldc2 (q := 188) (x := 31) (v := 31) dX12_digest_185 rfl kc_X12_341 rfl (by decide) ?_
    refine ok_lmulW (q := 189) dX12_digest_188 rfl ?_
    refine ok_aload_n (q := 190) 0 dX12_digest_189 rfl rfl rfl ?_
    refine ok_getR (q := 193) (ci := 12) (k := 26) (x := F a0 26) dX12_digest_190 rfl fo_X12_36 h0 rfl ?_
    refine ok_iload_n (q := 194) 2 dX12_digest_193 rfl rfl rfl ?_
    refine fi_chk (fun h_3 => ?_)
    refine fi_chk (fun h_4 => ?_)
    refine ok_iaload (q := 195) (v := I (F a0 26) x3) dX12_digest_194 rfl h_3 h_4.1 h_4.2 rfl ?_
    refine ok_i2l (q := 196) dX12_digest_195 rfl ?_
    refine ok_laddW (q := 197) dX12_digest_196 rfl ?_
    refine ok_lstore_nL (q := 198) (fun x1_5 => [(1, ql x1_5), (0, qr a0), (3, qi x3)]) dX12_digest_197 rfl rfl (Nat.le_of_ble_eq_true rfl) (fun _ => rfl) (fun x1_5 => ?_)
    refine ok_lload_n (q := 199) 0 dX12_digest_198 rfl rfl rfl ?_
    refine ok_ldc2 (q := 202) (x := 31) (v := 31) dX12_digest_199 rfl kc_X12_341 rfl (by decide) ?_
    refine ok_lmulW (q := 203) dX12_digest_202 rfl ?_
    refine ok_aload_n (q := 204) 1 dX12_digest_203 rfl rfl rfl ?_
    refine ok_getR (q := 207) (ci := 12) (k := 27) (x := F a0 27) dX12_digest_204 rfl fo_X12_39 h0 rfl ?_
    refine ok_iload_n (q := 208) 2 dX12_digest_207 rfl rfl rfl ?_
    refine fi_chk (fun h_6 => ?_)
    refine fi_chk (fun h_7 => ?_)
    refine ok_iaload (q := 209) (v := I (F a0 27) x3) dX12_digest_208 rfl h_6 h_7.1 h_7.2 rfl ?_
    refine ok_i2l (q := 210) dX12_digest_209 rfl ?_
    refine ok_laddW (q := 211) dX12_digest_210 rfl ?_
    refine ok_ldc2 (q := 214) (x := 31) (v := 31) dX12_digest_211 rfl kc_X12_341 rfl (by decide) ?_
    refine ok_lmulW (q := 215) dX12_digest_214 rfl ?_
    refine ok_aload_n (q := 216) 1 dX12_digest_215 rfl rfl rfl ?_
    refine ok_getR (q := 219) (ci := 12) (k := 28) (x := F a0 28) dX12_digest_216 rfl fo_X12_42 h0 rfl ?_
    refine ok_iload_n (q := 220) 2 dX12_digest_219 rfl rfl rfl ?_
    refine fi_chk (fun h_8 => ?_)
    refine fi_chk (fun h_9 => ?_)
    refine ok_iaload (q := 221) (v := I (F a0 28) x3) dX12_digest_220 rfl h_8 h_9.1 h_9.2 rfl ?_
    refine ok_i2l (q := 222) dX12_digest_221 rfl ?_
    refine ok_laddW (q := 223) dX12_digest_222 rfl ?_
    refine ok_lstore_nL (q := 224) (fun x1_10 => [(1, ql x1_10), (0, qr a0), (3, qi x3)]) dX12_digest_223 rfl rfl (Nat.le_of_ble_eq_true rfl) (fun _ => rfl) (fun x1_10 => ?_)
    refine fi_chk (fun h_11 => ?_)
    refine ok_iincL (q := 227) (fun x3_12 => [(3, qi x3_12), (1, ql x1_10), (0, qr a0)]) 2 dX12_digest_224 rfl rfl h_11 (Nat.le_of_ble_eq_true rfl) (fun _ => rfl) (fun x3_12 => ?_)
    refine ok_goto (q := 164) dX12_digest_227 rfl ?_
    exact fun g => ok_pick [2, 1, 0] rfl (H164 _ _ _ g)
def X12_digest_h164 (N : Nat) (K : am_K) (F : am_F) (a0 : Nat) : Nat → am_I → Int → Int → Option (Int × am_I) := am_it (fun kh => X12_digest_s164 N K F a0 kh) (fun _ _ _ => none)
theorem w_X12_digest_h164 {η : am_E} {l : Launch} {N : Nat} {n : Nat} {K : am_K} {F : am_F} {a0 : Nat} {r0 : Int × am_I} (h0 : (K a0).1 = 12) (f : Nat) : ∀ (I : am_I) (x1 : Int) (x3 : Int), X12_digest_h164 N K F a0 f I x1 x3 = some r0 → Ok η l M_X12_digest (am_qm η (am_pS 2 r0 n K F) 0 0) 164 [(0, qr a0), (1, ql x1), (3, qi x3)] [] n K I F 0 0 := by
  induction f with
  | zero => intro I x1 x3 g; exact fi_none g
  | succ f ih => intro I x1 x3 g; exact w_X12_digest_s164 (N := N) h0 ih g
def X12_digest_b38 (N : Nat) (K : am_K) (F : am_F) (a0 : Nat) (k6 : am_I → Int → Int → Option (Int × am_I)) (I : am_I) (x3 : Int) (s0 : Int) (s1 : Int) : Option (Int × am_I) :=
  am_lt (am_wL (s1 + s0)) (fun x1_1 => if am_inI (x3 + 1) then am_lt (x3 + 1) (fun x3_3 => k6 I x1_1 x3_3) else none)
theorem w_X12_digest_b38 {η : am_E} {l : Launch} {N : Nat} {n : Nat} {K : am_K} {I : am_I} {F : am_F} {a0 : Nat} {r0 : Int × am_I} {k6 : am_I → Int → Int → Option (Int × am_I)} {x3 : Int} {s0 : Int} {s1 : Int} (h0 : (K a0).1 = 12) (H6 : ∀ (I : am_I) (x1 : Int) (x3 : Int), k6 I x1 x3 = some r0 → Ok η l M_X12_digest (am_qm η (am_pS 2 r0 n K F) 0 0) 6 [(0, qr a0), (1, ql x1), (3, qi x3)] [] n K I F 0 0) : X12_digest_b38 N K F a0 k6 I x3 s0 s1 = some r0 → Ok η l M_X12_digest (am_qm η (am_pS 2 r0 n K F) 0 0) 38 [(0, qr a0), (3, qi x3)] [qi s0, ql s1] n K I F 0 0 := by
  unfold X12_digest_b38
  refine ok_i2l (q := 39) dX12_digest_38 rfl ?_
  refine ok_laddW (q := 40) dX12_digest_39 rfl ?_
  refine ok_lstore_nL (q := 41) (fun x1_1 => [(1, ql x1_1), (0, qr a0), (3, qi x3)]) dX12_digest_40 rfl rfl (Nat.le_of_ble_eq_true rfl) (fun _ => rfl) (fun x1_1 => ?_)
  refine fi_chk (fun h_2 => ?_)
  refine ok_iincL (q := 44) (fun x3_3 => [(3, qi x3_3), (1, ql x1_1), (0, qr a0)]) 2 dX12_digest_41 rfl rfl h_2 (Nat.le_of_ble_eq_true rfl) (fun _ => rfl) (fun x3_3 => ?_)
  refine ok_goto (q := 6) dX12_digest_44 rfl ?_
  exact fun g => ok_pick [2, 1, 0] rfl (H6 _ _ _ g)
def X12_digest_s6 (N : Nat) (K : am_K) (F : am_F) (a0 : Nat) (k6 : am_I → Int → Int → Option (Int × am_I)) (I : am_I) (x1 : Int) (x3 : Int) : Option (Int × am_I) :=
  am_cq (X12_all N K F I a0) (fun v_1 => if x3 < v_1 then (if (K (F a0 2)).1 = 101 then if (0 : Int) ≤ x3 ∧ x3 < (K (F a0 2)).2 then if (I (F a0 2) x3) = 0 then (if (K (F a0 3)).1 = 100 then if (0 : Int) ≤ x3 ∧ x3 < (K (F a0 3)).2 then X12_digest_b38 N K F a0 k6 I x3 (I (F a0 3) x3) (am_wL (x1 * 31)) else none else none) else (X12_digest_b38 N K F a0 k6 I x3 (-1) (am_wL (x1 * 31))) else none else none) else (if (K (F a0 4)).1 = 100 then if (0 : Int) ≤ 0 ∧ 0 < (K (F a0 4)).2 then if (0 : Int) ≤ 1 ∧ 1 < (K (F a0 4)).2 then am_lt (am_wL ((am_wL ((am_wL ((am_wL (x1 * 31)) + (I (F a0 4) 0))) * 31)) + (I (F a0 4) 1))) (fun x1_5 => am_cq (X12_turn N K F I a0) (fun v_6 => am_cl (X12_over N K F a0 I) (fun v_7 I_8 => am_lt (am_wL ((am_wL ((am_wL ((am_wL (x1_5 * 31)) + v_6)) * 31)) + v_7)) (fun x1_9 => am_cq (X12_moves N K F I_8 a0) (fun v_10 => am_cl (X12_allowed N K F a0 I_8) (fun v_11 I_12 => am_lt (am_wL ((am_wL ((am_wL ((am_wL (x1_9 * 31)) + v_10)) * 31)) + v_11)) (fun x1_13 => am_cl (X12_scored N K F a0 I_12 0) (fun v_14 I_15 => am_cl (X12_scored N K F a0 I_15 1) (fun v_16 I_17 => am_lt (am_wL ((am_wL ((am_wL ((am_wL (x1_13 * 31)) + v_14)) * 31)) + v_16)) (fun x1_18 => if (I_17 a0 21) = 0 then (some (x1_18, I_17)) else (am_lt (am_wL ((am_wL (x1_18 * 31)) + (I_17 a0 24))) (fun x1_19 => X12_digest_h164 N K F a0 N I_17 x1_19 0)))))))))))) else none else none else none))
theorem w_X12_digest_s6 {η : am_E} {l : Launch} {N : Nat} {n : Nat} {K : am_K} {I : am_I} {F : am_F} {a0 : Nat} {r0 : Int × am_I} {k6 : am_I → Int → Int → Option (Int × am_I)} {x1 : Int} {x3 : Int} (h0 : (K a0).1 = 12) (H6 : ∀ (I : am_I) (x1 : Int) (x3 : Int), k6 I x1 x3 = some r0 → Ok η l M_X12_digest (am_qm η (am_pS 2 r0 n K F) 0 0) 6 [(0, qr a0), (1, ql x1), (3, qi x3)] [] n K I F 0 0) : X12_digest_s6 N K F a0 k6 I x1 x3 = some r0 → Ok η l M_X12_digest (am_qm η (am_pS 2 r0 n K F) 0 0) 6 [(0, qr a0), (1, ql x1), (3, qi x3)] [] n K I F 0 0 := by
  unfold X12_digest_s6
  refine ok_iload_n (q := 7) 2 dX12_digest_6 rfl rfl rfl ?_
  refine ok_aload_n (q := 8) 0 dX12_digest_7 rfl rfl rfl ?_
  refine fi_callV1P (q := 11) (as := []) (st := [qi x3]) dX12_digest_8 rfl mo_X12_133 h0 rfl (Nat.le_of_ble_eq_true rfl) rfl rfl (Nat.le_of_ble_eq_true rfl) (Nat.le_of_ble_eq_true rfl) (Nat.le_of_ble_eq_true rfl) (Nat.zero_le _) (Nat.zero_le _) (fun _ hr => ct_X12_all (N := N) h0 hr) (fun v_1 => ?_)
  refine ok_icmp_ge (q := 47) (q2 := 14) dX12_digest_11 rfl rfl ?_ ?_
  · skip
    refine ok_lload_n (q := 48) 1 dX12_digest_47 rfl rfl rfl ?_
    refine ok_ldc2 (q := 51) (x := 31) (v := 31) dX12_digest_48 rfl kc_X12_341 rfl (by decide) ?_
    refine ok_lmulW (q := 52) dX12_digest_51 rfl ?_
    refine ok_aload_n (q := 53) 0 dX12_digest_52 rfl rfl rfl ?_
    refine ok_getR (q := 56) (ci := 12) (k := 4) (x := F a0 4) dX12_digest_53 rfl fo_X12_17 h0 rfl ?_
    refine ok_iconst (q := 57) (x := 0) dX12_digest_56 rfl rfl (by decide) ?_
    refine fi_chk (fun h_2 => ?_)
    refine fi_chk (fun h_3 => ?_)
    refine ok_iaload (q := 58) (v := I (F a0 4) 0) dX12_digest_57 rfl h_2 h_3.1 h_3.2 rfl ?_
    refine ok_i2l (q := 59) dX12_digest_58 rfl ?_
    refine ok_laddW (q := 60) dX12_digest_59 rfl ?_
    refine ok_ldc2 (q := 63) (x := 31) (v := 31) dX12_digest_60 rfl kc_X12_341 rfl (by decide) ?_
    refine ok_lmulW (q := 64) dX12_digest_63 rfl ?_
    refine ok_aload_n (q := 65) 0 dX12_digest_64 rfl rfl rfl ?_
    refine ok_getR (q := 68) (ci := 12) (k := 4) (x := F a0 4) dX12_digest_65 rfl fo_X12_17 h0 rfl ?_
    refine ok_iconst (q := 69) (x := 1) dX12_digest_68 rfl rfl (by decide) ?_
    refine fi_chk (fun h_4 => ?_)
    refine ok_iaload (q := 70) (v := I (F a0 4) 1) dX12_digest_69 rfl h_2 h_4.1 h_4.2 rfl ?_
    refine ok_i2l (q := 71) dX12_digest_70 rfl ?_
    refine ok_laddW (q := 72) dX12_digest_71 rfl ?_
    refine ok_lstore_nL (q := 73) (fun x1_5 => [(1, ql x1_5), (0, qr a0), (3, qi x3)]) dX12_digest_72 rfl rfl (Nat.le_of_ble_eq_true rfl) (fun _ => rfl) (fun x1_5 => ?_)
    refine ok_lload_n (q := 74) 0 dX12_digest_73 rfl rfl rfl ?_
    refine ok_ldc2 (q := 77) (x := 31) (v := 31) dX12_digest_74 rfl kc_X12_341 rfl (by decide) ?_
    refine ok_lmulW (q := 78) dX12_digest_77 rfl ?_
    refine ok_aload_n (q := 79) 1 dX12_digest_78 rfl rfl rfl ?_
    refine fi_callV1P (q := 82) (as := []) (st := [ql (am_wL (x1_5 * 31))]) dX12_digest_79 rfl mo_X12_343 h0 rfl (Nat.le_of_ble_eq_true rfl) rfl rfl (Nat.le_of_ble_eq_true rfl) (Nat.le_of_ble_eq_true rfl) (Nat.le_of_ble_eq_true rfl) (Nat.zero_le _) (Nat.zero_le _) (fun _ hr => ct_X12_turn (N := N) h0 hr) (fun v_6 => ?_)
    refine ok_i2l (q := 83) dX12_digest_82 rfl ?_
    refine ok_laddW (q := 84) dX12_digest_83 rfl ?_
    refine ok_ldc2 (q := 87) (x := 31) (v := 31) dX12_digest_84 rfl kc_X12_341 rfl (by decide) ?_
    refine ok_lmulW (q := 88) dX12_digest_87 rfl ?_
    refine ok_aload_n (q := 89) 1 dX12_digest_88 rfl rfl rfl ?_
    refine fi_callV1S (q := 92) (as := []) (st := [ql (am_wL ((am_wL ((am_wL (x1_5 * 31)) + v_6)) * 31))]) dX12_digest_89 rfl mo_X12_295 h0 rfl (Nat.le_of_ble_eq_true rfl) rfl rfl (Nat.le_of_ble_eq_true rfl) (Nat.le_of_ble_eq_true rfl) (Nat.le_of_ble_eq_true rfl) (Nat.zero_le _) (Nat.zero_le _) (fun _ hr => ct_X12_over (N := N) h0 hr) (fun v_7 I_8 => ?_)
    refine ok_i2l (q := 93) dX12_digest_92 rfl ?_
    refine ok_laddW (q := 94) dX12_digest_93 rfl ?_
    refine ok_lstore_nL (q := 95) (fun x1_9 => [(1, ql x1_9), (0, qr a0), (3, qi x3)]) dX12_digest_94 rfl rfl (Nat.le_of_ble_eq_true rfl) (fun _ => rfl) (fun x1_9 => ?_)
    refine ok_lload_n (q := 96) 0 dX12_digest_95 rfl rfl rfl ?_
    refine ok_ldc2 (q := 99) (x := 31) (v := 31) dX12_digest_96 rfl kc_X12_341 rfl (by decide) ?_
    refine ok_lmulW (q := 100) dX12_digest_99 rfl ?_
    refine ok_aload_n (q := 101) 1 dX12_digest_100 rfl rfl rfl ?_
    refine fi_callV1P (q := 104) (as := []) (st := [ql (am_wL (x1_9 * 31))]) dX12_digest_101 rfl mo_X12_346 h0 rfl (Nat.le_of_ble_eq_true rfl) rfl rfl (Nat.le_of_ble_eq_true rfl) (Nat.le_of_ble_eq_true rfl) (Nat.le_of_ble_eq_true rfl) (Nat.zero_le _) (Nat.zero_le _) (fun _ hr => ct_X12_moves (N := N) h0 hr) (fun v_10 => ?_)
    refine ok_i2l (q := 105) dX12_digest_104 rfl ?_
    refine ok_laddW (q := 106) dX12_digest_105 rfl ?_
    refine ok_ldc2 (q := 109) (x := 31) (v := 31) dX12_digest_106 rfl kc_X12_341 rfl (by decide) ?_
    refine ok_lmulW (q := 110) dX12_digest_109 rfl ?_
    refine ok_aload_n (q := 111) 1 dX12_digest_110 rfl rfl rfl ?_
    refine fi_callV1S (q := 114) (as := []) (st := [ql (am_wL ((am_wL ((am_wL (x1_9 * 31)) + v_10)) * 31))]) dX12_digest_111 rfl mo_X12_301 h0 rfl (Nat.le_of_ble_eq_true rfl) rfl rfl (Nat.le_of_ble_eq_true rfl) (Nat.le_of_ble_eq_true rfl) (Nat.le_of_ble_eq_true rfl) (Nat.zero_le _) (Nat.zero_le _) (fun _ hr => ct_X12_allowed (N := N) h0 hr) (fun v_11 I_12 => ?_)
    refine ok_i2l (q := 115) dX12_digest_114 rfl ?_
    refine ok_laddW (q := 116) dX12_digest_115 rfl ?_
    refine ok_lstore_nL (q := 117) (fun x1_13 => [(1, ql x1_13), (0, qr a0), (3, qi x3)]) dX12_digest_116 rfl rfl (Nat.le_of_ble_eq_true rfl) (fun _ => rfl) (fun x1_13 => ?_)
    refine ok_lload_n (q := 118) 0 dX12_digest_117 rfl rfl rfl ?_
    refine ok_ldc2 (q := 121) (x := 31) (v := 31) dX12_digest_118 rfl kc_X12_341 rfl (by decide) ?_
    refine ok_lmulW (q := 122) dX12_digest_121 rfl ?_
    refine ok_aload_n (q := 123) 1 dX12_digest_122 rfl rfl rfl ?_
    refine ok_iconst (q := 124) (x := 0) dX12_digest_123 rfl rfl (by decide) ?_
    refine fi_callV1S (q := 127) (as := [qi 0]) (st := [ql (am_wL (x1_13 * 31))]) dX12_digest_124 rfl mo_X12_298 h0 rfl (Nat.le_of_ble_eq_true rfl) rfl rfl (Nat.le_of_ble_eq_true rfl) (Nat.le_of_ble_eq_true rfl) (Nat.le_of_ble_eq_true rfl) (Nat.zero_le _) (Nat.zero_le _) (fun _ hr => ct_X12_scored (N := N) h0 hr) (fun v_14 I_15 => ?_)
    refine ok_i2l (q := 128) dX12_digest_127 rfl ?_
    refine ok_laddW (q := 129) dX12_digest_128 rfl ?_
    refine ok_ldc2 (q := 132) (x := 31) (v := 31) dX12_digest_129 rfl kc_X12_341 rfl (by decide) ?_
    refine ok_lmulW (q := 133) dX12_digest_132 rfl ?_
    refine ok_aload_n (q := 134) 1 dX12_digest_133 rfl rfl rfl ?_
    refine ok_iconst (q := 135) (x := 1) dX12_digest_134 rfl rfl (by decide) ?_
    refine fi_callV1S (q := 138) (as := [qi 1]) (st := [ql (am_wL ((am_wL ((am_wL (x1_13 * 31)) + v_14)) * 31))]) dX12_digest_135 rfl mo_X12_298 h0 rfl (Nat.le_of_ble_eq_true rfl) rfl rfl (Nat.le_of_ble_eq_true rfl) (Nat.le_of_ble_eq_true rfl) (Nat.le_of_ble_eq_true rfl) (Nat.zero_le _) (Nat.zero_le _) (fun _ hr => ct_X12_scored (N := N) h0 hr) (fun v_16 I_17 => ?_)
    refine ok_i2l (q := 139) dX12_digest_138 rfl ?_
    refine ok_laddW (q := 140) dX12_digest_139 rfl ?_
    refine ok_lstore_nL (q := 141) (fun x1_18 => [(1, ql x1_18), (0, qr a0), (3, qi x3)]) dX12_digest_140 rfl rfl (Nat.le_of_ble_eq_true rfl) (fun _ => rfl) (fun x1_18 => ?_)
    refine ok_aload_n (q := 142) 1 dX12_digest_141 rfl rfl rfl ?_
    refine ok_getI (q := 145) (ci := 12) (k := 21) (x := I_17 a0 21) dX12_digest_142 rfl fo_X12_127 h0 rfl ?_
    refine ok_if_ne (q := 150) (q2 := 148) dX12_digest_145 rfl rfl ?_ ?_
    · skip
      refine ok_lload_n (q := 151) 0 dX12_digest_150 rfl rfl rfl ?_
      refine ok_ldc2 (q := 154) (x := 31) (v := 31) dX12_digest_151 rfl kc_X12_341 rfl (by decide) ?_
      refine ok_lmulW (q := 155) dX12_digest_154 rfl ?_
      refine ok_aload_n (q := 156) 1 dX12_digest_155 rfl rfl rfl ?_
      refine ok_getI (q := 159) (ci := 12) (k := 24) (x := I_17 a0 24) dX12_digest_156 rfl fo_X12_238 h0 rfl ?_
      refine ok_i2l (q := 160) dX12_digest_159 rfl ?_
      refine ok_laddW (q := 161) dX12_digest_160 rfl ?_
      refine ok_lstore_nL (q := 162) (fun x1_19 => [(1, ql x1_19), (0, qr a0), (3, qi x3)]) dX12_digest_161 rfl rfl (Nat.le_of_ble_eq_true rfl) (fun _ => rfl) (fun x1_19 => ?_)
      refine ok_iconst (q := 163) (x := 0) dX12_digest_162 rfl rfl (by decide) ?_
      refine ok_istore_n (q := 164) (ls' := [(3, qi 0), (1, ql x1_19), (0, qr a0)]) dX12_digest_163 rfl rfl (Nat.le_of_ble_eq_true rfl) rfl ?_
      exact fun g => ok_pick [2, 1, 0] rfl (w_X12_digest_h164 (N := N) h0 N _ _ _ g)
    · skip
      refine ok_lload_n (q := 149) 0 dX12_digest_148 rfl rfl rfl ?_
      exact fi_lreturnS dX12_digest_149 rfl
  · skip
    refine ok_lload_n (q := 15) 1 dX12_digest_14 rfl rfl rfl ?_
    refine ok_ldc2 (q := 18) (x := 31) (v := 31) dX12_digest_15 rfl kc_X12_341 rfl (by decide) ?_
    refine ok_lmulW (q := 19) dX12_digest_18 rfl ?_
    refine ok_aload_n (q := 20) 0 dX12_digest_19 rfl rfl rfl ?_
    refine ok_getR (q := 23) (ci := 12) (k := 2) (x := F a0 2) dX12_digest_20 rfl fo_X12_9 h0 rfl ?_
    refine ok_iload_n (q := 24) 2 dX12_digest_23 rfl rfl rfl ?_
    refine fi_chk (fun h_20 => ?_)
    refine fi_chk (fun h_21 => ?_)
    refine ok_baload (q := 25) (v := I (F a0 2) x3) dX12_digest_24 rfl h_20 h_21.1 h_21.2 rfl ?_
    refine ok_if_eq (q := 32) (q2 := 28) dX12_digest_25 rfl rfl ?_ ?_
    · skip
      refine ok_aload_n (q := 33) 0 dX12_digest_32 rfl rfl rfl ?_
      refine ok_getR (q := 36) (ci := 12) (k := 3) (x := F a0 3) dX12_digest_33 rfl fo_X12_13 h0 rfl ?_
      refine ok_iload_n (q := 37) 2 dX12_digest_36 rfl rfl rfl ?_
      refine fi_chk (fun h_22 => ?_)
      refine fi_chk (fun h_23 => ?_)
      refine ok_iaload (q := 38) (v := I (F a0 3) x3) dX12_digest_37 rfl h_22 h_23.1 h_23.2 rfl ?_
      exact fun g => ok_pick [0, 2] rfl (w_X12_digest_b38 (N := N) h0 H6 g)
    · skip
      refine ok_iconst (q := 29) (x := -1) dX12_digest_28 rfl rfl (by decide) ?_
      refine ok_goto (q := 38) dX12_digest_29 rfl ?_
      exact fun g => ok_pick [0, 2] rfl (w_X12_digest_b38 (N := N) h0 H6 g)
def X12_digest_h6 (N : Nat) (K : am_K) (F : am_F) (a0 : Nat) : Nat → am_I → Int → Int → Option (Int × am_I) := am_it (fun kh => X12_digest_s6 N K F a0 kh) (fun _ _ _ => none)
theorem w_X12_digest_h6 {η : am_E} {l : Launch} {N : Nat} {n : Nat} {K : am_K} {F : am_F} {a0 : Nat} {r0 : Int × am_I} (h0 : (K a0).1 = 12) (f : Nat) : ∀ (I : am_I) (x1 : Int) (x3 : Int), X12_digest_h6 N K F a0 f I x1 x3 = some r0 → Ok η l M_X12_digest (am_qm η (am_pS 2 r0 n K F) 0 0) 6 [(0, qr a0), (1, ql x1), (3, qi x3)] [] n K I F 0 0 := by
  induction f with
  | zero => intro I x1 x3 g; exact fi_none g
  | succ f ih => intro I x1 x3 g; exact w_X12_digest_s6 (N := N) h0 ih g
def X12_digest (N : Nat) (K : am_K) (F : am_F) (a0 : Nat) (I : am_I) : Option (Int × am_I) :=
  X12_digest_h6 N K F a0 N I 7 0
theorem w_X12_digest {η : am_E} {l : Launch} {N : Nat} {n : Nat} {K : am_K} {I : am_I} {F : am_F} {a0 : Nat} {r0 : Int × am_I} (h0 : (K a0).1 = 12) : X12_digest N K F a0 I = some r0 → Ok η l M_X12_digest (am_qm η (am_pS 2 r0 n K F) 0 0) 0 [(0, qr a0)] [] n K I F 0 0 := by
  unfold X12_digest
  refine ok_ldc2 (q := 3) (x := 7) (v := 7) dX12_digest_0 rfl kc_X12_339 rfl (by decide) ?_
  refine ok_lstore_n (q := 4) (ls' := [(1, ql 7), (0, qr a0)]) dX12_digest_3 rfl rfl (Nat.le_of_ble_eq_true rfl) rfl ?_
  refine ok_iconst (q := 5) (x := 0) dX12_digest_4 rfl rfl (by decide) ?_
  refine ok_istore_n (q := 6) (ls' := [(3, qi 0), (1, ql 7), (0, qr a0)]) dX12_digest_5 rfl rfl (Nat.le_of_ble_eq_true rfl) rfl ?_
  exact fun g => ok_pick [2, 1, 0] rfl (w_X12_digest_h6 (N := N) h0 N _ _ _ g)
theorem ct_X12_digest {η : am_E} {l : Launch} {N : Nat} {n : Nat} {K : am_K} {I : am_I} {F : am_F} {a0 : Nat} {r0 : Int × am_I} (h0 : (K a0).1 = 12) : X12_digest N K F a0 I = some r0 → am_Ct η l yX12_digest cX12_digest 4 (some .long) 8 181 0 0 [qr a0] n K I F (am_pS 2 r0 n K F) := fun g => am_Ct.of false (by decide) (by decide) (Nat.le_of_ble_eq_true rfl) (fun _ => w_X12_digest (N := N) h0 g)
