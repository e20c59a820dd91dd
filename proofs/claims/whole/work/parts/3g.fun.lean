def M_X11_rule : am_M := (yX11_rule.cls, cX11_rule, 2, (some .int), am_room 3 60 0 0, false)
def X11_rule_b9 (N : Nat) (K : am_K) (F : am_F) (a0 : Nat) (I : am_I) : Option (Int × am_I) :=
  am_cl (X11_refuse N K F a0 I 7) (fun v_1 I_2 => some (v_1, I_2))
theorem w_X11_rule_b9 {η : am_E} {l : Launch} {N : Nat} {n : Nat} {K : am_K} {I : am_I} {F : am_F} {a0 : Nat} {r0 : Int × am_I} (h0 : (K a0).1 = 11) : X11_rule_b9 N K F a0 I = some r0 → Ok η l M_X11_rule (am_qm η (am_pS 1 r0 n K F) 0 0) 9 [(0, qr a0)] [] n K I F 0 0 := by
  unfold X11_rule_b9
  refine ok_aload_n (q := 10) 0 dX11_rule_9 rfl rfl rfl ?_
  refine ok_bipush (q := 12) (x := 7) dX11_rule_10 rfl rfl (by decide) ?_
  refine fi_callV1S (q := 15) (as := [qi 7]) (st := []) dX11_rule_12 rfl mo_X11_91 h0 rfl (Nat.le_of_ble_eq_true rfl) rfl rfl (Nat.le_of_ble_eq_true rfl) (Nat.le_of_ble_eq_true rfl) (Nat.le_of_ble_eq_true rfl) (Nat.zero_le _) (Nat.zero_le _) (fun _ hr => ct_X11_refuse (N := N) h0 hr) (fun v_1 I_2 => ?_)
  exact fi_ireturnS dX11_rule_15 rfl
def X11_rule (N : Nat) (K : am_K) (F : am_F) (a0 : Nat) (I : am_I) (x1 : Int) : Option (Int × am_I) :=
  if 0 ≤ x1 then (if 3 < x1 then (X11_rule_b9 N K F a0 I) else (if (K (F a0 1)).1 = 8 then am_cl (X8_become N K F (F a0 1) I x1) (fun _ I_2 => am_cl (X11_forgetRuling N K F a0 I_2) (fun _ I_3 => am_cl (X11_accept N K F a0 I_3 x1) (fun v_4 I_5 => some (v_4, I_5)))) else none)) else (X11_rule_b9 N K F a0 I)
theorem w_X11_rule {η : am_E} {l : Launch} {N : Nat} {n : Nat} {K : am_K} {I : am_I} {F : am_F} {a0 : Nat} {r0 : Int × am_I} {x1 : Int} (h0 : (K a0).1 = 11) : X11_rule N K F a0 I x1 = some r0 → Ok η l M_X11_rule (am_qm η (am_pS 1 r0 n K F) 0 0) 0 [(0, qr a0), (1, qi x1)] [] n K I F 0 0 := by
  unfold X11_rule
  refine ok_iload_n (q := 1) 1 dX11_rule_0 rfl rfl rfl ?_
  refine ok_if_lt (q := 9) (q2 := 4) dX11_rule_1 rfl rfl ?_ ?_
  · skip
    exact fun g => ok_pick [0] rfl (w_X11_rule_b9 (N := N) h0 g)
  · skip
    refine ok_iload_n (q := 5) 1 dX11_rule_4 rfl rfl rfl ?_
    refine ok_iconst (q := 6) (x := 3) dX11_rule_5 rfl rfl (by decide) ?_
    refine ok_icmp_le (q := 16) (q2 := 9) dX11_rule_6 rfl rfl ?_ ?_
    · skip
      refine ok_aload_n (q := 17) 0 dX11_rule_16 rfl rfl rfl ?_
      refine ok_getR (q := 20) (ci := 11) (k := 1) (x := F a0 1) dX11_rule_17 rfl fo_X11_19 h0 rfl ?_
      refine ok_iload_n (q := 21) 1 dX11_rule_20 rfl rfl rfl ?_
      refine fi_chk (fun h_1 => ?_)
      refine fi_callV0S (q := 24) (as := [qi x1]) (st := []) dX11_rule_21 rfl mo_X11_139 h_1 rfl (Nat.le_of_ble_eq_true rfl) rfl rfl (Nat.le_of_ble_eq_true rfl) (Nat.le_of_ble_eq_true rfl) (Nat.le_of_ble_eq_true rfl) (Nat.zero_le _) (Nat.zero_le _) (fun _ hr => ct_X8_become (N := N) h_1 hr) (fun _ I_2 => ?_)
      refine ok_aload_n (q := 25) 0 dX11_rule_24 rfl rfl rfl ?_
      refine fi_callV0S (q := 28) (as := []) (st := []) dX11_rule_25 rfl mo_X11_119 h0 rfl (Nat.le_of_ble_eq_true rfl) rfl rfl (Nat.le_of_ble_eq_true rfl) (Nat.le_of_ble_eq_true rfl) (Nat.le_of_ble_eq_true rfl) (Nat.zero_le _) (Nat.zero_le _) (fun _ hr => ct_X11_forgetRuling (N := N) h0 hr) (fun _ I_3 => ?_)
      refine ok_aload_n (q := 29) 0 dX11_rule_28 rfl rfl rfl ?_
      refine ok_iload_n (q := 30) 1 dX11_rule_29 rfl rfl rfl ?_
      refine fi_callV1S (q := 33) (as := [qi x1]) (st := []) dX11_rule_30 rfl mo_X11_98 h0 rfl (Nat.le_of_ble_eq_true rfl) rfl rfl (Nat.le_of_ble_eq_true rfl) (Nat.le_of_ble_eq_true rfl) (Nat.le_of_ble_eq_true rfl) (Nat.zero_le _) (Nat.zero_le _) (fun _ hr => ct_X11_accept (N := N) h0 hr) (fun v_4 I_5 => ?_)
      exact fi_ireturnS dX11_rule_33 rfl
    · skip
      exact fun g => ok_pick [0] rfl (w_X11_rule_b9 (N := N) h0 g)
theorem ct_X11_rule {η : am_E} {l : Launch} {N : Nat} {n : Nat} {K : am_K} {I : am_I} {F : am_F} {a0 : Nat} {r0 : Int × am_I} {x1 : Int} (h0 : (K a0).1 = 11) : X11_rule N K F a0 I x1 = some r0 → am_Ct η l yX11_rule cX11_rule 2 (some .int) 3 60 0 0 [qr a0, qi x1] n K I F (am_pS 1 r0 n K F) := fun g => am_Ct.of false (by decide) (by decide) (Nat.le_of_ble_eq_true rfl) (fun _ => w_X11_rule (N := N) h0 g)
def M_X11_rounds : am_M := (yX11_rounds.cls, cX11_rounds, 2, (some .int), am_room 3 60 0 0, false)
def X11_rounds_b11 (N : Nat) (K : am_K) (F : am_F) (a0 : Nat) (I : am_I) : Option (Int × am_I) :=
  am_cl (X11_refuse N K F a0 I 7) (fun v_1 I_2 => some (v_1, I_2))
theorem w_X11_rounds_b11 {η : am_E} {l : Launch} {N : Nat} {n : Nat} {K : am_K} {I : am_I} {F : am_F} {a0 : Nat} {r0 : Int × am_I} (h0 : (K a0).1 = 11) : X11_rounds_b11 N K F a0 I = some r0 → Ok η l M_X11_rounds (am_qm η (am_pS 1 r0 n K F) 0 0) 11 [(0, qr a0)] [] n K I F 0 0 := by
  unfold X11_rounds_b11
  refine ok_aload_n (q := 12) 0 dX11_rounds_11 rfl rfl rfl ?_
  refine ok_bipush (q := 14) (x := 7) dX11_rounds_12 rfl rfl (by decide) ?_
  refine fi_callV1S (q := 17) (as := [qi 7]) (st := []) dX11_rounds_14 rfl mo_X11_91 h0 rfl (Nat.le_of_ble_eq_true rfl) rfl rfl (Nat.le_of_ble_eq_true rfl) (Nat.le_of_ble_eq_true rfl) (Nat.le_of_ble_eq_true rfl) (Nat.zero_le _) (Nat.zero_le _) (fun _ hr => ct_X11_refuse (N := N) h0 hr) (fun v_1 I_2 => ?_)
  exact fi_ireturnS dX11_rounds_17 rfl
def X11_rounds (N : Nat) (K : am_K) (F : am_F) (a0 : Nat) (I : am_I) (x1 : Int) : Option (Int × am_I) :=
  if 1 ≤ x1 then (if 50 < x1 then (X11_rounds_b11 N K F a0 I) else (if (K (F a0 1)).1 = 8 then if (I (F a0 1) 0) = 1 then (am_lt (am_u2 I (F a0 1) 1 x1) (fun I_2 => am_cl (X11_forgetRuling N K F a0 I_2) (fun _ I_3 => am_cl (X11_accept N K F a0 I_3 x1) (fun v_4 I_5 => some (v_4, I_5))))) else (am_cl (X11_refuse N K F a0 I 4) (fun v_6 I_7 => some (v_6, I_7))) else none)) else (X11_rounds_b11 N K F a0 I)
theorem w_X11_rounds {η : am_E} {l : Launch} {N : Nat} {n : Nat} {K : am_K} {I : am_I} {F : am_F} {a0 : Nat} {r0 : Int × am_I} {x1 : Int} (h0 : (K a0).1 = 11) : X11_rounds N K F a0 I x1 = some r0 → Ok η l M_X11_rounds (am_qm η (am_pS 1 r0 n K F) 0 0) 0 [(0, qr a0), (1, qi x1)] [] n K I F 0 0 := by
  unfold X11_rounds
  refine ok_iload_n (q := 1) 1 dX11_rounds_0 rfl rfl rfl ?_
  refine ok_iconst (q := 2) (x := 1) dX11_rounds_1 rfl rfl (by decide) ?_
  refine ok_icmp_lt (q := 11) (q2 := 5) dX11_rounds_2 rfl rfl ?_ ?_
  · skip
    exact fun g => ok_pick [0] rfl (w_X11_rounds_b11 (N := N) h0 g)
  · skip
    refine ok_iload_n (q := 6) 1 dX11_rounds_5 rfl rfl rfl ?_
    refine ok_bipush (q := 8) (x := 50) dX11_rounds_6 rfl rfl (by decide) ?_
    refine ok_icmp_le (q := 18) (q2 := 11) dX11_rounds_8 rfl rfl ?_ ?_
    · skip
      refine ok_aload_n (q := 19) 0 dX11_rounds_18 rfl rfl rfl ?_
      refine ok_getR (q := 22) (ci := 11) (k := 1) (x := F a0 1) dX11_rounds_19 rfl fo_X11_19 h0 rfl ?_
      refine fi_chk (fun h_1 => ?_)
      refine ok_getI (q := 25) (ci := 8) (k := 0) (x := I (F a0 1) 0) dX11_rounds_22 rfl fo_X11_142 h_1 rfl ?_
      refine ok_iconst (q := 26) (x := 1) dX11_rounds_25 rfl rfl (by decide) ?_
      refine ok_icmp_eq (q := 35) (q2 := 29) dX11_rounds_26 rfl rfl ?_ ?_
      · skip
        refine ok_aload_n (q := 36) 0 dX11_rounds_35 rfl rfl rfl ?_
        refine ok_getR (q := 39) (ci := 11) (k := 1) (x := F a0 1) dX11_rounds_36 rfl fo_X11_19 h0 rfl ?_
        refine ok_iload_n (q := 40) 1 dX11_rounds_39 rfl rfl rfl ?_
        refine ok_putI (q := 43) (ci := 8) (k := 1) dX11_rounds_40 rfl fo_X11_145 h_1 ft_8_1 ff_8_1 (fun I_2 => ?_)
        refine ok_aload_n (q := 44) 0 dX11_rounds_43 rfl rfl rfl ?_
        refine fi_callV0S (q := 47) (as := []) (st := []) dX11_rounds_44 rfl mo_X11_119 h0 rfl (Nat.le_of_ble_eq_true rfl) rfl rfl (Nat.le_of_ble_eq_true rfl) (Nat.le_of_ble_eq_true rfl) (Nat.le_of_ble_eq_true rfl) (Nat.zero_le _) (Nat.zero_le _) (fun _ hr => ct_X11_forgetRuling (N := N) h0 hr) (fun _ I_3 => ?_)
        refine ok_aload_n (q := 48) 0 dX11_rounds_47 rfl rfl rfl ?_
        refine ok_iload_n (q := 49) 1 dX11_rounds_48 rfl rfl rfl ?_
        refine fi_callV1S (q := 52) (as := [qi x1]) (st := []) dX11_rounds_49 rfl mo_X11_98 h0 rfl (Nat.le_of_ble_eq_true rfl) rfl rfl (Nat.le_of_ble_eq_true rfl) (Nat.le_of_ble_eq_true rfl) (Nat.le_of_ble_eq_true rfl) (Nat.zero_le _) (Nat.zero_le _) (fun _ hr => ct_X11_accept (N := N) h0 hr) (fun v_4 I_5 => ?_)
        exact fi_ireturnS dX11_rounds_52 rfl
      · skip
        refine ok_aload_n (q := 30) 0 dX11_rounds_29 rfl rfl rfl ?_
        refine ok_iconst (q := 31) (x := 4) dX11_rounds_30 rfl rfl (by decide) ?_
        refine fi_callV1S (q := 34) (as := [qi 4]) (st := []) dX11_rounds_31 rfl mo_X11_91 h0 rfl (Nat.le_of_ble_eq_true rfl) rfl rfl (Nat.le_of_ble_eq_true rfl) (Nat.le_of_ble_eq_true rfl) (Nat.le_of_ble_eq_true rfl) (Nat.zero_le _) (Nat.zero_le _) (fun _ hr => ct_X11_refuse (N := N) h0 hr) (fun v_6 I_7 => ?_)
        exact fi_ireturnS dX11_rounds_34 rfl
    · skip
      exact fun g => ok_pick [0] rfl (w_X11_rounds_b11 (N := N) h0 g)
theorem ct_X11_rounds {η : am_E} {l : Launch} {N : Nat} {n : Nat} {K : am_K} {I : am_I} {F : am_F} {a0 : Nat} {r0 : Int × am_I} {x1 : Int} (h0 : (K a0).1 = 11) : X11_rounds N K F a0 I x1 = some r0 → am_Ct η l yX11_rounds cX11_rounds 2 (some .int) 3 60 0 0 [qr a0, qi x1] n K I F (am_pS 1 r0 n K F) := fun g => am_Ct.of false (by decide) (by decide) (Nat.le_of_ble_eq_true rfl) (fun _ => w_X11_rounds (N := N) h0 g)
def M_X11_takes : am_M := (yX11_takes.cls, cX11_takes, 3, (some .int), am_room 3 60 0 0, false)
def X11_takes_b16 (N : Nat) (K : am_K) (F : am_F) (a0 : Nat) (I : am_I) : Option (Int × am_I) :=
  am_cl (X11_refuse N K F a0 I 7) (fun v_1 I_2 => some (v_1, I_2))
theorem w_X11_takes_b16 {η : am_E} {l : Launch} {N : Nat} {n : Nat} {K : am_K} {I : am_I} {F : am_F} {a0 : Nat} {r0 : Int × am_I} (h0 : (K a0).1 = 11) : X11_takes_b16 N K F a0 I = some r0 → Ok η l M_X11_takes (am_qm η (am_pS 1 r0 n K F) 0 0) 16 [(0, qr a0)] [] n K I F 0 0 := by
  unfold X11_takes_b16
  refine ok_aload_n (q := 17) 0 dX11_takes_16 rfl rfl rfl ?_
  refine ok_bipush (q := 19) (x := 7) dX11_takes_17 rfl rfl (by decide) ?_
  refine fi_callV1S (q := 22) (as := [qi 7]) (st := []) dX11_takes_19 rfl mo_X11_91 h0 rfl (Nat.le_of_ble_eq_true rfl) rfl rfl (Nat.le_of_ble_eq_true rfl) (Nat.le_of_ble_eq_true rfl) (Nat.le_of_ble_eq_true rfl) (Nat.zero_le _) (Nat.zero_le _) (fun _ hr => ct_X11_refuse (N := N) h0 hr) (fun v_1 I_2 => ?_)
  exact fi_ireturnS dX11_takes_22 rfl
def X11_takes (N : Nat) (K : am_K) (F : am_F) (a0 : Nat) (I : am_I) (x1 : Int) (x2 : Int) : Option (Int × am_I) :=
  if 1 ≤ x1 then (if x1 ≤ x2 then (if 20 < x2 then (X11_takes_b16 N K F a0 I) else (if (K (F a0 1)).1 = 8 then if (I (F a0 1) 0) = 2 then (am_lt (am_u2 I (F a0 1) 2 x1) (fun I_2 => am_lt (am_u2 I_2 (F a0 1) 3 x2) (fun I_3 => am_cl (X11_forgetRuling N K F a0 I_3) (fun _ I_4 => am_cl (X11_accept N K F a0 I_4 x2) (fun v_5 I_6 => some (v_5, I_6)))))) else (am_cl (X11_refuse N K F a0 I 4) (fun v_7 I_8 => some (v_7, I_8))) else none)) else (X11_takes_b16 N K F a0 I)) else (X11_takes_b16 N K F a0 I)
theorem w_X11_takes {η : am_E} {l : Launch} {N : Nat} {n : Nat} {K : am_K} {I : am_I} {F : am_F} {a0 : Nat} {r0 : Int × am_I} {x1 : Int} {x2 : Int} (h0 : (K a0).1 = 11) : X11_takes N K F a0 I x1 x2 = some r0 → Ok η l M_X11_takes (am_qm η (am_pS 1 r0 n K F) 0 0) 0 [(0, qr a0), (1, qi x1), (2, qi x2)] [] n K I F 0 0 := by
  unfold X11_takes
  refine ok_iload_n (q := 1) 1 dX11_takes_0 rfl rfl rfl ?_
  refine ok_iconst (q := 2) (x := 1) dX11_takes_1 rfl rfl (by decide) ?_
  refine ok_icmp_lt (q := 16) (q2 := 5) dX11_takes_2 rfl rfl ?_ ?_
  · skip
    exact fun g => ok_pick [0] rfl (w_X11_takes_b16 (N := N) h0 g)
  · skip
    refine ok_iload_n (q := 6) 1 dX11_takes_5 rfl rfl rfl ?_
    refine ok_iload_n (q := 7) 2 dX11_takes_6 rfl rfl rfl ?_
    refine ok_icmp_gt (q := 16) (q2 := 10) dX11_takes_7 rfl rfl ?_ ?_
    · skip
      exact fun g => ok_pick [0] rfl (w_X11_takes_b16 (N := N) h0 g)
    · skip
      refine ok_iload_n (q := 11) 2 dX11_takes_10 rfl rfl rfl ?_
      refine ok_bipush (q := 13) (x := 20) dX11_takes_11 rfl rfl (by decide) ?_
      refine ok_icmp_le (q := 23) (q2 := 16) dX11_takes_13 rfl rfl ?_ ?_
      · skip
        refine ok_aload_n (q := 24) 0 dX11_takes_23 rfl rfl rfl ?_
        refine ok_getR (q := 27) (ci := 11) (k := 1) (x := F a0 1) dX11_takes_24 rfl fo_X11_19 h0 rfl ?_
        refine fi_chk (fun h_1 => ?_)
        refine ok_getI (q := 30) (ci := 8) (k := 0) (x := I (F a0 1) 0) dX11_takes_27 rfl fo_X11_142 h_1 rfl ?_
        refine ok_iconst (q := 31) (x := 2) dX11_takes_30 rfl rfl (by decide) ?_
        refine ok_icmp_eq (q := 40) (q2 := 34) dX11_takes_31 rfl rfl ?_ ?_
        · skip
          refine ok_aload_n (q := 41) 0 dX11_takes_40 rfl rfl rfl ?_
          refine ok_getR (q := 44) (ci := 11) (k := 1) (x := F a0 1) dX11_takes_41 rfl fo_X11_19 h0 rfl ?_
          refine ok_iload_n (q := 45) 1 dX11_takes_44 rfl rfl rfl ?_
          refine ok_putI (q := 48) (ci := 8) (k := 2) dX11_takes_45 rfl fo_X11_148 h_1 ft_8_2 ff_8_2 (fun I_2 => ?_)
          refine ok_aload_n (q := 49) 0 dX11_takes_48 rfl rfl rfl ?_
          refine ok_getR (q := 52) (ci := 11) (k := 1) (x := F a0 1) dX11_takes_49 rfl fo_X11_19 h0 rfl ?_
          refine ok_iload_n (q := 53) 2 dX11_takes_52 rfl rfl rfl ?_
          refine ok_putI (q := 56) (ci := 8) (k := 3) dX11_takes_53 rfl fo_X11_151 h_1 ft_8_3 ff_8_3 (fun I_3 => ?_)
          refine ok_aload_n (q := 57) 0 dX11_takes_56 rfl rfl rfl ?_
          refine fi_callV0S (q := 60) (as := []) (st := []) dX11_takes_57 rfl mo_X11_119 h0 rfl (Nat.le_of_ble_eq_true rfl) rfl rfl (Nat.le_of_ble_eq_true rfl) (Nat.le_of_ble_eq_true rfl) (Nat.le_of_ble_eq_true rfl) (Nat.zero_le _) (Nat.zero_le _) (fun _ hr => ct_X11_forgetRuling (N := N) h0 hr) (fun _ I_4 => ?_)
          refine ok_aload_n (q := 61) 0 dX11_takes_60 rfl rfl rfl ?_
          refine ok_iload_n (q := 62) 2 dX11_takes_61 rfl rfl rfl ?_
          refine fi_callV1S (q := 65) (as := [qi x2]) (st := []) dX11_takes_62 rfl mo_X11_98 h0 rfl (Nat.le_of_ble_eq_true rfl) rfl rfl (Nat.le_of_ble_eq_true rfl) (Nat.le_of_ble_eq_true rfl) (Nat.le_of_ble_eq_true rfl) (Nat.zero_le _) (Nat.zero_le _) (fun _ hr => ct_X11_accept (N := N) h0 hr) (fun v_5 I_6 => ?_)
          exact fi_ireturnS dX11_takes_65 rfl
        · skip
          refine ok_aload_n (q := 35) 0 dX11_takes_34 rfl rfl rfl ?_
          refine ok_iconst (q := 36) (x := 4) dX11_takes_35 rfl rfl (by decide) ?_
          refine fi_callV1S (q := 39) (as := [qi 4]) (st := []) dX11_takes_36 rfl mo_X11_91 h0 rfl (Nat.le_of_ble_eq_true rfl) rfl rfl (Nat.le_of_ble_eq_true rfl) (Nat.le_of_ble_eq_true rfl) (Nat.le_of_ble_eq_true rfl) (Nat.zero_le _) (Nat.zero_le _) (fun _ hr => ct_X11_refuse (N := N) h0 hr) (fun v_7 I_8 => ?_)
          exact fi_ireturnS dX11_takes_39 rfl
      · skip
        exact fun g => ok_pick [0] rfl (w_X11_takes_b16 (N := N) h0 g)
theorem ct_X11_takes {η : am_E} {l : Launch} {N : Nat} {n : Nat} {K : am_K} {I : am_I} {F : am_F} {a0 : Nat} {r0 : Int × am_I} {x1 : Int} {x2 : Int} (h0 : (K a0).1 = 11) : X11_takes N K F a0 I x1 x2 = some r0 → am_Ct η l yX11_takes cX11_takes 3 (some .int) 3 60 0 0 [qr a0, qi x1, qi x2] n K I F (am_pS 1 r0 n K F) := fun g => am_Ct.of false (by decide) (by decide) (Nat.le_of_ble_eq_true rfl) (fun _ => w_X11_takes (N := N) h0 g)
def M_X11_least : am_M := (yX11_least.cls, cX11_least, 2, (some .int), am_room 3 60 0 0, false)
def X11_least_b10 (N : Nat) (K : am_K) (F : am_F) (a0 : Nat) (I : am_I) : Option (Int × am_I) :=
  am_cl (X11_refuse N K F a0 I 7) (fun v_1 I_2 => some (v_1, I_2))
theorem w_X11_least_b10 {η : am_E} {l : Launch} {N : Nat} {n : Nat} {K : am_K} {I : am_I} {F : am_F} {a0 : Nat} {r0 : Int × am_I} (h0 : (K a0).1 = 11) : X11_least_b10 N K F a0 I = some r0 → Ok η l M_X11_least (am_qm η (am_pS 1 r0 n K F) 0 0) 10 [(0, qr a0)] [] n K I F 0 0 := by
  unfold X11_least_b10
  refine ok_aload_n (q := 11) 0 dX11_least_10 rfl rfl rfl ?_
  refine ok_bipush (q := 13) (x := 7) dX11_least_11 rfl rfl (by decide) ?_
  refine fi_callV1S (q := 16) (as := [qi 7]) (st := []) dX11_least_13 rfl mo_X11_91 h0 rfl (Nat.le_of_ble_eq_true rfl) rfl rfl (Nat.le_of_ble_eq_true rfl) (Nat.le_of_ble_eq_true rfl) (Nat.le_of_ble_eq_true rfl) (Nat.zero_le _) (Nat.zero_le _) (fun _ hr => ct_X11_refuse (N := N) h0 hr) (fun v_1 I_2 => ?_)
  exact fi_ireturnS dX11_least_16 rfl
def X11_least (N : Nat) (K : am_K) (F : am_F) (a0 : Nat) (I : am_I) (x1 : Int) : Option (Int × am_I) :=
  if 1 ≤ x1 then (if 4 < x1 then (X11_least_b10 N K F a0 I) else (if (K (F a0 1)).1 = 8 then am_lt (am_u2 I (F a0 1) 4 x1) (fun I_2 => am_cl (X11_forgetRuling N K F a0 I_2) (fun _ I_3 => am_cl (X11_accept N K F a0 I_3 x1) (fun v_4 I_5 => some (v_4, I_5)))) else none)) else (X11_least_b10 N K F a0 I)
theorem w_X11_least {η : am_E} {l : Launch} {N : Nat} {n : Nat} {K : am_K} {I : am_I} {F : am_F} {a0 : Nat} {r0 : Int × am_I} {x1 : Int} (h0 : (K a0).1 = 11) : X11_least N K F a0 I x1 = some r0 → Ok η l M_X11_least (am_qm η (am_pS 1 r0 n K F) 0 0) 0 [(0, qr a0), (1, qi x1)] [] n K I F 0 0 := by
  unfold X11_least
  refine ok_iload_n (q := 1) 1 dX11_least_0 rfl rfl rfl ?_
  refine ok_iconst (q := 2) (x := 1) dX11_least_1 rfl rfl (by decide) ?_
  refine ok_icmp_lt (q := 10) (q2 := 5) dX11_least_2 rfl rfl ?_ ?_
  · skip
    exact fun g => ok_pick [0] rfl (w_X11_least_b10 (N := N) h0 g)
  · skip
    refine ok_iload_n (q := 6) 1 dX11_least_5 rfl rfl rfl ?_
    refine ok_iconst (q := 7) (x := 4) dX11_least_6 rfl rfl (by decide) ?_
    refine ok_icmp_le (q := 17) (q2 := 10) dX11_least_7 rfl rfl ?_ ?_
    · skip
      refine ok_aload_n (q := 18) 0 dX11_least_17 rfl rfl rfl ?_
      refine ok_getR (q := 21) (ci := 11) (k := 1) (x := F a0 1) dX11_least_18 rfl fo_X11_19 h0 rfl ?_
      refine ok_iload_n (q := 22) 1 dX11_least_21 rfl rfl rfl ?_
      refine fi_chk (fun h_1 => ?_)
      refine ok_putI (q := 25) (ci := 8) (k := 4) dX11_least_22 rfl fo_X11_154 h_1 ft_8_4 ff_8_4 (fun I_2 => ?_)
      refine ok_aload_n (q := 26) 0 dX11_least_25 rfl rfl rfl ?_
      refine fi_callV0S (q := 29) (as := []) (st := []) dX11_least_26 rfl mo_X11_119 h0 rfl (Nat.le_of_ble_eq_true rfl) rfl rfl (Nat.le_of_ble_eq_true rfl) (Nat.le_of_ble_eq_true rfl) (Nat.le_of_ble_eq_true rfl) (Nat.zero_le _) (Nat.zero_le _) (fun _ hr => ct_X11_forgetRuling (N := N) h0 hr) (fun _ I_3 => ?_)
      refine ok_aload_n (q := 30) 0 dX11_least_29 rfl rfl rfl ?_
      refine ok_iload_n (q := 31) 1 dX11_least_30 rfl rfl rfl ?_
      refine fi_callV1S (q := 34) (as := [qi x1]) (st := []) dX11_least_31 rfl mo_X11_98 h0 rfl (Nat.le_of_ble_eq_true rfl) rfl rfl (Nat.le_of_ble_eq_true rfl) (Nat.le_of_ble_eq_true rfl) (Nat.le_of_ble_eq_true rfl) (Nat.zero_le _) (Nat.zero_le _) (fun _ hr => ct_X11_accept (N := N) h0 hr) (fun v_4 I_5 => ?_)
      exact fi_ireturnS dX11_least_34 rfl
    · skip
      exact fun g => ok_pick [0] rfl (w_X11_least_b10 (N := N) h0 g)
theorem ct_X11_least {η : am_E} {l : Launch} {N : Nat} {n : Nat} {K : am_K} {I : am_I} {F : am_F} {a0 : Nat} {r0 : Int × am_I} {x1 : Int} (h0 : (K a0).1 = 11) : X11_least N K F a0 I x1 = some r0 → am_Ct η l yX11_least cX11_least 2 (some .int) 3 60 0 0 [qr a0, qi x1] n K I F (am_pS 1 r0 n K F) := fun g => am_Ct.of false (by decide) (by decide) (Nat.le_of_ble_eq_true rfl) (fun _ => w_X11_least (N := N) h0 g)
def M_X11_feeding : am_M := (yX11_feeding.cls, cX11_feeding, 2, (some .int), am_room 3 60 0 0, false)
def X11_feeding_b9 (N : Nat) (K : am_K) (F : am_F) (a0 : Nat) (I : am_I) : Option (Int × am_I) :=
  am_cl (X11_refuse N K F a0 I 7) (fun v_1 I_2 => some (v_1, I_2))
theorem w_X11_feeding_b9 {η : am_E} {l : Launch} {N : Nat} {n : Nat} {K : am_K} {I : am_I} {F : am_F} {a0 : Nat} {r0 : Int × am_I} (h0 : (K a0).1 = 11) : X11_feeding_b9 N K F a0 I = some r0 → Ok η l M_X11_feeding (am_qm η (am_pS 1 r0 n K F) 0 0) 9 [(0, qr a0)] [] n K I F 0 0 := by
  unfold X11_feeding_b9
  refine ok_aload_n (q := 10) 0 dX11_feeding_9 rfl rfl rfl ?_
  refine ok_bipush (q := 12) (x := 7) dX11_feeding_10 rfl rfl (by decide) ?_
  refine fi_callV1S (q := 15) (as := [qi 7]) (st := []) dX11_feeding_12 rfl mo_X11_91 h0 rfl (Nat.le_of_ble_eq_true rfl) rfl rfl (Nat.le_of_ble_eq_true rfl) (Nat.le_of_ble_eq_true rfl) (Nat.le_of_ble_eq_true rfl) (Nat.zero_le _) (Nat.zero_le _) (fun _ hr => ct_X11_refuse (N := N) h0 hr) (fun v_1 I_2 => ?_)
  exact fi_ireturnS dX11_feeding_15 rfl
def X11_feeding_b30 (N : Nat) (K : am_K) (F : am_F) (a0 : Nat) (I : am_I) (x1 : Int) (s0 : Int) (t1 : Nat) : Option (Int × am_I) :=
  if (K t1).1 = 8 then if s0 = 0 ∨ s0 = 1 then am_lt (am_u2 I t1 5 s0) (fun I_3 => am_cl (X11_forgetRuling N K F a0 I_3) (fun _ I_4 => am_cl (X11_accept N K F a0 I_4 x1) (fun v_5 I_6 => some (v_5, I_6)))) else none else none
theorem w_X11_feeding_b30 {η : am_E} {l : Launch} {N : Nat} {n : Nat} {K : am_K} {I : am_I} {F : am_F} {a0 : Nat} {r0 : Int × am_I} {x1 : Int} {s0 : Int} {t1 : Nat} (h0 : (K a0).1 = 11) : X11_feeding_b30 N K F a0 I x1 s0 t1 = some r0 → Ok η l M_X11_feeding (am_qm η (am_pS 1 r0 n K F) 0 0) 30 [(0, qr a0), (1, qi x1)] [qi s0, qr t1] n K I F 0 0 := by
  unfold X11_feeding_b30
  refine fi_chk (fun h_1 => ?_)
  refine fi_chk (fun h_2 => ?_)
  refine ok_putZ (q := 33) (ci := 8) (k := 5) dX11_feeding_30 rfl fo_X11_157 h_1 ft_8_5 h_2 ff_8_5 (fun I_3 => ?_)
  refine ok_aload_n (q := 34) 0 dX11_feeding_33 rfl rfl rfl ?_
  refine fi_callV0S (q := 37) (as := []) (st := []) dX11_feeding_34 rfl mo_X11_119 h0 rfl (Nat.le_of_ble_eq_true rfl) rfl rfl (Nat.le_of_ble_eq_true rfl) (Nat.le_of_ble_eq_true rfl) (Nat.le_of_ble_eq_true rfl) (Nat.zero_le _) (Nat.zero_le _) (fun _ hr => ct_X11_forgetRuling (N := N) h0 hr) (fun _ I_4 => ?_)
  refine ok_aload_n (q := 38) 0 dX11_feeding_37 rfl rfl rfl ?_
  refine ok_iload_n (q := 39) 1 dX11_feeding_38 rfl rfl rfl ?_
  refine fi_callV1S (q := 42) (as := [qi x1]) (st := []) dX11_feeding_39 rfl mo_X11_98 h0 rfl (Nat.le_of_ble_eq_true rfl) rfl rfl (Nat.le_of_ble_eq_true rfl) (Nat.le_of_ble_eq_true rfl) (Nat.le_of_ble_eq_true rfl) (Nat.zero_le _) (Nat.zero_le _) (fun _ hr => ct_X11_accept (N := N) h0 hr) (fun v_5 I_6 => ?_)
  exact fi_ireturnS dX11_feeding_42 rfl
def X11_feeding (N : Nat) (K : am_K) (F : am_F) (a0 : Nat) (I : am_I) (x1 : Int) : Option (Int × am_I) :=
  if 0 ≤ x1 then (if 1 < x1 then (X11_feeding_b9 N K F a0 I) else (if x1 = 1 then (X11_feeding_b30 N K F a0 I x1 1 (F a0 1)) else (X11_feeding_b30 N K F a0 I x1 0 (F a0 1)))) else (X11_feeding_b9 N K F a0 I)
theorem w_X11_feeding {η : am_E} {l : Launch} {N : Nat} {n : Nat} {K : am_K} {I : am_I} {F : am_F} {a0 : Nat} {r0 : Int × am_I} {x1 : Int} (h0 : (K a0).1 = 11) : X11_feeding N K F a0 I x1 = some r0 → Ok η l M_X11_feeding (am_qm η (am_pS 1 r0 n K F) 0 0) 0 [(0, qr a0), (1, qi x1)] [] n K I F 0 0 := by
  unfold X11_feeding
  refine ok_iload_n (q := 1) 1 dX11_feeding_0 rfl rfl rfl ?_
  refine ok_if_lt (q := 9) (q2 := 4) dX11_feeding_1 rfl rfl ?_ ?_
  · skip
    exact fun g => ok_pick [0] rfl (w_X11_feeding_b9 (N := N) h0 g)
  · skip
    refine ok_iload_n (q := 5) 1 dX11_feeding_4 rfl rfl rfl ?_
    refine ok_iconst (q := 6) (x := 1) dX11_feeding_5 rfl rfl (by decide) ?_
    refine ok_icmp_le (q := 16) (q2 := 9) dX11_feeding_6 rfl rfl ?_ ?_
    · skip
      refine ok_aload_n (q := 17) 0 dX11_feeding_16 rfl rfl rfl ?_
      refine ok_getR (q := 20) (ci := 11) (k := 1) (x := F a0 1) dX11_feeding_17 rfl fo_X11_19 h0 rfl ?_
      refine ok_iload_n (q := 21) 1 dX11_feeding_20 rfl rfl rfl ?_
      refine ok_iconst (q := 22) (x := 1) dX11_feeding_21 rfl rfl (by decide) ?_
      refine ok_icmp_ne (q := 29) (q2 := 25) dX11_feeding_22 rfl rfl ?_ ?_
      · skip
        refine ok_iconst (q := 30) (x := 0) dX11_feeding_29 rfl rfl (by decide) ?_
        exact fun g => ok_pick [0, 1] rfl (w_X11_feeding_b30 (N := N) h0 g)
      · skip
        refine ok_iconst (q := 26) (x := 1) dX11_feeding_25 rfl rfl (by decide) ?_
        refine ok_goto (q := 30) dX11_feeding_26 rfl ?_
        exact fun g => ok_pick [0, 1] rfl (w_X11_feeding_b30 (N := N) h0 g)
    · skip
      exact fun g => ok_pick [0] rfl (w_X11_feeding_b9 (N := N) h0 g)
theorem ct_X11_feeding {η : am_E} {l : Launch} {N : Nat} {n : Nat} {K : am_K} {I : am_I} {F : am_F} {a0 : Nat} {r0 : Int × am_I} {x1 : Int} (h0 : (K a0).1 = 11) : X11_feeding N K F a0 I x1 = some r0 → am_Ct η l yX11_feeding cX11_feeding 2 (some .int) 3 60 0 0 [qr a0, qi x1] n K I F (am_pS 1 r0 n K F) := fun g => am_Ct.of false (by decide) (by decide) (Nat.le_of_ble_eq_true rfl) (fun _ => w_X11_feeding (N := N) h0 g)
def M_X11_ends : am_M := (yX11_ends.cls, cX11_ends, 2, (some .int), am_room 3 60 0 0, false)
def X11_ends_b9 (N : Nat) (K : am_K) (F : am_F) (a0 : Nat) (I : am_I) : Option (Int × am_I) :=
  am_cl (X11_refuse N K F a0 I 7) (fun v_1 I_2 => some (v_1, I_2))
theorem w_X11_ends_b9 {η : am_E} {l : Launch} {N : Nat} {n : Nat} {K : am_K} {I : am_I} {F : am_F} {a0 : Nat} {r0 : Int × am_I} (h0 : (K a0).1 = 11) : X11_ends_b9 N K F a0 I = some r0 → Ok η l M_X11_ends (am_qm η (am_pS 1 r0 n K F) 0 0) 9 [(0, qr a0)] [] n K I F 0 0 := by
  unfold X11_ends_b9
  refine ok_aload_n (q := 10) 0 dX11_ends_9 rfl rfl rfl ?_
  refine ok_bipush (q := 12) (x := 7) dX11_ends_10 rfl rfl (by decide) ?_
  refine fi_callV1S (q := 15) (as := [qi 7]) (st := []) dX11_ends_12 rfl mo_X11_91 h0 rfl (Nat.le_of_ble_eq_true rfl) rfl rfl (Nat.le_of_ble_eq_true rfl) (Nat.le_of_ble_eq_true rfl) (Nat.le_of_ble_eq_true rfl) (Nat.zero_le _) (Nat.zero_le _) (fun _ hr => ct_X11_refuse (N := N) h0 hr) (fun v_1 I_2 => ?_)
  exact fi_ireturnS dX11_ends_15 rfl
def X11_ends (N : Nat) (K : am_K) (F : am_F) (a0 : Nat) (I : am_I) (x1 : Int) : Option (Int × am_I) :=
  if 0 ≤ x1 then (if 2 < x1 then (X11_ends_b9 N K F a0 I) else (if (K (F a0 1)).1 = 8 then am_lt (am_u2 I (F a0 1) 6 x1) (fun I_2 => am_cl (X11_forgetRuling N K F a0 I_2) (fun _ I_3 => am_cl (X11_accept N K F a0 I_3 x1) (fun v_4 I_5 => some (v_4, I_5)))) else none)) else (X11_ends_b9 N K F a0 I)
theorem w_X11_ends {η : am_E} {l : Launch} {N : Nat} {n : Nat} {K : am_K} {I : am_I} {F : am_F} {a0 : Nat} {r0 : Int × am_I} {x1 : Int} (h0 : (K a0).1 = 11) : X11_ends N K F a0 I x1 = some r0 → Ok η l M_X11_ends (am_qm η (am_pS 1 r0 n K F) 0 0) 0 [(0, qr a0), (1, qi x1)] [] n K I F 0 0 := by
  unfold X11_ends
  refine ok_iload_n (q := 1) 1 dX11_ends_0 rfl rfl rfl ?_
  refine ok_if_lt (q := 9) (q2 := 4) dX11_ends_1 rfl rfl ?_ ?_
  · skip
    exact fun g => ok_pick [0] rfl (w_X11_ends_b9 (N := N) h0 g)
  · skip
    refine ok_iload_n (q := 5) 1 dX11_ends_4 rfl rfl rfl ?_
    refine ok_iconst (q := 6) (x := 2) dX11_ends_5 rfl rfl (by decide) ?_
    refine ok_icmp_le (q := 16) (q2 := 9) dX11_ends_6 rfl rfl ?_ ?_
    · skip
      refine ok_aload_n (q := 17) 0 dX11_ends_16 rfl rfl rfl ?_
      refine ok_getR (q := 20) (ci := 11) (k := 1) (x := F a0 1) dX11_ends_17 rfl fo_X11_19 h0 rfl ?_
      refine ok_iload_n (q := 21) 1 dX11_ends_20 rfl rfl rfl ?_
      refine fi_chk (fun h_1 => ?_)
      refine ok_putI (q := 24) (ci := 8) (k := 6) dX11_ends_21 rfl fo_X11_161 h_1 ft_8_6 ff_8_6 (fun I_2 => ?_)
      refine ok_aload_n (q := 25) 0 dX11_ends_24 rfl rfl rfl ?_
      refine fi_callV0S (q := 28) (as := []) (st := []) dX11_ends_25 rfl mo_X11_119 h0 rfl (Nat.le_of_ble_eq_true rfl) rfl rfl (Nat.le_of_ble_eq_true rfl) (Nat.le_of_ble_eq_true rfl) (Nat.le_of_ble_eq_true rfl) (Nat.zero_le _) (Nat.zero_le _) (fun _ hr => ct_X11_forgetRuling (N := N) h0 hr) (fun _ I_3 => ?_)
      refine ok_aload_n (q := 29) 0 dX11_ends_28 rfl rfl rfl ?_
      refine ok_iload_n (q := 30) 1 dX11_ends_29 rfl rfl rfl ?_
      refine fi_callV1S (q := 33) (as := [qi x1]) (st := []) dX11_ends_30 rfl mo_X11_98 h0 rfl (Nat.le_of_ble_eq_true rfl) rfl rfl (Nat.le_of_ble_eq_true rfl) (Nat.le_of_ble_eq_true rfl) (Nat.le_of_ble_eq_true rfl) (Nat.zero_le _) (Nat.zero_le _) (fun _ hr => ct_X11_accept (N := N) h0 hr) (fun v_4 I_5 => ?_)
      exact fi_ireturnS dX11_ends_33 rfl
    · skip
      exact fun g => ok_pick [0] rfl (w_X11_ends_b9 (N := N) h0 g)
theorem ct_X11_ends {η : am_E} {l : Launch} {N : Nat} {n : Nat} {K : am_K} {I : am_I} {F : am_F} {a0 : Nat} {r0 : Int × am_I} {x1 : Int} (h0 : (K a0).1 = 11) : X11_ends N K F a0 I x1 = some r0 → am_Ct η l yX11_ends cX11_ends 2 (some .int) 3 60 0 0 [qr a0, qi x1] n K I F (am_pS 1 r0 n K F) := fun g => am_Ct.of false (by decide) (by decide) (Nat.le_of_ble_eq_true rfl) (fun _ => w_X11_ends (N := N) h0 g)
def M_X11_makeMove (mc ms : Nat) : am_M := (yX11_makeMove.cls, cX11_makeMove, 2, none, am_room 4 91 mc ms, false)
def X11_makeMove (N : Nat) (a0 : Nat) (n : Nat) (K : am_K) (I : am_I) (F : am_F) (x1 : Int) : Option am_A :=
  if (K (F a0 5)).1 = 4 then am_ca (X4_keep N (F a0 5) n K I F (F a0 2) x1) (fun _ n_2 K_3 I_4 F_5 c_6 z_7 => am_mo (0 + c_6) (0 + z_7) (if (K_3 a0).1 = 11 then if (K_3 (F_5 a0 3)).1 = 10 then if (K_3 (F_5 (F_5 a0 3) 2)).1 = 103 then if (0 : Int) ≤ x1 ∧ x1 < (K_3 (F_5 (F_5 a0 3) 2)).2 then if (K_3 (F_5 (F_5 a0 3) 1)).1 = 100 then if (0 : Int) ≤ x1 ∧ x1 < (K_3 (F_5 (F_5 a0 3) 1)).2 then if (K_3 (F_5 a0 2)).1 = 6 then am_cl (X6_follow N K_3 F_5 (F_5 a0 2) I_4 (F_5 (F_5 (F_5 a0 3) 2) x1) (I_4 (F_5 (F_5 a0 3) 1) x1)) (fun _ I_17 => some (0, n_2, K_3, I_17, F_5, (0 + c_6), (0 + z_7))) else none else none else none else none else none else none else none)) else none
theorem w_X11_makeMove {η : am_E} {l : Launch} {N : Nat} {n : Nat} {K : am_K} {I : am_I} {F : am_F} {a0 : Nat} {r0 : am_A} {x1 : Int} (h0 : (K a0).1 = 11) : X11_makeMove N a0 n K I F x1 = some r0 → Ok η l (M_X11_makeMove (am_ac1 r0) (am_az1 r0)) (am_qm η (am_pA 0 r0) (am_ac1 r0) (am_az1 r0)) 0 [(0, qr a0), (1, qi x1)] [] n K I F 0 0 := by
  unfold X11_makeMove
  refine ok_aload_n (q := 1) 0 dX11_makeMove_0 rfl rfl rfl ?_
  refine ok_getR (q := 4) (ci := 11) (k := 5) (x := F a0 5) dX11_makeMove_1 rfl fo_X11_51 h0 rfl ?_
  refine ok_aload_n (q := 5) 0 dX11_makeMove_4 rfl rfl rfl ?_
  refine ok_getR (q := 8) (ci := 11) (k := 2) (x := F a0 2) dX11_makeMove_5 rfl fo_X11_26 h0 rfl ?_
  refine ok_iload_n (q := 9) 1 dX11_makeMove_8 rfl rfl rfl ?_
  refine fi_chk (fun h_1 => ?_)
  refine fi_callV0A (q := 12) (as := [qr (F a0 2), qi x1]) (st := []) dX11_makeMove_9 rfl mo_X11_356 h_1 rfl (Nat.le_of_ble_eq_true rfl) rfl rfl (Nat.le_of_ble_eq_true rfl) (Nat.le_of_ble_eq_true rfl) (Nat.le_of_ble_eq_true rfl) (Nat.le_refl _) (Nat.le_refl _) (fun _ hr => ct_X4_keep (N := N) h_1 hr) (fun _ n_2 K_3 I_4 F_5 c_6 z_7 hc_8 hz_9 => ?_)
  refine ok_aload_n (q := 13) 0 dX11_makeMove_12 rfl rfl rfl ?_
  refine fi_chk (fun h_10 => ?_)
  refine ok_getR (q := 16) (ci := 11) (k := 2) (x := F_5 a0 2) dX11_makeMove_13 rfl fo_X11_26 h_10 rfl ?_
  refine ok_aload_n (q := 17) 0 dX11_makeMove_16 rfl rfl rfl ?_
  refine ok_getR (q := 20) (ci := 11) (k := 3) (x := F_5 a0 3) dX11_makeMove_17 rfl fo_X11_35 h_10 rfl ?_
  refine fi_chk (fun h_11 => ?_)
  refine ok_getR (q := 23) (ci := 10) (k := 2) (x := F_5 (F_5 a0 3) 2) dX11_makeMove_20 rfl fo_X11_199 h_11 rfl ?_
  refine ok_iload_n (q := 24) 1 dX11_makeMove_23 rfl rfl rfl ?_
  refine fi_chk (fun h_12 => ?_)
  refine fi_chk (fun h_13 => ?_)
  refine ok_aaload (q := 25) (i := 0) (v := F_5 (F_5 (F_5 a0 3) 2) x1) dX11_makeMove_24 rfl h_12 (by decide) rfl rfl h_13.1 h_13.2 rfl ?_
  refine ok_aload_n (q := 26) 0 dX11_makeMove_25 rfl rfl rfl ?_
  refine ok_getR (q := 29) (ci := 11) (k := 3) (x := F_5 a0 3) dX11_makeMove_26 rfl fo_X11_35 h_10 rfl ?_
  refine ok_getR (q := 32) (ci := 10) (k := 1) (x := F_5 (F_5 a0 3) 1) dX11_makeMove_29 rfl fo_X11_181 h_11 rfl ?_
  refine ok_iload_n (q := 33) 1 dX11_makeMove_32 rfl rfl rfl ?_
  refine fi_chk (fun h_14 => ?_)
  refine fi_chk (fun h_15 => ?_)
  refine ok_iaload (q := 34) (v := I_4 (F_5 (F_5 a0 3) 1) x1) dX11_makeMove_33 rfl h_14 h_15.1 h_15.2 rfl ?_
  refine fi_chk (fun h_16 => ?_)
  refine fi_callV0S (q := 37) (as := [qr (F_5 (F_5 (F_5 a0 3) 2) x1), qi (I_4 (F_5 (F_5 a0 3) 1) x1)]) (st := []) dX11_makeMove_34 rfl mo_X11_203 h_16 rfl (Nat.le_of_ble_eq_true rfl) rfl rfl (Nat.le_of_ble_eq_true rfl) (Nat.le_of_ble_eq_true rfl) (Nat.le_of_ble_eq_true rfl) hc_8 hz_9 (fun _ hr => ct_X6_follow (N := N) h_16 hr) (fun _ I_17 => ?_)
  exact fi_returnA dX11_makeMove_37 rfl
theorem ct_X11_makeMove {η : am_E} {l : Launch} {N : Nat} {n : Nat} {K : am_K} {I : am_I} {F : am_F} {a0 : Nat} {r0 : am_A} {x1 : Int} (h0 : (K a0).1 = 11) : X11_makeMove N a0 n K I F x1 = some r0 → am_Ct η l yX11_makeMove cX11_makeMove 2 none 4 91 (am_ac1 r0) (am_az1 r0) [qr a0, qi x1] n K I F (am_pA 0 r0) := fun g => am_Ct.of false (by decide) (by decide) (Nat.le_of_ble_eq_true rfl) (fun _ => w_X11_makeMove (N := N) h0 g)
def M_X11_move (mc ms : Nat) : am_M := (yX11_move.cls, cX11_move, 5, (some .int), am_room 5 125 mc ms, false)
def X11_move (N : Nat) (a0 : Nat) (n : Nat) (K : am_K) (I : am_I) (F : am_F) (x1 : Int) (x2 : Int) : Option am_A :=
  am_cq (X11_whyNoPit N K F I a0 x1 x2) (fun v_1 => if v_1 = 0 then (if (K (F a0 5)).1 = 4 then if 1000 ≤ (I (F a0 5) 0) then (am_cl (X11_refuse N K F a0 I 10) (fun v_30 I_31 => some (v_30, n, K, I_31, F, 0, 0))) else (if (K (F a0 0)).1 = 1 then am_cq (X1_pitAt N K F I (F a0 0) x1 x2) (fun v_4 => if (K (F a0 2)).1 = 6 then if (K (F a0 3)).1 = 10 then am_cl (X10_survey N K F (F a0 3) I (F (F a0 2) 0) (I (F a0 2) 2)) (fun v_7 I_8 => am_cq (X10_isLong N K F I_8 (F a0 3) v_4) (fun v_9 => if v_9 = 0 then (if (K (F (F a0 3) 0)).1 = 101 then if (0 : Int) ≤ v_4 ∧ v_4 < (K (F (F a0 3) 0)).2 then if (I_8 (F (F a0 3) 0) v_4) = 0 then (am_cl (X11_refuse N K F a0 I_8 5) (fun v_26 I_27 => some (v_26, n, K, I_27, F, 0, 0))) else (am_ca (X11_makeMove N a0 n K I_8 F v_4) (fun _ n_12 K_13 I_14 F_15 c_16 z_17 => am_mo (0 + c_16) (0 + z_17) (if (K_13 a0).1 = 11 then if (K_13 (F_15 a0 3)).1 = 10 then if (K_13 (F_15 (F_15 a0 3) 1)).1 = 100 then if (0 : Int) ≤ v_4 ∧ v_4 < (K_13 (F_15 (F_15 a0 3) 1)).2 then am_cl (X11_accept N K_13 F_15 a0 I_14 (I_14 (F_15 (F_15 a0 3) 1) v_4)) (fun v_24 I_25 => some (v_24, n_12, K_13, I_25, F_15, (0 + c_16), (0 + z_17))) else none else none else none else none))) else none else none) else (am_cl (X11_refuse N K F a0 I_8 6) (fun v_28 I_29 => some (v_28, n, K, I_29, F, 0, 0))))) else none else none) else none) else none) else (am_cl (X11_refuse N K F a0 I v_1) (fun v_32 I_33 => some (v_32, n, K, I_33, F, 0, 0))))
theorem w_X11_move {η : am_E} {l : Launch} {N : Nat} {n : Nat} {K : am_K} {I : am_I} {F : am_F} {a0 : Nat} {r0 : am_A} {x1 : Int} {x2 : Int} (h0 : (K a0).1 = 11) : X11_move N a0 n K I F x1 x2 = some r0 → Ok η l (M_X11_move (am_ac1 r0) (am_az1 r0)) (am_qm η (am_pA 1 r0) (am_ac1 r0) (am_az1 r0)) 0 [(0, qr a0), (1, qi x1), (2, qi x2)] [] n K I F 0 0 := by
  unfold X11_move
  refine ok_aload_n (q := 1) 0 dX11_move_0 rfl rfl rfl ?_
  refine ok_iload_n (q := 2) 1 dX11_move_1 rfl rfl rfl ?_
  refine ok_iload_n (q := 3) 2 dX11_move_2 rfl rfl rfl ?_
  refine fi_callV1P (q := 6) (as := [qi x1, qi x2]) (st := []) dX11_move_3 rfl mo_X11_101 h0 rfl (Nat.le_of_ble_eq_true rfl) rfl rfl (Nat.le_of_ble_eq_true rfl) (Nat.le_of_ble_eq_true rfl) (Nat.le_of_ble_eq_true rfl) (Nat.zero_le _) (Nat.zero_le _) (fun _ hr => ct_X11_whyNoPit (N := N) h0 hr) (fun v_1 => ?_)
  refine ok_istore_n (q := 7) (ls' := [(3, qi v_1), (0, qr a0), (1, qi x1), (2, qi x2)]) dX11_move_6 rfl rfl (Nat.le_of_ble_eq_true rfl) rfl ?_
  refine ok_iload_n (q := 8) 0 dX11_move_7 rfl rfl rfl ?_
  refine ok_if_eq (q := 17) (q2 := 11) dX11_move_8 rfl rfl ?_ ?_
  · skip
    refine ok_aload_n (q := 18) 1 dX11_move_17 rfl rfl rfl ?_
    refine ok_getR (q := 21) (ci := 11) (k := 5) (x := F a0 5) dX11_move_18 rfl fo_X11_51 h0 rfl ?_
    refine fi_chk (fun h_2 => ?_)
    refine ok_getI (q := 24) (ci := 4) (k := 0) (x := I (F a0 5) 0) dX11_move_21 rfl fo_X11_164 h_2 rfl ?_
    refine ok_sipush (q := 27) (x := 1000) dX11_move_24 rfl rfl (by decide) ?_
    refine ok_icmp_lt (q := 37) (q2 := 30) dX11_move_27 rfl rfl ?_ ?_
    · skip
      refine ok_aload_n (q := 38) 1 dX11_move_37 rfl rfl rfl ?_
      refine ok_getR (q := 41) (ci := 11) (k := 0) (x := F a0 0) dX11_move_38 rfl fo_X11_12 h0 rfl ?_
      refine ok_iload_n (q := 42) 2 dX11_move_41 rfl rfl rfl ?_
      refine ok_iload_n (q := 43) 3 dX11_move_42 rfl rfl rfl ?_
      refine fi_chk (fun h_3 => ?_)
      refine fi_callV1P (q := 46) (as := [qi x1, qi x2]) (st := []) dX11_move_43 rfl mo_X11_105 h_3 rfl (Nat.le_of_ble_eq_true rfl) rfl rfl (Nat.le_of_ble_eq_true rfl) (Nat.le_of_ble_eq_true rfl) (Nat.le_of_ble_eq_true rfl) (Nat.zero_le _) (Nat.zero_le _) (fun _ hr => ct_X1_pitAt (N := N) h_3 hr) (fun v_4 => ?_)
      refine ok_istore (q := 48) (ls' := [(4, qi v_4), (3, qi v_1), (0, qr a0), (1, qi x1), (2, qi x2)]) dX11_move_46 rfl (Nat.le_of_ble_eq_true rfl) rfl ?_
      refine ok_aload_n (q := 49) 2 dX11_move_48 rfl rfl rfl ?_
      refine ok_getR (q := 52) (ci := 11) (k := 3) (x := F a0 3) dX11_move_49 rfl fo_X11_35 h0 rfl ?_
      refine ok_aload_n (q := 53) 2 dX11_move_52 rfl rfl rfl ?_
      refine ok_getR (q := 56) (ci := 11) (k := 2) (x := F a0 2) dX11_move_53 rfl fo_X11_26 h0 rfl ?_
      refine fi_chk (fun h_5 => ?_)
      refine ok_getR (q := 59) (ci := 6) (k := 0) (x := F (F a0 2) 0) dX11_move_56 rfl fo_X11_108 h_5 rfl ?_
      refine ok_aload_n (q := 60) 2 dX11_move_59 rfl rfl rfl ?_
      refine ok_getR (q := 63) (ci := 11) (k := 2) (x := F a0 2) dX11_move_60 rfl fo_X11_26 h0 rfl ?_
      refine ok_getI (q := 66) (ci := 6) (k := 2) (x := I (F a0 2) 2) dX11_move_63 rfl fo_X11_136 h_5 rfl ?_
      refine fi_chk (fun h_6 => ?_)
      refine fi_callV1S (q := 69) (as := [qr (F (F a0 2) 0), qi (I (F a0 2) 2)]) (st := []) dX11_move_66 rfl mo_X11_167 h_6 rfl (Nat.le_of_ble_eq_true rfl) rfl rfl (Nat.le_of_ble_eq_true rfl) (Nat.le_of_ble_eq_true rfl) (Nat.le_of_ble_eq_true rfl) (Nat.zero_le _) (Nat.zero_le _) (fun _ hr => ct_X10_survey (N := N) h_6 hr) (fun v_7 I_8 => ?_)
      refine ok_pop (q := 70) dX11_move_69 rfl rfl ?_
      refine ok_aload_n (q := 71) 2 dX11_move_70 rfl rfl rfl ?_
      refine ok_getR (q := 74) (ci := 11) (k := 3) (x := F a0 3) dX11_move_71 rfl fo_X11_35 h0 rfl ?_
      refine ok_iload (q := 76) 0 dX11_move_74 rfl rfl ?_
      refine fi_callV1P (q := 79) (as := [qi v_4]) (st := []) dX11_move_76 rfl mo_X11_171 h_6 rfl (Nat.le_of_ble_eq_true rfl) rfl rfl (Nat.le_of_ble_eq_true rfl) (Nat.le_of_ble_eq_true rfl) (Nat.le_of_ble_eq_true rfl) (Nat.zero_le _) (Nat.zero_le _) (fun _ hr => ct_X10_isLong (N := N) h_6 hr) (fun v_9 => ?_)
      refine ok_if_eq (q := 89) (q2 := 82) dX11_move_79 rfl rfl ?_ ?_
      · skip
        refine ok_aload_n (q := 90) 2 dX11_move_89 rfl rfl rfl ?_
        refine ok_getR (q := 93) (ci := 11) (k := 3) (x := F a0 3) dX11_move_90 rfl fo_X11_35 h0 rfl ?_
        refine ok_getR (q := 96) (ci := 10) (k := 0) (x := F (F a0 3) 0) dX11_move_93 rfl fo_X11_174 h_6 rfl ?_
        refine ok_iload (q := 98) 0 dX11_move_96 rfl rfl ?_
        refine fi_chk (fun h_10 => ?_)
        refine fi_chk (fun h_11 => ?_)
        refine ok_baload (q := 99) (v := I_8 (F (F a0 3) 0) v_4) dX11_move_98 rfl h_10 h_11.1 h_11.2 rfl ?_
        refine ok_if_ne (q := 108) (q2 := 102) dX11_move_99 rfl rfl ?_ ?_
        · skip
          refine ok_aload_n (q := 109) 2 dX11_move_108 rfl rfl rfl ?_
          refine ok_iload (q := 111) 0 dX11_move_109 rfl rfl ?_
          refine fi_callV0A (q := 114) (as := [qi v_4]) (st := []) dX11_move_111 rfl mo_X11_178 h0 rfl (Nat.le_of_ble_eq_true rfl) rfl rfl (Nat.le_of_ble_eq_true rfl) (Nat.le_of_ble_eq_true rfl) (Nat.le_of_ble_eq_true rfl) (Nat.le_refl _) (Nat.le_refl _) (fun _ hr => ct_X11_makeMove (N := N) h0 hr) (fun _ n_12 K_13 I_14 F_15 c_16 z_17 hc_18 hz_19 => ?_)
          refine ok_aload_n (q := 115) 2 dX11_move_114 rfl rfl rfl ?_
          refine ok_aload_n (q := 116) 2 dX11_move_115 rfl rfl rfl ?_
          refine fi_chk (fun h_20 => ?_)
          refine ok_getR (q := 119) (ci := 11) (k := 3) (x := F_15 a0 3) dX11_move_116 rfl fo_X11_35 h_20 rfl ?_
          refine fi_chk (fun h_21 => ?_)
          refine ok_getR (q := 122) (ci := 10) (k := 1) (x := F_15 (F_15 a0 3) 1) dX11_move_119 rfl fo_X11_181 h_21 rfl ?_
          refine ok_iload (q := 124) 0 dX11_move_122 rfl rfl ?_
          refine fi_chk (fun h_22 => ?_)
          refine fi_chk (fun h_23 => ?_)
          refine ok_iaload (q := 125) (v := I_14 (F_15 (F_15 a0 3) 1) v_4) dX11_move_124 rfl h_22 h_23.1 h_23.2 rfl ?_
          refine fi_callV1S (q := 128) (as := [qi (I_14 (F_15 (F_15 a0 3) 1) v_4)]) (st := []) dX11_move_125 rfl mo_X11_98 h_20 rfl (Nat.le_of_ble_eq_true rfl) rfl rfl (Nat.le_of_ble_eq_true rfl) (Nat.le_of_ble_eq_true rfl) (Nat.le_of_ble_eq_true rfl) hc_18 hz_19 (fun _ hr => ct_X11_accept (N := N) h_20 hr) (fun v_24 I_25 => ?_)
          exact fi_ireturnA dX11_move_128 rfl
        · skip
          refine ok_aload_n (q := 103) 2 dX11_move_102 rfl rfl rfl ?_
          refine ok_iconst (q := 104) (x := 5) dX11_move_103 rfl rfl (by decide) ?_
          refine fi_callV1S (q := 107) (as := [qi 5]) (st := []) dX11_move_104 rfl mo_X11_91 h0 rfl (Nat.le_of_ble_eq_true rfl) rfl rfl (Nat.le_of_ble_eq_true rfl) (Nat.le_of_ble_eq_true rfl) (Nat.le_of_ble_eq_true rfl) (Nat.zero_le _) (Nat.zero_le _) (fun _ hr => ct_X11_refuse (N := N) h0 hr) (fun v_26 I_27 => ?_)
          exact fi_ireturnA dX11_move_107 rfl
      · skip
        refine ok_aload_n (q := 83) 2 dX11_move_82 rfl rfl rfl ?_
        refine ok_bipush (q := 85) (x := 6) dX11_move_83 rfl rfl (by decide) ?_
        refine fi_callV1S (q := 88) (as := [qi 6]) (st := []) dX11_move_85 rfl mo_X11_91 h0 rfl (Nat.le_of_ble_eq_true rfl) rfl rfl (Nat.le_of_ble_eq_true rfl) (Nat.le_of_ble_eq_true rfl) (Nat.le_of_ble_eq_true rfl) (Nat.zero_le _) (Nat.zero_le _) (fun _ hr => ct_X11_refuse (N := N) h0 hr) (fun v_28 I_29 => ?_)
        exact fi_ireturnA dX11_move_88 rfl
    · skip
      refine ok_aload_n (q := 31) 1 dX11_move_30 rfl rfl rfl ?_
      refine ok_bipush (q := 33) (x := 10) dX11_move_31 rfl rfl (by decide) ?_
      refine fi_callV1S (q := 36) (as := [qi 10]) (st := []) dX11_move_33 rfl mo_X11_91 h0 rfl (Nat.le_of_ble_eq_true rfl) rfl rfl (Nat.le_of_ble_eq_true rfl) (Nat.le_of_ble_eq_true rfl) (Nat.le_of_ble_eq_true rfl) (Nat.zero_le _) (Nat.zero_le _) (fun _ hr => ct_X11_refuse (N := N) h0 hr) (fun v_30 I_31 => ?_)
      exact fi_ireturnA dX11_move_36 rfl
  · skip
    refine ok_aload_n (q := 12) 1 dX11_move_11 rfl rfl rfl ?_
    refine ok_iload_n (q := 13) 0 dX11_move_12 rfl rfl rfl ?_
    refine fi_callV1S (q := 16) (as := [qi v_1]) (st := []) dX11_move_13 rfl mo_X11_91 h0 rfl (Nat.le_of_ble_eq_true rfl) rfl rfl (Nat.le_of_ble_eq_true rfl) (Nat.le_of_ble_eq_true rfl) (Nat.le_of_ble_eq_true rfl) (Nat.zero_le _) (Nat.zero_le _) (fun _ hr => ct_X11_refuse (N := N) h0 hr) (fun v_32 I_33 => ?_)
    exact fi_ireturnA dX11_move_16 rfl
theorem ct_X11_move {η : am_E} {l : Launch} {N : Nat} {n : Nat} {K : am_K} {I : am_I} {F : am_F} {a0 : Nat} {r0 : am_A} {x1 : Int} {x2 : Int} (h0 : (K a0).1 = 11) : X11_move N a0 n K I F x1 x2 = some r0 → am_Ct η l yX11_move cX11_move 5 (some .int) 5 125 (am_ac1 r0) (am_az1 r0) [qr a0, qi x1, qi x2] n K I F (am_pA 1 r0) := fun g => am_Ct.of false (by decide) (by decide) (Nat.le_of_ble_eq_true rfl) (fun _ => w_X11_move (N := N) h0 g)
def M_X11_undo : am_M := (yX11_undo.cls, cX11_undo, 1, (some .int), am_room 2 48 0 0, false)
def X11_undo (N : Nat) (K : am_K) (F : am_F) (a0 : Nat) (I : am_I) : Option (Int × am_I) :=
  if (K (F a0 5)).1 = 4 then if (I (F a0 5) 0) < 1 then (am_cl (X11_refuse N K F a0 I 8) (fun v_5 I_6 => some (v_5, I_6))) else (am_cl (X4_takeBack N K F (F a0 5) I (F a0 2)) (fun _ I_2 => am_cl (X11_accept N K F a0 I_2 (I_2 (F a0 5) 0)) (fun v_3 I_4 => some (v_3, I_4)))) else none
theorem w_X11_undo {η : am_E} {l : Launch} {N : Nat} {n : Nat} {K : am_K} {I : am_I} {F : am_F} {a0 : Nat} {r0 : Int × am_I} (h0 : (K a0).1 = 11) : X11_undo N K F a0 I = some r0 → Ok η l M_X11_undo (am_qm η (am_pS 1 r0 n K F) 0 0) 0 [(0, qr a0)] [] n K I F 0 0 := by
  unfold X11_undo
  refine ok_aload_n (q := 1) 0 dX11_undo_0 rfl rfl rfl ?_
  refine ok_getR (q := 4) (ci := 11) (k := 5) (x := F a0 5) dX11_undo_1 rfl fo_X11_51 h0 rfl ?_
  refine fi_chk (fun h_1 => ?_)
  refine ok_getI (q := 7) (ci := 4) (k := 0) (x := I (F a0 5) 0) dX11_undo_4 rfl fo_X11_164 h_1 rfl ?_
  refine ok_iconst (q := 8) (x := 1) dX11_undo_7 rfl rfl (by decide) ?_
  refine ok_icmp_ge (q := 18) (q2 := 11) dX11_undo_8 rfl rfl ?_ ?_
  · skip
    refine ok_aload_n (q := 19) 0 dX11_undo_18 rfl rfl rfl ?_
    refine ok_getR (q := 22) (ci := 11) (k := 5) (x := F a0 5) dX11_undo_19 rfl fo_X11_51 h0 rfl ?_
    refine ok_aload_n (q := 23) 0 dX11_undo_22 rfl rfl rfl ?_
    refine ok_getR (q := 26) (ci := 11) (k := 2) (x := F a0 2) dX11_undo_23 rfl fo_X11_26 h0 rfl ?_
    refine fi_callV0S (q := 29) (as := [qr (F a0 2)]) (st := []) dX11_undo_26 rfl mo_X11_184 h_1 rfl (Nat.le_of_ble_eq_true rfl) rfl rfl (Nat.le_of_ble_eq_true rfl) (Nat.le_of_ble_eq_true rfl) (Nat.le_of_ble_eq_true rfl) (Nat.zero_le _) (Nat.zero_le _) (fun _ hr => ct_X4_takeBack (N := N) h_1 hr) (fun _ I_2 => ?_)
    refine ok_aload_n (q := 30) 0 dX11_undo_29 rfl rfl rfl ?_
    refine ok_aload_n (q := 31) 0 dX11_undo_30 rfl rfl rfl ?_
    refine ok_getR (q := 34) (ci := 11) (k := 5) (x := F a0 5) dX11_undo_31 rfl fo_X11_51 h0 rfl ?_
    refine ok_getI (q := 37) (ci := 4) (k := 0) (x := I_2 (F a0 5) 0) dX11_undo_34 rfl fo_X11_164 h_1 rfl ?_
    refine fi_callV1S (q := 40) (as := [qi (I_2 (F a0 5) 0)]) (st := []) dX11_undo_37 rfl mo_X11_98 h0 rfl (Nat.le_of_ble_eq_true rfl) rfl rfl (Nat.le_of_ble_eq_true rfl) (Nat.le_of_ble_eq_true rfl) (Nat.le_of_ble_eq_true rfl) (Nat.zero_le _) (Nat.zero_le _) (fun _ hr => ct_X11_accept (N := N) h0 hr) (fun v_3 I_4 => ?_)
    exact fi_ireturnS dX11_undo_40 rfl
  · skip
    refine ok_aload_n (q := 12) 0 dX11_undo_11 rfl rfl rfl ?_
    refine ok_bipush (q := 14) (x := 8) dX11_undo_12 rfl rfl (by decide) ?_
    refine fi_callV1S (q := 17) (as := [qi 8]) (st := []) dX11_undo_14 rfl mo_X11_91 h0 rfl (Nat.le_of_ble_eq_true rfl) rfl rfl (Nat.le_of_ble_eq_true rfl) (Nat.le_of_ble_eq_true rfl) (Nat.le_of_ble_eq_true rfl) (Nat.zero_le _) (Nat.zero_le _) (fun _ hr => ct_X11_refuse (N := N) h0 hr) (fun v_5 I_6 => ?_)
    exact fi_ireturnS dX11_undo_17 rfl
theorem ct_X11_undo {η : am_E} {l : Launch} {N : Nat} {n : Nat} {K : am_K} {I : am_I} {F : am_F} {a0 : Nat} {r0 : Int × am_I} (h0 : (K a0).1 = 11) : X11_undo N K F a0 I = some r0 → am_Ct η l yX11_undo cX11_undo 1 (some .int) 2 48 0 0 [qr a0] n K I F (am_pS 1 r0 n K F) := fun g => am_Ct.of false (by decide) (by decide) (Nat.le_of_ble_eq_true rfl) (fun _ => w_X11_undo (N := N) h0 g)
def M_X11_redo : am_M := (yX11_redo.cls, cX11_redo, 2, (some .int), am_room 3 78 0 0, false)
def X11_redo (N : Nat) (K : am_K) (F : am_F) (a0 : Nat) (I : am_I) : Option (Int × am_I) :=
  if (K (F a0 5)).1 = 4 then am_cq (X4_pitToRedo N K F I (F a0 5)) (fun v_2 => if v_2 < 0 then (am_cl (X11_refuse N K F a0 I 8) (fun v_15 I_16 => some (v_15, I_16))) else (if (K (F a0 2)).1 = 6 then if (K (F a0 3)).1 = 10 then am_cl (X10_carryOut N K F (F a0 3) I (F (F a0 2) 0) (I (F a0 2) 2) v_2) (fun v_5 I_6 => am_cl (X4_keepAgain N K F (F a0 5) I_6 (F a0 2)) (fun _ I_7 => if (K (F (F a0 3) 2)).1 = 103 then if (0 : Int) ≤ v_2 ∧ v_2 < (K (F (F a0 3) 2)).2 then if (K (F (F a0 3) 1)).1 = 100 then if (0 : Int) ≤ v_2 ∧ v_2 < (K (F (F a0 3) 1)).2 then am_cl (X6_follow N K F (F a0 2) I_7 (F (F (F a0 3) 2) v_2) (I_7 (F (F a0 3) 1) v_2)) (fun _ I_12 => am_cl (X11_accept N K F a0 I_12 (I_12 (F a0 5) 0)) (fun v_13 I_14 => some (v_13, I_14))) else none else none else none else none)) else none else none)) else none
theorem w_X11_redo {η : am_E} {l : Launch} {N : Nat} {n : Nat} {K : am_K} {I : am_I} {F : am_F} {a0 : Nat} {r0 : Int × am_I} (h0 : (K a0).1 = 11) : X11_redo N K F a0 I = some r0 → Ok η l M_X11_redo (am_qm η (am_pS 1 r0 n K F) 0 0) 0 [(0, qr a0)] [] n K I F 0 0 := by
  unfold X11_redo
  refine ok_aload_n (q := 1) 0 dX11_redo_0 rfl rfl rfl ?_
  refine ok_getR (q := 4) (ci := 11) (k := 5) (x := F a0 5) dX11_redo_1 rfl fo_X11_51 h0 rfl ?_
  refine fi_chk (fun h_1 => ?_)
  refine fi_callV1P (q := 7) (as := []) (st := []) dX11_redo_4 rfl mo_X11_188 h_1 rfl (Nat.le_of_ble_eq_true rfl) rfl rfl (Nat.le_of_ble_eq_true rfl) (Nat.le_of_ble_eq_true rfl) (Nat.le_of_ble_eq_true rfl) (Nat.zero_le _) (Nat.zero_le _) (fun _ hr => ct_X4_pitToRedo (N := N) h_1 hr) (fun v_2 => ?_)
  refine ok_istore_n (q := 8) (ls' := [(1, qi v_2), (0, qr a0)]) dX11_redo_7 rfl rfl (Nat.le_of_ble_eq_true rfl) rfl ?_
  refine ok_iload_n (q := 9) 0 dX11_redo_8 rfl rfl rfl ?_
  refine ok_if_ge (q := 19) (q2 := 12) dX11_redo_9 rfl rfl ?_ ?_
  · skip
    refine ok_aload_n (q := 20) 1 dX11_redo_19 rfl rfl rfl ?_
    refine ok_getR (q := 23) (ci := 11) (k := 3) (x := F a0 3) dX11_redo_20 rfl fo_X11_35 h0 rfl ?_
    refine ok_aload_n (q := 24) 1 dX11_redo_23 rfl rfl rfl ?_
    refine ok_getR (q := 27) (ci := 11) (k := 2) (x := F a0 2) dX11_redo_24 rfl fo_X11_26 h0 rfl ?_
    refine fi_chk (fun h_3 => ?_)
    refine ok_getR (q := 30) (ci := 6) (k := 0) (x := F (F a0 2) 0) dX11_redo_27 rfl fo_X11_108 h_3 rfl ?_
    refine ok_aload_n (q := 31) 1 dX11_redo_30 rfl rfl rfl ?_
    refine ok_getR (q := 34) (ci := 11) (k := 2) (x := F a0 2) dX11_redo_31 rfl fo_X11_26 h0 rfl ?_
    refine ok_getI (q := 37) (ci := 6) (k := 2) (x := I (F a0 2) 2) dX11_redo_34 rfl fo_X11_136 h_3 rfl ?_
    refine ok_iload_n (q := 38) 0 dX11_redo_37 rfl rfl rfl ?_
    refine fi_chk (fun h_4 => ?_)
    refine fi_callV1S (q := 41) (as := [qr (F (F a0 2) 0), qi (I (F a0 2) 2), qi v_2]) (st := []) dX11_redo_38 rfl mo_X11_192 h_4 rfl (Nat.le_of_ble_eq_true rfl) rfl rfl (Nat.le_of_ble_eq_true rfl) (Nat.le_of_ble_eq_true rfl) (Nat.le_of_ble_eq_true rfl) (Nat.zero_le _) (Nat.zero_le _) (fun _ hr => ct_X10_carryOut (N := N) h_4 hr) (fun v_5 I_6 => ?_)
    refine ok_pop (q := 42) dX11_redo_41 rfl rfl ?_
    refine ok_aload_n (q := 43) 1 dX11_redo_42 rfl rfl rfl ?_
    refine ok_getR (q := 46) (ci := 11) (k := 5) (x := F a0 5) dX11_redo_43 rfl fo_X11_51 h0 rfl ?_
    refine ok_aload_n (q := 47) 1 dX11_redo_46 rfl rfl rfl ?_
    refine ok_getR (q := 50) (ci := 11) (k := 2) (x := F a0 2) dX11_redo_47 rfl fo_X11_26 h0 rfl ?_
    refine fi_callV0S (q := 53) (as := [qr (F a0 2)]) (st := []) dX11_redo_50 rfl mo_X11_196 h_1 rfl (Nat.le_of_ble_eq_true rfl) rfl rfl (Nat.le_of_ble_eq_true rfl) (Nat.le_of_ble_eq_true rfl) (Nat.le_of_ble_eq_true rfl) (Nat.zero_le _) (Nat.zero_le _) (fun _ hr => ct_X4_keepAgain (N := N) h_1 hr) (fun _ I_7 => ?_)
    refine ok_aload_n (q := 54) 1 dX11_redo_53 rfl rfl rfl ?_
    refine ok_getR (q := 57) (ci := 11) (k := 2) (x := F a0 2) dX11_redo_54 rfl fo_X11_26 h0 rfl ?_
    refine ok_aload_n (q := 58) 1 dX11_redo_57 rfl rfl rfl ?_
    refine ok_getR (q := 61) (ci := 11) (k := 3) (x := F a0 3) dX11_redo_58 rfl fo_X11_35 h0 rfl ?_
    refine ok_getR (q := 64) (ci := 10) (k := 2) (x := F (F a0 3) 2) dX11_redo_61 rfl fo_X11_199 h_4 rfl ?_
    refine ok_iload_n (q := 65) 0 dX11_redo_64 rfl rfl rfl ?_
    refine fi_chk (fun h_8 => ?_)
    refine fi_chk (fun h_9 => ?_)
    refine ok_aaload (q := 66) (i := 0) (v := F (F (F a0 3) 2) v_2) dX11_redo_65 rfl h_8 (by decide) rfl rfl h_9.1 h_9.2 rfl ?_
    refine ok_aload_n (q := 67) 1 dX11_redo_66 rfl rfl rfl ?_
    refine ok_getR (q := 70) (ci := 11) (k := 3) (x := F a0 3) dX11_redo_67 rfl fo_X11_35 h0 rfl ?_
    refine ok_getR (q := 73) (ci := 10) (k := 1) (x := F (F a0 3) 1) dX11_redo_70 rfl fo_X11_181 h_4 rfl ?_
    refine ok_iload_n (q := 74) 0 dX11_redo_73 rfl rfl rfl ?_
    refine fi_chk (fun h_10 => ?_)
    refine fi_chk (fun h_11 => ?_)
    refine ok_iaload (q := 75) (v := I_7 (F (F a0 3) 1) v_2) dX11_redo_74 rfl h_10 h_11.1 h_11.2 rfl ?_
    refine fi_callV0S (q := 78) (as := [qr (F (F (F a0 3) 2) v_2), qi (I_7 (F (F a0 3) 1) v_2)]) (st := []) dX11_redo_75 rfl mo_X11_203 h_3 rfl (Nat.le_of_ble_eq_true rfl) rfl rfl (Nat.le_of_ble_eq_true rfl) (Nat.le_of_ble_eq_true rfl) (Nat.le_of_ble_eq_true rfl) (Nat.zero_le _) (Nat.zero_le _) (fun _ hr => ct_X6_follow (N := N) h_3 hr) (fun _ I_12 => ?_)
    refine ok_aload_n (q := 79) 1 dX11_redo_78 rfl rfl rfl ?_
    refine ok_aload_n (q := 80) 1 dX11_redo_79 rfl rfl rfl ?_
    refine ok_getR (q := 83) (ci := 11) (k := 5) (x := F a0 5) dX11_redo_80 rfl fo_X11_51 h0 rfl ?_
    refine ok_getI (q := 86) (ci := 4) (k := 0) (x := I_12 (F a0 5) 0) dX11_redo_83 rfl fo_X11_164 h_1 rfl ?_
    refine fi_callV1S (q := 89) (as := [qi (I_12 (F a0 5) 0)]) (st := []) dX11_redo_86 rfl mo_X11_98 h0 rfl (Nat.le_of_ble_eq_true rfl) rfl rfl (Nat.le_of_ble_eq_true rfl) (Nat.le_of_ble_eq_true rfl) (Nat.le_of_ble_eq_true rfl) (Nat.zero_le _) (Nat.zero_le _) (fun _ hr => ct_X11_accept (N := N) h0 hr) (fun v_13 I_14 => ?_)
    exact fi_ireturnS dX11_redo_89 rfl
  · skip
    refine ok_aload_n (q := 13) 1 dX11_redo_12 rfl rfl rfl ?_
    refine ok_bipush (q := 15) (x := 8) dX11_redo_13 rfl rfl (by decide) ?_
    refine fi_callV1S (q := 18) (as := [qi 8]) (st := []) dX11_redo_15 rfl mo_X11_91 h0 rfl (Nat.le_of_ble_eq_true rfl) rfl rfl (Nat.le_of_ble_eq_true rfl) (Nat.le_of_ble_eq_true rfl) (Nat.le_of_ble_eq_true rfl) (Nat.zero_le _) (Nat.zero_le _) (fun _ hr => ct_X11_refuse (N := N) h0 hr) (fun v_15 I_16 => ?_)
    exact fi_ireturnS dX11_redo_18 rfl
theorem ct_X11_redo {η : am_E} {l : Launch} {N : Nat} {n : Nat} {K : am_K} {I : am_I} {F : am_F} {a0 : Nat} {r0 : Int × am_I} (h0 : (K a0).1 = 11) : X11_redo N K F a0 I = some r0 → am_Ct η l yX11_redo cX11_redo 2 (some .int) 3 78 0 0 [qr a0] n K I F (am_pS 1 r0 n K F) := fun g => am_Ct.of false (by decide) (by decide) (Nat.le_of_ble_eq_true rfl) (fun _ => w_X11_redo (N := N) h0 g)
def M_X11_pit : am_M := (yX11_pit.cls, cX11_pit, 4, (some .int), am_room 2 44 0 0, false)
def X11_pit (N : Nat) (K : am_K) (F : am_F) (a0 : Nat) (I : am_I) (x1 : Int) (x2 : Int) : Option (Int × am_I) :=
  am_cq (X11_whyNoPit N K F I a0 x1 x2) (fun v_1 => if v_1 = 0 then (if (K (F a0 2)).1 = 6 then if (K (F a0 0)).1 = 1 then am_cq (X1_pitAt N K F I (F a0 0) x1 x2) (fun v_4 => if (K (F (F a0 2) 0)).1 = 100 then if (0 : Int) ≤ v_4 ∧ v_4 < (K (F (F a0 2) 0)).2 then am_cl (X11_accept N K F a0 I (I (F (F a0 2) 0) v_4)) (fun v_7 I_8 => some (v_7, I_8)) else none else none) else none else none) else (am_cl (X11_refuse N K F a0 I v_1) (fun v_9 I_10 => some (v_9, I_10))))
theorem w_X11_pit {η : am_E} {l : Launch} {N : Nat} {n : Nat} {K : am_K} {I : am_I} {F : am_F} {a0 : Nat} {r0 : Int × am_I} {x1 : Int} {x2 : Int} (h0 : (K a0).1 = 11) : X11_pit N K F a0 I x1 x2 = some r0 → Ok η l M_X11_pit (am_qm η (am_pS 1 r0 n K F) 0 0) 0 [(0, qr a0), (1, qi x1), (2, qi x2)] [] n K I F 0 0 := by
  unfold X11_pit
  refine ok_aload_n (q := 1) 0 dX11_pit_0 rfl rfl rfl ?_
  refine ok_iload_n (q := 2) 1 dX11_pit_1 rfl rfl rfl ?_
  refine ok_iload_n (q := 3) 2 dX11_pit_2 rfl rfl rfl ?_
  refine fi_callV1P (q := 6) (as := [qi x1, qi x2]) (st := []) dX11_pit_3 rfl mo_X11_101 h0 rfl (Nat.le_of_ble_eq_true rfl) rfl rfl (Nat.le_of_ble_eq_true rfl) (Nat.le_of_ble_eq_true rfl) (Nat.le_of_ble_eq_true rfl) (Nat.zero_le _) (Nat.zero_le _) (fun _ hr => ct_X11_whyNoPit (N := N) h0 hr) (fun v_1 => ?_)
  refine ok_istore_n (q := 7) (ls' := [(3, qi v_1), (0, qr a0), (1, qi x1), (2, qi x2)]) dX11_pit_6 rfl rfl (Nat.le_of_ble_eq_true rfl) rfl ?_
  refine ok_iload_n (q := 8) 0 dX11_pit_7 rfl rfl rfl ?_
  refine ok_if_eq (q := 17) (q2 := 11) dX11_pit_8 rfl rfl ?_ ?_
  · skip
    refine ok_aload_n (q := 18) 1 dX11_pit_17 rfl rfl rfl ?_
    refine ok_aload_n (q := 19) 1 dX11_pit_18 rfl rfl rfl ?_
    refine ok_getR (q := 22) (ci := 11) (k := 2) (x := F a0 2) dX11_pit_19 rfl fo_X11_26 h0 rfl ?_
    refine fi_chk (fun h_2 => ?_)
    refine ok_getR (q := 25) (ci := 6) (k := 0) (x := F (F a0 2) 0) dX11_pit_22 rfl fo_X11_108 h_2 rfl ?_
    refine ok_aload_n (q := 26) 1 dX11_pit_25 rfl rfl rfl ?_
    refine ok_getR (q := 29) (ci := 11) (k := 0) (x := F a0 0) dX11_pit_26 rfl fo_X11_12 h0 rfl ?_
    refine ok_iload_n (q := 30) 2 dX11_pit_29 rfl rfl rfl ?_
    refine ok_iload_n (q := 31) 3 dX11_pit_30 rfl rfl rfl ?_
    refine fi_chk (fun h_3 => ?_)
    refine fi_callV1P (q := 34) (as := [qi x1, qi x2]) (st := [qr (F (F a0 2) 0), qr a0]) dX11_pit_31 rfl mo_X11_105 h_3 rfl (Nat.le_of_ble_eq_true rfl) rfl rfl (Nat.le_of_ble_eq_true rfl) (Nat.le_of_ble_eq_true rfl) (Nat.le_of_ble_eq_true rfl) (Nat.zero_le _) (Nat.zero_le _) (fun _ hr => ct_X1_pitAt (N := N) h_3 hr) (fun v_4 => ?_)
    refine fi_chk (fun h_5 => ?_)
    refine fi_chk (fun h_6 => ?_)
    refine ok_iaload (q := 35) (v := I (F (F a0 2) 0) v_4) dX11_pit_34 rfl h_5 h_6.1 h_6.2 rfl ?_
    refine fi_callV1S (q := 38) (as := [qi (I (F (F a0 2) 0) v_4)]) (st := []) dX11_pit_35 rfl mo_X11_98 h0 rfl (Nat.le_of_ble_eq_true rfl) rfl rfl (Nat.le_of_ble_eq_true rfl) (Nat.le_of_ble_eq_true rfl) (Nat.le_of_ble_eq_true rfl) (Nat.zero_le _) (Nat.zero_le _) (fun _ hr => ct_X11_accept (N := N) h0 hr) (fun v_7 I_8 => ?_)
    exact fi_ireturnS dX11_pit_38 rfl
  · skip
    refine ok_aload_n (q := 12) 1 dX11_pit_11 rfl rfl rfl ?_
    refine ok_iload_n (q := 13) 0 dX11_pit_12 rfl rfl rfl ?_
    refine fi_callV1S (q := 16) (as := [qi v_1]) (st := []) dX11_pit_13 rfl mo_X11_91 h0 rfl (Nat.le_of_ble_eq_true rfl) rfl rfl (Nat.le_of_ble_eq_true rfl) (Nat.le_of_ble_eq_true rfl) (Nat.le_of_ble_eq_true rfl) (Nat.zero_le _) (Nat.zero_le _) (fun _ hr => ct_X11_refuse (N := N) h0 hr) (fun v_9 I_10 => ?_)
    exact fi_ireturnS dX11_pit_16 rfl
theorem ct_X11_pit {η : am_E} {l : Launch} {N : Nat} {n : Nat} {K : am_K} {I : am_I} {F : am_F} {a0 : Nat} {r0 : Int × am_I} {x1 : Int} {x2 : Int} (h0 : (K a0).1 = 11) : X11_pit N K F a0 I x1 x2 = some r0 → am_Ct η l yX11_pit cX11_pit 4 (some .int) 2 44 0 0 [qr a0, qi x1, qi x2] n K I F (am_pS 1 r0 n K F) := fun g => am_Ct.of false (by decide) (by decide) (Nat.le_of_ble_eq_true rfl) (fun _ => w_X11_pit (N := N) h0 g)
def M_X11_stored : am_M := (yX11_stored.cls, cX11_stored, 2, (some .int), am_room 1 21 0 0, false)
def X11_stored (N : Nat) (K : am_K) (F : am_F) (a0 : Nat) (I : am_I) (x1 : Int) : Option (Int × am_I) :=
  am_cq (X11_isSide N K F I x1) (fun v_1 => if v_1 = 0 then (am_cl (X11_refuse N K F a0 I 3) (fun v_7 I_8 => some (v_7, I_8))) else (if (K (F a0 2)).1 = 6 then if (K (F (F a0 2) 1)).1 = 100 then if (0 : Int) ≤ x1 ∧ x1 < (K (F (F a0 2) 1)).2 then am_cl (X11_accept N K F a0 I (I (F (F a0 2) 1) x1)) (fun v_5 I_6 => some (v_5, I_6)) else none else none else none))
theorem w_X11_stored {η : am_E} {l : Launch} {N : Nat} {n : Nat} {K : am_K} {I : am_I} {F : am_F} {a0 : Nat} {r0 : Int × am_I} {x1 : Int} (h0 : (K a0).1 = 11) : X11_stored N K F a0 I x1 = some r0 → Ok η l M_X11_stored (am_qm η (am_pS 1 r0 n K F) 0 0) 0 [(0, qr a0), (1, qi x1)] [] n K I F 0 0 := by
  unfold X11_stored
  refine ok_iload_n (q := 1) 1 dX11_stored_0 rfl rfl rfl ?_
  refine fi_callS1P (q := 4) (as := [qi x1]) (st := []) dX11_stored_1 rfl mo_X11_129 rfl rfl (Nat.le_of_ble_eq_true rfl) (Nat.le_of_ble_eq_true rfl) (Nat.le_of_ble_eq_true rfl) (Nat.zero_le _) (Nat.zero_le _) (fun _ hr => ct_X11_isSide (N := N) hr) (fun v_1 => ?_)
  refine ok_if_ne (q := 13) (q2 := 7) dX11_stored_4 rfl rfl ?_ ?_
  · skip
    refine ok_aload_n (q := 14) 0 dX11_stored_13 rfl rfl rfl ?_
    refine ok_aload_n (q := 15) 0 dX11_stored_14 rfl rfl rfl ?_
    refine ok_getR (q := 18) (ci := 11) (k := 2) (x := F a0 2) dX11_stored_15 rfl fo_X11_26 h0 rfl ?_
    refine fi_chk (fun h_2 => ?_)
    refine ok_getR (q := 21) (ci := 6) (k := 1) (x := F (F a0 2) 1) dX11_stored_18 rfl fo_X11_133 h_2 rfl ?_
    refine ok_iload_n (q := 22) 1 dX11_stored_21 rfl rfl rfl ?_
    refine fi_chk (fun h_3 => ?_)
    refine fi_chk (fun h_4 => ?_)
    refine ok_iaload (q := 23) (v := I (F (F a0 2) 1) x1) dX11_stored_22 rfl h_3 h_4.1 h_4.2 rfl ?_
    refine fi_callV1S (q := 26) (as := [qi (I (F (F a0 2) 1) x1)]) (st := []) dX11_stored_23 rfl mo_X11_98 h0 rfl (Nat.le_of_ble_eq_true rfl) rfl rfl (Nat.le_of_ble_eq_true rfl) (Nat.le_of_ble_eq_true rfl) (Nat.le_of_ble_eq_true rfl) (Nat.zero_le _) (Nat.zero_le _) (fun _ hr => ct_X11_accept (N := N) h0 hr) (fun v_5 I_6 => ?_)
    exact fi_ireturnS dX11_stored_26 rfl
  · skip
    refine ok_aload_n (q := 8) 0 dX11_stored_7 rfl rfl rfl ?_
    refine ok_iconst (q := 9) (x := 3) dX11_stored_8 rfl rfl (by decide) ?_
    refine fi_callV1S (q := 12) (as := [qi 3]) (st := []) dX11_stored_9 rfl mo_X11_91 h0 rfl (Nat.le_of_ble_eq_true rfl) rfl rfl (Nat.le_of_ble_eq_true rfl) (Nat.le_of_ble_eq_true rfl) (Nat.le_of_ble_eq_true rfl) (Nat.zero_le _) (Nat.zero_le _) (fun _ hr => ct_X11_refuse (N := N) h0 hr) (fun v_7 I_8 => ?_)
    exact fi_ireturnS dX11_stored_12 rfl
theorem ct_X11_stored {η : am_E} {l : Launch} {N : Nat} {n : Nat} {K : am_K} {I : am_I} {F : am_F} {a0 : Nat} {r0 : Int × am_I} {x1 : Int} (h0 : (K a0).1 = 11) : X11_stored N K F a0 I x1 = some r0 → am_Ct η l yX11_stored cX11_stored 2 (some .int) 1 21 0 0 [qr a0, qi x1] n K I F (am_pS 1 r0 n K F) := fun g => am_Ct.of false (by decide) (by decide) (Nat.le_of_ble_eq_true rfl) (fun _ => w_X11_stored (N := N) h0 g)
def M_X11_countOpen : am_M := (yX11_countOpen.cls, cX11_countOpen, 1, (some .int), am_room 5 125 0 0, false)
def X11_countOpen (N : Nat) (K : am_K) (F : am_F) (a0 : Nat) (I : am_I) : Option (Int × am_I) :=
  if (K (F a0 2)).1 = 6 then if (K (F a0 3)).1 = 10 then am_cl (X10_survey N K F (F a0 3) I (F (F a0 2) 0) (I (F a0 2) 2)) (fun v_3 I_4 => some (v_3, I_4)) else none else none
theorem w_X11_countOpen {η : am_E} {l : Launch} {N : Nat} {n : Nat} {K : am_K} {I : am_I} {F : am_F} {a0 : Nat} {r0 : Int × am_I} (h0 : (K a0).1 = 11) : X11_countOpen N K F a0 I = some r0 → Ok η l M_X11_countOpen (am_qm η (am_pS 1 r0 n K F) 0 0) 0 [(0, qr a0)] [] n K I F 0 0 := by
  unfold X11_countOpen
  refine ok_aload_n (q := 1) 0 dX11_countOpen_0 rfl rfl rfl ?_
  refine ok_getR (q := 4) (ci := 11) (k := 3) (x := F a0 3) dX11_countOpen_1 rfl fo_X11_35 h0 rfl ?_
  refine ok_aload_n (q := 5) 0 dX11_countOpen_4 rfl rfl rfl ?_
  refine ok_getR (q := 8) (ci := 11) (k := 2) (x := F a0 2) dX11_countOpen_5 rfl fo_X11_26 h0 rfl ?_
  refine fi_chk (fun h_1 => ?_)
  refine ok_getR (q := 11) (ci := 6) (k := 0) (x := F (F a0 2) 0) dX11_countOpen_8 rfl fo_X11_108 h_1 rfl ?_
  refine ok_aload_n (q := 12) 0 dX11_countOpen_11 rfl rfl rfl ?_
  refine ok_getR (q := 15) (ci := 11) (k := 2) (x := F a0 2) dX11_countOpen_12 rfl fo_X11_26 h0 rfl ?_
  refine ok_getI (q := 18) (ci := 6) (k := 2) (x := I (F a0 2) 2) dX11_countOpen_15 rfl fo_X11_136 h_1 rfl ?_
  refine fi_chk (fun h_2 => ?_)
  refine fi_callV1S (q := 21) (as := [qr (F (F a0 2) 0), qi (I (F a0 2) 2)]) (st := []) dX11_countOpen_18 rfl mo_X11_167 h_2 rfl (Nat.le_of_ble_eq_true rfl) rfl rfl (Nat.le_of_ble_eq_true rfl) (Nat.le_of_ble_eq_true rfl) (Nat.le_of_ble_eq_true rfl) (Nat.zero_le _) (Nat.zero_le _) (fun _ hr => ct_X10_survey (N := N) h_2 hr) (fun v_3 I_4 => ?_)
  exact fi_ireturnS dX11_countOpen_21 rfl
theorem ct_X11_countOpen {η : am_E} {l : Launch} {N : Nat} {n : Nat} {K : am_K} {I : am_I} {F : am_F} {a0 : Nat} {r0 : Int × am_I} (h0 : (K a0).1 = 11) : X11_countOpen N K F a0 I = some r0 → am_Ct η l yX11_countOpen cX11_countOpen 1 (some .int) 5 125 0 0 [qr a0] n K I F (am_pS 1 r0 n K F) := fun g => am_Ct.of false (by decide) (by decide) (Nat.le_of_ble_eq_true rfl) (fun _ => w_X11_countOpen (N := N) h0 g)
def M_X11_scoreOf : am_M := (yX11_scoreOf.cls, cX11_scoreOf, 2, (some .int), am_room 6 145 0 0, false)
def X11_scoreOf (N : Nat) (K : am_K) (F : am_F) (a0 : Nat) (I : am_I) (x1 : Int) : Option (Int × am_I) :=
  am_cl (X11_countOpen N K F a0 I) (fun v_1 I_2 => if 0 < v_1 then (if (K (F a0 2)).1 = 6 then if (K (F (F a0 2) 1)).1 = 100 then if (0 : Int) ≤ x1 ∧ x1 < (K (F (F a0 2) 1)).2 then some (I_2 (F (F a0 2) 1) x1, I_2) else none else none else none) else (if (K (F a0 2)).1 = 6 then if (K (F (F a0 2) 1)).1 = 100 then if (0 : Int) ≤ x1 ∧ x1 < (K (F (F a0 2) 1)).2 then if (K (F a0 1)).1 = 8 then am_cq (X8_countsFor N K F I_2 (F a0 1) x1 (I_2 (F a0 2) 2) (F (F a0 2) 0) (F a0 0)) (fun v_7 => if am_inI ((I_2 (F (F a0 2) 1) x1) + v_7) then some ((I_2 (F (F a0 2) 1) x1) + v_7, I_2) else none) else none else none else none else none))
theorem w_X11_scoreOf {η : am_E} {l : Launch} {N : Nat} {n : Nat} {K : am_K} {I : am_I} {F : am_F} {a0 : Nat} {r0 : Int × am_I} {x1 : Int} (h0 : (K a0).1 = 11) : X11_scoreOf N K F a0 I x1 = some r0 → Ok η l M_X11_scoreOf (am_qm η (am_pS 1 r0 n K F) 0 0) 0 [(0, qr a0), (1, qi x1)] [] n K I F 0 0 := by
  unfold X11_scoreOf
  refine ok_aload_n (q := 1) 0 dX11_scoreOf_0 rfl rfl rfl ?_
  refine fi_callV1S (q := 4) (as := []) (st := []) dX11_scoreOf_1 rfl mo_X11_210 h0 rfl (Nat.le_of_ble_eq_true rfl) rfl rfl (Nat.le_of_ble_eq_true rfl) (Nat.le_of_ble_eq_true rfl) (Nat.le_of_ble_eq_true rfl) (Nat.zero_le _) (Nat.zero_le _) (fun _ hr => ct_X11_countOpen (N := N) h0 hr) (fun v_1 I_2 => ?_)
  refine ok_if_le (q := 17) (q2 := 7) dX11_scoreOf_4 rfl rfl ?_ ?_
  · skip
    refine ok_aload_n (q := 18) 0 dX11_scoreOf_17 rfl rfl rfl ?_
    refine ok_getR (q := 21) (ci := 11) (k := 2) (x := F a0 2) dX11_scoreOf_18 rfl fo_X11_26 h0 rfl ?_
    refine fi_chk (fun h_3 => ?_)
    refine ok_getR (q := 24) (ci := 6) (k := 1) (x := F (F a0 2) 1) dX11_scoreOf_21 rfl fo_X11_133 h_3 rfl ?_
    refine ok_iload_n (q := 25) 1 dX11_scoreOf_24 rfl rfl rfl ?_
    refine fi_chk (fun h_4 => ?_)
    refine fi_chk (fun h_5 => ?_)
    refine ok_iaload (q := 26) (v := I_2 (F (F a0 2) 1) x1) dX11_scoreOf_25 rfl h_4 h_5.1 h_5.2 rfl ?_
    refine ok_aload_n (q := 27) 0 dX11_scoreOf_26 rfl rfl rfl ?_
    refine ok_getR (q := 30) (ci := 11) (k := 1) (x := F a0 1) dX11_scoreOf_27 rfl fo_X11_19 h0 rfl ?_
    refine ok_iload_n (q := 31) 1 dX11_scoreOf_30 rfl rfl rfl ?_
    refine ok_aload_n (q := 32) 0 dX11_scoreOf_31 rfl rfl rfl ?_
    refine ok_getR (q := 35) (ci := 11) (k := 2) (x := F a0 2) dX11_scoreOf_32 rfl fo_X11_26 h0 rfl ?_
    refine ok_getI (q := 38) (ci := 6) (k := 2) (x := I_2 (F a0 2) 2) dX11_scoreOf_35 rfl fo_X11_136 h_3 rfl ?_
    refine ok_aload_n (q := 39) 0 dX11_scoreOf_38 rfl rfl rfl ?_
    refine ok_getR (q := 42) (ci := 11) (k := 2) (x := F a0 2) dX11_scoreOf_39 rfl fo_X11_26 h0 rfl ?_
    refine ok_getR (q := 45) (ci := 6) (k := 0) (x := F (F a0 2) 0) dX11_scoreOf_42 rfl fo_X11_108 h_3 rfl ?_
    refine ok_aload_n (q := 46) 0 dX11_scoreOf_45 rfl rfl rfl ?_
    refine ok_getR (q := 49) (ci := 11) (k := 0) (x := F a0 0) dX11_scoreOf_46 rfl fo_X11_12 h0 rfl ?_
    refine fi_chk (fun h_6 => ?_)
    refine fi_callV1P (q := 52) (as := [qi x1, qi (I_2 (F a0 2) 2), qr (F (F a0 2) 0), qr (F a0 0)]) (st := [qi (I_2 (F (F a0 2) 1) x1)]) dX11_scoreOf_49 rfl mo_X11_352 h_6 rfl (Nat.le_of_ble_eq_true rfl) rfl rfl (Nat.le_of_ble_eq_true rfl) (Nat.le_of_ble_eq_true rfl) (Nat.le_of_ble_eq_true rfl) (Nat.zero_le _) (Nat.zero_le _) (fun _ hr => ct_X8_countsFor (N := N) h_6 hr) (fun v_7 => ?_)
    refine fi_chk (fun h_8 => ?_)
    refine ok_iadd (q := 53) dX11_scoreOf_52 rfl h_8 ?_
    exact fi_ireturnS dX11_scoreOf_53 rfl
  · skip
    refine ok_aload_n (q := 8) 0 dX11_scoreOf_7 rfl rfl rfl ?_
    refine ok_getR (q := 11) (ci := 11) (k := 2) (x := F a0 2) dX11_scoreOf_8 rfl fo_X11_26 h0 rfl ?_
    refine fi_chk (fun h_9 => ?_)
    refine ok_getR (q := 14) (ci := 6) (k := 1) (x := F (F a0 2) 1) dX11_scoreOf_11 rfl fo_X11_133 h_9 rfl ?_
    refine ok_iload_n (q := 15) 1 dX11_scoreOf_14 rfl rfl rfl ?_
    refine fi_chk (fun h_10 => ?_)
    refine fi_chk (fun h_11 => ?_)
    refine ok_iaload (q := 16) (v := I_2 (F (F a0 2) 1) x1) dX11_scoreOf_15 rfl h_10 h_11.1 h_11.2 rfl ?_
    exact fi_ireturnS dX11_scoreOf_16 rfl
theorem ct_X11_scoreOf {η : am_E} {l : Launch} {N : Nat} {n : Nat} {K : am_K} {I : am_I} {F : am_F} {a0 : Nat} {r0 : Int × am_I} {x1 : Int} (h0 : (K a0).1 = 11) : X11_scoreOf N K F a0 I x1 = some r0 → am_Ct η l yX11_scoreOf cX11_scoreOf 2 (some .int) 6 145 0 0 [qr a0, qi x1] n K I F (am_pS 1 r0 n K F) := fun g => am_Ct.of false (by decide) (by decide) (Nat.le_of_ble_eq_true rfl) (fun _ => w_X11_scoreOf (N := N) h0 g)
def M_X11_score : am_M := (yX11_score.cls, cX11_score, 2, (some .int), am_room 7 166 0 0, false)
def X11_score (N : Nat) (K : am_K) (F : am_F) (a0 : Nat) (I : am_I) (x1 : Int) : Option (Int × am_I) :=
  am_cq (X11_isSide N K F I x1) (fun v_1 => if v_1 = 0 then (am_cl (X11_refuse N K F a0 I 3) (fun v_6 I_7 => some (v_6, I_7))) else (am_cl (X11_scoreOf N K F a0 I x1) (fun v_2 I_3 => am_cl (X11_accept N K F a0 I_3 v_2) (fun v_4 I_5 => some (v_4, I_5)))))
theorem w_X11_score {η : am_E} {l : Launch} {N : Nat} {n : Nat} {K : am_K} {I : am_I} {F : am_F} {a0 : Nat} {r0 : Int × am_I} {x1 : Int} (h0 : (K a0).1 = 11) : X11_score N K F a0 I x1 = some r0 → Ok η l M_X11_score (am_qm η (am_pS 1 r0 n K F) 0 0) 0 [(0, qr a0), (1, qi x1)] [] n K I F 0 0 := by
  unfold X11_score
  refine ok_iload_n (q := 1) 1 dX11_score_0 rfl rfl rfl ?_
  refine fi_callS1P (q := 4) (as := [qi x1]) (st := []) dX11_score_1 rfl mo_X11_129 rfl rfl (Nat.le_of_ble_eq_true rfl) (Nat.le_of_ble_eq_true rfl) (Nat.le_of_ble_eq_true rfl) (Nat.zero_le _) (Nat.zero_le _) (fun _ hr => ct_X11_isSide (N := N) hr) (fun v_1 => ?_)
  refine ok_if_ne (q := 13) (q2 := 7) dX11_score_4 rfl rfl ?_ ?_
  · skip
    refine ok_aload_n (q := 14) 0 dX11_score_13 rfl rfl rfl ?_
    refine ok_aload_n (q := 15) 0 dX11_score_14 rfl rfl rfl ?_
    refine ok_iload_n (q := 16) 1 dX11_score_15 rfl rfl rfl ?_
    refine fi_callV1S (q := 19) (as := [qi x1]) (st := [qr a0]) dX11_score_16 rfl mo_X11_207 h0 rfl (Nat.le_of_ble_eq_true rfl) rfl rfl (Nat.le_of_ble_eq_true rfl) (Nat.le_of_ble_eq_true rfl) (Nat.le_of_ble_eq_true rfl) (Nat.zero_le _) (Nat.zero_le _) (fun _ hr => ct_X11_scoreOf (N := N) h0 hr) (fun v_2 I_3 => ?_)
    refine fi_callV1S (q := 22) (as := [qi v_2]) (st := []) dX11_score_19 rfl mo_X11_98 h0 rfl (Nat.le_of_ble_eq_true rfl) rfl rfl (Nat.le_of_ble_eq_true rfl) (Nat.le_of_ble_eq_true rfl) (Nat.le_of_ble_eq_true rfl) (Nat.zero_le _) (Nat.zero_le _) (fun _ hr => ct_X11_accept (N := N) h0 hr) (fun v_4 I_5 => ?_)
    exact fi_ireturnS dX11_score_22 rfl
  · skip
    refine ok_aload_n (q := 8) 0 dX11_score_7 rfl rfl rfl ?_
    refine ok_iconst (q := 9) (x := 3) dX11_score_8 rfl rfl (by decide) ?_
    refine fi_callV1S (q := 12) (as := [qi 3]) (st := []) dX11_score_9 rfl mo_X11_91 h0 rfl (Nat.le_of_ble_eq_true rfl) rfl rfl (Nat.le_of_ble_eq_true rfl) (Nat.le_of_ble_eq_true rfl) (Nat.le_of_ble_eq_true rfl) (Nat.zero_le _) (Nat.zero_le _) (fun _ hr => ct_X11_refuse (N := N) h0 hr) (fun v_6 I_7 => ?_)
    exact fi_ireturnS dX11_score_12 rfl
theorem ct_X11_score {η : am_E} {l : Launch} {N : Nat} {n : Nat} {K : am_K} {I : am_I} {F : am_F} {a0 : Nat} {r0 : Int × am_I} {x1 : Int} (h0 : (K a0).1 = 11) : X11_score N K F a0 I x1 = some r0 → am_Ct η l yX11_score cX11_score 2 (some .int) 7 166 0 0 [qr a0, qi x1] n K I F (am_pS 1 r0 n K F) := fun g => am_Ct.of false (by decide) (by decide) (Nat.le_of_ble_eq_true rfl) (fun _ => w_X11_score (N := N) h0 g)
def M_X11_turn : am_M := (yX11_turn.cls, cX11_turn, 1, (some .int), am_room 0 0 0 0, false)
def X11_turn (N : Nat) (K : am_K) (F : am_F) (I : am_I) (a0 : Nat) : Option Int :=
  if (K (F a0 2)).1 = 6 then some (I (F a0 2) 2) else none
theorem w_X11_turn {η : am_E} {l : Launch} {N : Nat} {n : Nat} {K : am_K} {I : am_I} {F : am_F} {a0 : Nat} {r0 : Int} (h0 : (K a0).1 = 11) : X11_turn N K F I a0 = some r0 → Ok η l M_X11_turn (am_qm η (am_pS 1 (r0, I) n K F) 0 0) 0 [(0, qr a0)] [] n K I F 0 0 := by
  unfold X11_turn
  refine ok_aload_n (q := 1) 0 dX11_turn_0 rfl rfl rfl ?_
  refine ok_getR (q := 4) (ci := 11) (k := 2) (x := F a0 2) dX11_turn_1 rfl fo_X11_26 h0 rfl ?_
  refine fi_chk (fun h_1 => ?_)
  refine ok_getI (q := 7) (ci := 6) (k := 2) (x := I (F a0 2) 2) dX11_turn_4 rfl fo_X11_136 h_1 rfl ?_
  exact fi_ireturnP dX11_turn_7 rfl
theorem ct_X11_turn {η : am_E} {l : Launch} {N : Nat} {n : Nat} {K : am_K} {I : am_I} {F : am_F} {a0 : Nat} {r0 : Int} (h0 : (K a0).1 = 11) : X11_turn N K F I a0 = some r0 → am_Ct η l yX11_turn cX11_turn 1 (some .int) 0 0 0 0 [qr a0] n K I F (am_pS 1 (r0, I) n K F) := fun g => am_Ct.of false (by decide) (by decide) (Nat.le_of_ble_eq_true rfl) (fun _ => w_X11_turn (N := N) h0 g)
def M_X11_over : am_M := (yX11_over.cls, cX11_over, 1, (some .int), am_room 6 145 0 0, false)
def X11_over_b12 (N : Nat) (K : am_K) (F : am_F) (a0 : Nat) (I : am_I) (s0 : Int) : Option (Int × am_I) :=
  some (s0, I)
theorem w_X11_over_b12 {η : am_E} {l : Launch} {N : Nat} {n : Nat} {K : am_K} {I : am_I} {F : am_F} {a0 : Nat} {r0 : Int × am_I} {s0 : Int} (h0 : (K a0).1 = 11) : X11_over_b12 N K F a0 I s0 = some r0 → Ok η l M_X11_over (am_qm η (am_pS 1 r0 n K F) 0 0) 12 [(0, qr a0)] [qi s0] n K I F 0 0 := by
  unfold X11_over_b12
  exact fi_ireturnS dX11_over_12 rfl
def X11_over (N : Nat) (K : am_K) (F : am_F) (a0 : Nat) (I : am_I) : Option (Int × am_I) :=
  am_cl (X11_countOpen N K F a0 I) (fun v_1 I_2 => if v_1 = 0 then (X11_over_b12 N K F a0 I_2 1) else (X11_over_b12 N K F a0 I_2 0))
theorem w_X11_over {η : am_E} {l : Launch} {N : Nat} {n : Nat} {K : am_K} {I : am_I} {F : am_F} {a0 : Nat} {r0 : Int × am_I} (h0 : (K a0).1 = 11) : X11_over N K F a0 I = some r0 → Ok η l M_X11_over (am_qm η (am_pS 1 r0 n K F) 0 0) 0 [(0, qr a0)] [] n K I F 0 0 := by
  unfold X11_over
  refine ok_aload_n (q := 1) 0 dX11_over_0 rfl rfl rfl ?_
  refine fi_callV1S (q := 4) (as := []) (st := []) dX11_over_1 rfl mo_X11_210 h0 rfl (Nat.le_of_ble_eq_true rfl) rfl rfl (Nat.le_of_ble_eq_true rfl) (Nat.le_of_ble_eq_true rfl) (Nat.le_of_ble_eq_true rfl) (Nat.zero_le _) (Nat.zero_le _) (fun _ hr => ct_X11_countOpen (N := N) h0 hr) (fun v_1 I_2 => ?_)
  refine ok_if_ne (q := 11) (q2 := 7) dX11_over_4 rfl rfl ?_ ?_
  · skip
    refine ok_iconst (q := 12) (x := 0) dX11_over_11 rfl rfl (by decide) ?_
    exact fun g => ok_pick [0] rfl (w_X11_over_b12 (N := N) h0 g)
  · skip
    refine ok_iconst (q := 8) (x := 1) dX11_over_7 rfl rfl (by decide) ?_
    refine ok_goto (q := 12) dX11_over_8 rfl ?_
    exact fun g => ok_pick [0] rfl (w_X11_over_b12 (N := N) h0 g)
theorem ct_X11_over {η : am_E} {l : Launch} {N : Nat} {n : Nat} {K : am_K} {I : am_I} {F : am_F} {a0 : Nat} {r0 : Int × am_I} (h0 : (K a0).1 = 11) : X11_over N K F a0 I = some r0 → am_Ct η l yX11_over cX11_over 1 (some .int) 6 145 0 0 [qr a0] n K I F (am_pS 1 r0 n K F) := fun g => am_Ct.of false (by decide) (by decide) (Nat.le_of_ble_eq_true rfl) (fun _ => w_X11_over (N := N) h0 g)
def M_X11_moves : am_M := (yX11_moves.cls, cX11_moves, 1, (some .int), am_room 0 0 0 0, false)
def X11_moves (N : Nat) (K : am_K) (F : am_F) (I : am_I) (a0 : Nat) : Option Int :=
  if (K (F a0 5)).1 = 4 then some (I (F a0 5) 0) else none
theorem w_X11_moves {η : am_E} {l : Launch} {N : Nat} {n : Nat} {K : am_K} {I : am_I} {F : am_F} {a0 : Nat} {r0 : Int} (h0 : (K a0).1 = 11) : X11_moves N K F I a0 = some r0 → Ok η l M_X11_moves (am_qm η (am_pS 1 (r0, I) n K F) 0 0) 0 [(0, qr a0)] [] n K I F 0 0 := by
  unfold X11_moves
  refine ok_aload_n (q := 1) 0 dX11_moves_0 rfl rfl rfl ?_
  refine ok_getR (q := 4) (ci := 11) (k := 5) (x := F a0 5) dX11_moves_1 rfl fo_X11_51 h0 rfl ?_
  refine fi_chk (fun h_1 => ?_)
  refine ok_getI (q := 7) (ci := 4) (k := 0) (x := I (F a0 5) 0) dX11_moves_4 rfl fo_X11_164 h_1 rfl ?_
  exact fi_ireturnP dX11_moves_7 rfl
theorem ct_X11_moves {η : am_E} {l : Launch} {N : Nat} {n : Nat} {K : am_K} {I : am_I} {F : am_F} {a0 : Nat} {r0 : Int} (h0 : (K a0).1 = 11) : X11_moves N K F I a0 = some r0 → am_Ct η l yX11_moves cX11_moves 1 (some .int) 0 0 0 0 [qr a0] n K I F (am_pS 1 (r0, I) n K F) := fun g => am_Ct.of false (by decide) (by decide) (Nat.le_of_ble_eq_true rfl) (fun _ => w_X11_moves (N := N) h0 g)
def M_X11_allowed : am_M := (yX11_allowed.cls, cX11_allowed, 1, (some .int), am_room 6 145 0 0, false)
def X11_allowed (N : Nat) (K : am_K) (F : am_F) (a0 : Nat) (I : am_I) : Option (Int × am_I) :=
  am_cl (X11_countOpen N K F a0 I) (fun v_1 I_2 => some (v_1, I_2))
theorem w_X11_allowed {η : am_E} {l : Launch} {N : Nat} {n : Nat} {K : am_K} {I : am_I} {F : am_F} {a0 : Nat} {r0 : Int × am_I} (h0 : (K a0).1 = 11) : X11_allowed N K F a0 I = some r0 → Ok η l M_X11_allowed (am_qm η (am_pS 1 r0 n K F) 0 0) 0 [(0, qr a0)] [] n K I F 0 0 := by
  unfold X11_allowed
  refine ok_aload_n (q := 1) 0 dX11_allowed_0 rfl rfl rfl ?_
  refine fi_callV1S (q := 4) (as := []) (st := []) dX11_allowed_1 rfl mo_X11_210 h0 rfl (Nat.le_of_ble_eq_true rfl) rfl rfl (Nat.le_of_ble_eq_true rfl) (Nat.le_of_ble_eq_true rfl) (Nat.le_of_ble_eq_true rfl) (Nat.zero_le _) (Nat.zero_le _) (fun _ hr => ct_X11_countOpen (N := N) h0 hr) (fun v_1 I_2 => ?_)
  exact fi_ireturnS dX11_allowed_4 rfl
theorem ct_X11_allowed {η : am_E} {l : Launch} {N : Nat} {n : Nat} {K : am_K} {I : am_I} {F : am_F} {a0 : Nat} {r0 : Int × am_I} (h0 : (K a0).1 = 11) : X11_allowed N K F a0 I = some r0 → am_Ct η l yX11_allowed cX11_allowed 1 (some .int) 6 145 0 0 [qr a0] n K I F (am_pS 1 r0 n K F) := fun g => am_Ct.of false (by decide) (by decide) (Nat.le_of_ble_eq_true rfl) (fun _ => w_X11_allowed (N := N) h0 g)
def M_X11_acceptLong : am_M := (yX11_acceptLong.cls, cX11_acceptLong, 3, (some .long), am_room 0 0 0 0, false)
def X11_acceptLong (N : Nat) (K : am_K) (F : am_F) (a0 : Nat) (I : am_I) (x1 : Int) : Option (Int × am_I) :=
  am_lt (am_u2 I a0 9 0) (fun I_1 => some (x1, I_1))
theorem w_X11_acceptLong {η : am_E} {l : Launch} {N : Nat} {n : Nat} {K : am_K} {I : am_I} {F : am_F} {a0 : Nat} {r0 : Int × am_I} {x1 : Int} (h0 : (K a0).1 = 11) : X11_acceptLong N K F a0 I x1 = some r0 → Ok η l M_X11_acceptLong (am_qm η (am_pS 2 r0 n K F) 0 0) 0 [(0, qr a0), (1, ql x1)] [] n K I F 0 0 := by
  unfold X11_acceptLong
  refine ok_aload_n (q := 1) 0 dX11_acceptLong_0 rfl rfl rfl ?_
  refine ok_iconst (q := 2) (x := 0) dX11_acceptLong_1 rfl rfl (by decide) ?_
  refine ok_putI (q := 5) (ci := 11) (k := 9) dX11_acceptLong_2 rfl fo_X11_83 h0 ft_11_9 ff_11_9 (fun I_1 => ?_)
  refine ok_lload_n (q := 6) 1 dX11_acceptLong_5 rfl rfl rfl ?_
  exact fi_lreturnS dX11_acceptLong_6 rfl
theorem ct_X11_acceptLong {η : am_E} {l : Launch} {N : Nat} {n : Nat} {K : am_K} {I : am_I} {F : am_F} {a0 : Nat} {r0 : Int × am_I} {x1 : Int} (h0 : (K a0).1 = 11) : X11_acceptLong N K F a0 I x1 = some r0 → am_Ct η l yX11_acceptLong cX11_acceptLong 3 (some .long) 0 0 0 0 [qr a0, ql x1] n K I F (am_pS 2 r0 n K F) := fun g => am_Ct.of false (by decide) (by decide) (Nat.le_of_ble_eq_true rfl) (fun _ => w_X11_acceptLong (N := N) h0 g)
def M_X11_positions : am_M := (yX11_positions.cls, cX11_positions, 2, (some .long), am_room 2 43 0 0, false)
def X11_positions_b10 (N : Nat) (K : am_K) (F : am_F) (a0 : Nat) (I : am_I) : Option (Int × am_I) :=
  am_cl (X11_refuse N K F a0 I 7) (fun v_1 I_2 => some (v_1, I_2))
theorem w_X11_positions_b10 {η : am_E} {l : Launch} {N : Nat} {n : Nat} {K : am_K} {I : am_I} {F : am_F} {a0 : Nat} {r0 : Int × am_I} (h0 : (K a0).1 = 11) : X11_positions_b10 N K F a0 I = some r0 → Ok η l M_X11_positions (am_qm η (am_pS 2 r0 n K F) 0 0) 10 [(0, qr a0)] [] n K I F 0 0 := by
  unfold X11_positions_b10
  refine ok_aload_n (q := 11) 0 dX11_positions_10 rfl rfl rfl ?_
  refine ok_bipush (q := 13) (x := 7) dX11_positions_11 rfl rfl (by decide) ?_
  refine fi_callV1S (q := 16) (as := [qi 7]) (st := []) dX11_positions_13 rfl mo_X11_91 h0 rfl (Nat.le_of_ble_eq_true rfl) rfl rfl (Nat.le_of_ble_eq_true rfl) (Nat.le_of_ble_eq_true rfl) (Nat.le_of_ble_eq_true rfl) (Nat.zero_le _) (Nat.zero_le _) (fun _ hr => ct_X11_refuse (N := N) h0 hr) (fun v_1 I_2 => ?_)
  refine ok_i2l (q := 17) dX11_positions_16 rfl ?_
  exact fi_lreturnS dX11_positions_17 rfl
def X11_positions (N : Nat) (K : am_K) (F : am_F) (a0 : Nat) (I : am_I) (x1 : Int) : Option (Int × am_I) :=
  if 0 ≤ x1 then (if 12 < x1 then (X11_positions_b10 N K F a0 I) else (if (K (F a0 4)).1 = 3 then am_cq (X3_boardsUpTo N K F I (F a0 4) x1) (fun v_2 => am_cl (X11_acceptLong N K F a0 I (am_wL (2 * v_2))) (fun v_3 I_4 => some (v_3, I_4))) else none)) else (X11_positions_b10 N K F a0 I)
theorem w_X11_positions {η : am_E} {l : Launch} {N : Nat} {n : Nat} {K : am_K} {I : am_I} {F : am_F} {a0 : Nat} {r0 : Int × am_I} {x1 : Int} (h0 : (K a0).1 = 11) : X11_positions N K F a0 I x1 = some r0 → Ok η l M_X11_positions (am_qm η (am_pS 2 r0 n K F) 0 0) 0 [(0, qr a0), (1, qi x1)] [] n K I F 0 0 := by
  unfold X11_positions
  refine ok_iload_n (q := 1) 1 dX11_positions_0 rfl rfl rfl ?_
  refine ok_if_lt (q := 10) (q2 := 4) dX11_positions_1 rfl rfl ?_ ?_
  · skip
    exact fun g => ok_pick [0] rfl (w_X11_positions_b10 (N := N) h0 g)
  · skip
    refine ok_iload_n (q := 5) 1 dX11_positions_4 rfl rfl rfl ?_
    refine ok_bipush (q := 7) (x := 12) dX11_positions_5 rfl rfl (by decide) ?_
    refine ok_icmp_le (q := 18) (q2 := 10) dX11_positions_7 rfl rfl ?_ ?_
    · skip
      refine ok_aload_n (q := 19) 0 dX11_positions_18 rfl rfl rfl ?_
      refine ok_ldc2 (q := 22) (x := 2) (v := 2) dX11_positions_19 rfl kc_X11_213 rfl (by decide) ?_
      refine ok_aload_n (q := 23) 0 dX11_positions_22 rfl rfl rfl ?_
      refine ok_getR (q := 26) (ci := 11) (k := 4) (x := F a0 4) dX11_positions_23 rfl fo_X11_44 h0 rfl ?_
      refine ok_iload_n (q := 27) 1 dX11_positions_26 rfl rfl rfl ?_
      refine fi_chk (fun h_1 => ?_)
      refine fi_callV2P (q := 30) (as := [qi x1]) (st := [ql 2, qr a0]) dX11_positions_27 rfl mo_X11_215 h_1 rfl (Nat.le_of_ble_eq_true rfl) rfl rfl (Nat.le_of_ble_eq_true rfl) (Nat.le_of_ble_eq_true rfl) (Nat.le_of_ble_eq_true rfl) (Nat.zero_le _) (Nat.zero_le _) (fun _ hr => ct_X3_boardsUpTo (N := N) h_1 hr) (fun v_2 => ?_)
      refine ok_lmulW (q := 31) dX11_positions_30 rfl ?_
      refine fi_callV2S (q := 34) (as := [ql (am_wL (2 * v_2))]) (st := []) dX11_positions_31 rfl mo_X11_219 h0 rfl (Nat.le_of_ble_eq_true rfl) rfl rfl (Nat.le_of_ble_eq_true rfl) (Nat.le_of_ble_eq_true rfl) (Nat.le_of_ble_eq_true rfl) (Nat.zero_le _) (Nat.zero_le _) (fun _ hr => ct_X11_acceptLong (N := N) h0 hr) (fun v_3 I_4 => ?_)
      exact fi_lreturnS dX11_positions_34 rfl
    · skip
      exact fun g => ok_pick [0] rfl (w_X11_positions_b10 (N := N) h0 g)
theorem ct_X11_positions {η : am_E} {l : Launch} {N : Nat} {n : Nat} {K : am_K} {I : am_I} {F : am_F} {a0 : Nat} {r0 : Int × am_I} {x1 : Int} (h0 : (K a0).1 = 11) : X11_positions N K F a0 I x1 = some r0 → am_Ct η l yX11_positions cX11_positions 2 (some .long) 2 43 0 0 [qr a0, qi x1] n K I F (am_pS 2 r0 n K F) := fun g => am_Ct.of false (by decide) (by decide) (Nat.le_of_ble_eq_true rfl) (fun _ => w_X11_positions (N := N) h0 g)
def M_X11_place : am_M := (yX11_place.cls, cX11_place, 1, (some .long), am_room 3 72 0 0, false)
def X11_place (N : Nat) (K : am_K) (F : am_F) (a0 : Nat) (I : am_I) : Option (Int × am_I) :=
  if (K (F a0 2)).1 = 6 then if (K (F a0 0)).1 = 1 then am_cq (X1_seedsIn N K F I (F a0 0) (F (F a0 2) 0)) (fun v_3 => if 12 < v_3 then (am_cl (X11_refuse N K F a0 I 10) (fun v_8 I_9 => some (v_8, I_9))) else (if (K (F a0 4)).1 = 3 then am_cq (X3_numberOf N K F I (F a0 4) (F (F a0 2) 0)) (fun v_5 => am_cl (X11_acceptLong N K F a0 I (am_wL ((am_wL (2 * v_5)) + (I (F a0 2) 2)))) (fun v_6 I_7 => some (v_6, I_7))) else none)) else none else none
theorem w_X11_place {η : am_E} {l : Launch} {N : Nat} {n : Nat} {K : am_K} {I : am_I} {F : am_F} {a0 : Nat} {r0 : Int × am_I} (h0 : (K a0).1 = 11) : X11_place N K F a0 I = some r0 → Ok η l M_X11_place (am_qm η (am_pS 2 r0 n K F) 0 0) 0 [(0, qr a0)] [] n K I F 0 0 := by
  unfold X11_place
  refine ok_aload_n (q := 1) 0 dX11_place_0 rfl rfl rfl ?_
  refine ok_getR (q := 4) (ci := 11) (k := 0) (x := F a0 0) dX11_place_1 rfl fo_X11_12 h0 rfl ?_
  refine ok_aload_n (q := 5) 0 dX11_place_4 rfl rfl rfl ?_
  refine ok_getR (q := 8) (ci := 11) (k := 2) (x := F a0 2) dX11_place_5 rfl fo_X11_26 h0 rfl ?_
  refine fi_chk (fun h_1 => ?_)
  refine ok_getR (q := 11) (ci := 6) (k := 0) (x := F (F a0 2) 0) dX11_place_8 rfl fo_X11_108 h_1 rfl ?_
  refine fi_chk (fun h_2 => ?_)
  refine fi_callV1P (q := 14) (as := [qr (F (F a0 2) 0)]) (st := []) dX11_place_11 rfl mo_X11_125 h_2 rfl (Nat.le_of_ble_eq_true rfl) rfl rfl (Nat.le_of_ble_eq_true rfl) (Nat.le_of_ble_eq_true rfl) (Nat.le_of_ble_eq_true rfl) (Nat.zero_le _) (Nat.zero_le _) (fun _ hr => ct_X1_seedsIn (N := N) h_2 hr) (fun v_3 => ?_)
  refine ok_bipush (q := 16) (x := 12) dX11_place_14 rfl rfl (by decide) ?_
  refine ok_icmp_le (q := 27) (q2 := 19) dX11_place_16 rfl rfl ?_ ?_
  · skip
    refine ok_aload_n (q := 28) 0 dX11_place_27 rfl rfl rfl ?_
    refine ok_ldc2 (q := 31) (x := 2) (v := 2) dX11_place_28 rfl kc_X11_213 rfl (by decide) ?_
    refine ok_aload_n (q := 32) 0 dX11_place_31 rfl rfl rfl ?_
    refine ok_getR (q := 35) (ci := 11) (k := 4) (x := F a0 4) dX11_place_32 rfl fo_X11_44 h0 rfl ?_
    refine ok_aload_n (q := 36) 0 dX11_place_35 rfl rfl rfl ?_
    refine ok_getR (q := 39) (ci := 11) (k := 2) (x := F a0 2) dX11_place_36 rfl fo_X11_26 h0 rfl ?_
    refine ok_getR (q := 42) (ci := 6) (k := 0) (x := F (F a0 2) 0) dX11_place_39 rfl fo_X11_108 h_1 rfl ?_
    refine fi_chk (fun h_4 => ?_)
    refine fi_callV2P (q := 45) (as := [qr (F (F a0 2) 0)]) (st := [ql 2, qr a0]) dX11_place_42 rfl mo_X11_223 h_4 rfl (Nat.le_of_ble_eq_true rfl) rfl rfl (Nat.le_of_ble_eq_true rfl) (Nat.le_of_ble_eq_true rfl) (Nat.le_of_ble_eq_true rfl) (Nat.zero_le _) (Nat.zero_le _) (fun _ hr => ct_X3_numberOf (N := N) h_4 hr) (fun v_5 => ?_)
    refine ok_lmulW (q := 46) dX11_place_45 rfl ?_
    refine ok_aload_n (q := 47) 0 dX11_place_46 rfl rfl rfl ?_
    refine ok_getR (q := 50) (ci := 11) (k := 2) (x := F a0 2) dX11_place_47 rfl fo_X11_26 h0 rfl ?_
    refine ok_getI (q := 53) (ci := 6) (k := 2) (x := I (F a0 2) 2) dX11_place_50 rfl fo_X11_136 h_1 rfl ?_
    refine ok_i2l (q := 54) dX11_place_53 rfl ?_
    refine ok_laddW (q := 55) dX11_place_54 rfl ?_
    refine fi_callV2S (q := 58) (as := [ql (am_wL ((am_wL (2 * v_5)) + (I (F a0 2) 2)))]) (st := []) dX11_place_55 rfl mo_X11_219 h0 rfl (Nat.le_of_ble_eq_true rfl) rfl rfl (Nat.le_of_ble_eq_true rfl) (Nat.le_of_ble_eq_true rfl) (Nat.le_of_ble_eq_true rfl) (Nat.zero_le _) (Nat.zero_le _) (fun _ hr => ct_X11_acceptLong (N := N) h0 hr) (fun v_6 I_7 => ?_)
    exact fi_lreturnS dX11_place_58 rfl
  · skip
    refine ok_aload_n (q := 20) 0 dX11_place_19 rfl rfl rfl ?_
    refine ok_bipush (q := 22) (x := 10) dX11_place_20 rfl rfl (by decide) ?_
    refine fi_callV1S (q := 25) (as := [qi 10]) (st := []) dX11_place_22 rfl mo_X11_91 h0 rfl (Nat.le_of_ble_eq_true rfl) rfl rfl (Nat.le_of_ble_eq_true rfl) (Nat.le_of_ble_eq_true rfl) (Nat.le_of_ble_eq_true rfl) (Nat.zero_le _) (Nat.zero_le _) (fun _ hr => ct_X11_refuse (N := N) h0 hr) (fun v_8 I_9 => ?_)
    refine ok_i2l (q := 26) dX11_place_25 rfl ?_
    exact fi_lreturnS dX11_place_26 rfl
theorem ct_X11_place {η : am_E} {l : Launch} {N : Nat} {n : Nat} {K : am_K} {I : am_I} {F : am_F} {a0 : Nat} {r0 : Int × am_I} (h0 : (K a0).1 = 11) : X11_place N K F a0 I = some r0 → am_Ct η l yX11_place cX11_place 1 (some .long) 3 72 0 0 [qr a0] n K I F (am_pS 2 r0 n K F) := fun g => am_Ct.of false (by decide) (by decide) (Nat.le_of_ble_eq_true rfl) (fun _ => w_X11_place (N := N) h0 g)
def M_X11_ofPlace : am_M := (yX11_ofPlace.cls, cX11_ofPlace, 4, (some .int), am_room 4 95 0 0, false)
def X11_ofPlace_b24 (N : Nat) (K : am_K) (F : am_F) (a0 : Nat) (I : am_I) : Option (Int × am_I) :=
  am_cl (X11_refuse N K F a0 I 3) (fun v_1 I_2 => some (v_1, I_2))
theorem w_X11_ofPlace_b24 {η : am_E} {l : Launch} {N : Nat} {n : Nat} {K : am_K} {I : am_I} {F : am_F} {a0 : Nat} {r0 : Int × am_I} (h0 : (K a0).1 = 11) : X11_ofPlace_b24 N K F a0 I = some r0 → Ok η l M_X11_ofPlace (am_qm η (am_pS 1 r0 n K F) 0 0) 24 [(0, qr a0)] [] n K I F 0 0 := by
  unfold X11_ofPlace_b24
  refine ok_aload_n (q := 25) 0 dX11_ofPlace_24 rfl rfl rfl ?_
  refine ok_iconst (q := 26) (x := 3) dX11_ofPlace_25 rfl rfl (by decide) ?_
  refine fi_callV1S (q := 29) (as := [qi 3]) (st := []) dX11_ofPlace_26 rfl mo_X11_91 h0 rfl (Nat.le_of_ble_eq_true rfl) rfl rfl (Nat.le_of_ble_eq_true rfl) (Nat.le_of_ble_eq_true rfl) (Nat.le_of_ble_eq_true rfl) (Nat.zero_le _) (Nat.zero_le _) (fun _ hr => ct_X11_refuse (N := N) h0 hr) (fun v_1 I_2 => ?_)
  exact fi_ireturnS dX11_ofPlace_29 rfl
def X11_ofPlace_b46 (N : Nat) (K : am_K) (F : am_F) (a0 : Nat) (I : am_I) : Option (Int × am_I) :=
  am_cl (X11_refuse N K F a0 I 7) (fun v_1 I_2 => some (v_1, I_2))
theorem w_X11_ofPlace_b46 {η : am_E} {l : Launch} {N : Nat} {n : Nat} {K : am_K} {I : am_I} {F : am_F} {a0 : Nat} {r0 : Int × am_I} (h0 : (K a0).1 = 11) : X11_ofPlace_b46 N K F a0 I = some r0 → Ok η l M_X11_ofPlace (am_qm η (am_pS 1 r0 n K F) 0 0) 46 [(0, qr a0)] [] n K I F 0 0 := by
  unfold X11_ofPlace_b46
  refine ok_aload_n (q := 47) 0 dX11_ofPlace_46 rfl rfl rfl ?_
  refine ok_bipush (q := 49) (x := 7) dX11_ofPlace_47 rfl rfl (by decide) ?_
  refine fi_callV1S (q := 52) (as := [qi 7]) (st := []) dX11_ofPlace_49 rfl mo_X11_91 h0 rfl (Nat.le_of_ble_eq_true rfl) rfl rfl (Nat.le_of_ble_eq_true rfl) (Nat.le_of_ble_eq_true rfl) (Nat.le_of_ble_eq_true rfl) (Nat.zero_le _) (Nat.zero_le _) (fun _ hr => ct_X11_refuse (N := N) h0 hr) (fun v_1 I_2 => ?_)
  exact fi_ireturnS dX11_ofPlace_52 rfl
def X11_ofPlace (N : Nat) (K : am_K) (F : am_F) (a0 : Nat) (I : am_I) (x1 : Int) (x3 : Int) : Option (Int × am_I) :=
  if 0 ≤ (am_cmp x1 0) then (if (K (F a0 4)).1 = 3 then am_cq (X3_boardsUpTo N K F I (F a0 4) 12) (fun v_2 => if 0 ≤ (am_cmp x1 (am_wL (2 * v_2))) then (X11_ofPlace_b24 N K F a0 I) else (if (-1) ≤ x3 then (if (K (F a0 0)).1 = 1 then if (I (F a0 0) 3) ≤ x3 then (X11_ofPlace_b46 N K F a0 I) else (if x3 = (-1) then (if am_inI (am_land x1 1) then am_cl (X11_accept N K F a0 I (am_land x1 1)) (fun v_9 I_10 => some (v_9, I_10)) else none) else (am_cl (X3_seedsOfBoard N K F (F a0 4) I (am_lshr x1 1) x3) (fun v_4 I_5 => am_cl (X11_accept N K F a0 I_5 v_4) (fun v_6 I_7 => some (v_6, I_7))))) else none) else (X11_ofPlace_b46 N K F a0 I))) else none) else (X11_ofPlace_b24 N K F a0 I)
theorem w_X11_ofPlace {η : am_E} {l : Launch} {N : Nat} {n : Nat} {K : am_K} {I : am_I} {F : am_F} {a0 : Nat} {r0 : Int × am_I} {x1 : Int} {x3 : Int} (h0 : (K a0).1 = 11) : X11_ofPlace N K F a0 I x1 x3 = some r0 → Ok η l M_X11_ofPlace (am_qm η (am_pS 1 r0 n K F) 0 0) 0 [(0, qr a0), (1, ql x1), (3, qi x3)] [] n K I F 0 0 := by
  unfold X11_ofPlace
  refine ok_lload_n (q := 1) 1 dX11_ofPlace_0 rfl rfl rfl ?_
  refine ok_lconst (q := 2) (x := 0) dX11_ofPlace_1 rfl rfl (by decide) ?_
  refine ok_lcmp (q := 3) dX11_ofPlace_2 rfl ?_
  refine ok_if_lt (q := 24) (q2 := 6) dX11_ofPlace_3 rfl rfl ?_ ?_
  · skip
    exact fun g => ok_pick [0] rfl (w_X11_ofPlace_b24 (N := N) h0 g)
  · skip
    refine ok_lload_n (q := 7) 1 dX11_ofPlace_6 rfl rfl rfl ?_
    refine ok_ldc2 (q := 10) (x := 2) (v := 2) dX11_ofPlace_7 rfl kc_X11_213 rfl (by decide) ?_
    refine ok_aload_n (q := 11) 0 dX11_ofPlace_10 rfl rfl rfl ?_
    refine ok_getR (q := 14) (ci := 11) (k := 4) (x := F a0 4) dX11_ofPlace_11 rfl fo_X11_44 h0 rfl ?_
    refine ok_bipush (q := 16) (x := 12) dX11_ofPlace_14 rfl rfl (by decide) ?_
    refine fi_chk (fun h_1 => ?_)
    refine fi_callV2P (q := 19) (as := [qi 12]) (st := [ql 2, ql x1]) dX11_ofPlace_16 rfl mo_X11_215 h_1 rfl (Nat.le_of_ble_eq_true rfl) rfl rfl (Nat.le_of_ble_eq_true rfl) (Nat.le_of_ble_eq_true rfl) (Nat.le_of_ble_eq_true rfl) (Nat.zero_le _) (Nat.zero_le _) (fun _ hr => ct_X3_boardsUpTo (N := N) h_1 hr) (fun v_2 => ?_)
    refine ok_lmulW (q := 20) dX11_ofPlace_19 rfl ?_
    refine ok_lcmp (q := 21) dX11_ofPlace_20 rfl ?_
    refine ok_if_lt (q := 30) (q2 := 24) dX11_ofPlace_21 rfl rfl ?_ ?_
    · skip
      refine ok_iload_n (q := 31) 2 dX11_ofPlace_30 rfl rfl rfl ?_
      refine ok_iconst (q := 32) (x := -1) dX11_ofPlace_31 rfl rfl (by decide) ?_
      refine ok_icmp_lt (q := 46) (q2 := 35) dX11_ofPlace_32 rfl rfl ?_ ?_
      · skip
        exact fun g => ok_pick [0] rfl (w_X11_ofPlace_b46 (N := N) h0 g)
      · skip
        refine ok_iload_n (q := 36) 2 dX11_ofPlace_35 rfl rfl rfl ?_
        refine ok_aload_n (q := 37) 0 dX11_ofPlace_36 rfl rfl rfl ?_
        refine ok_getR (q := 40) (ci := 11) (k := 0) (x := F a0 0) dX11_ofPlace_37 rfl fo_X11_12 h0 rfl ?_
        refine fi_chk (fun h_3 => ?_)
        refine ok_getI (q := 43) (ci := 1) (k := 3) (x := I (F a0 0) 3) dX11_ofPlace_40 rfl fo_X11_112 h_3 rfl ?_
        refine ok_icmp_lt (q := 53) (q2 := 46) dX11_ofPlace_43 rfl rfl ?_ ?_
        · skip
          refine ok_iload_n (q := 54) 2 dX11_ofPlace_53 rfl rfl rfl ?_
          refine ok_iconst (q := 55) (x := -1) dX11_ofPlace_54 rfl rfl (by decide) ?_
          refine ok_icmp_ne (q := 67) (q2 := 58) dX11_ofPlace_55 rfl rfl ?_ ?_
          · skip
            refine ok_aload_n (q := 68) 0 dX11_ofPlace_67 rfl rfl rfl ?_
            refine ok_aload_n (q := 69) 0 dX11_ofPlace_68 rfl rfl rfl ?_
            refine ok_getR (q := 72) (ci := 11) (k := 4) (x := F a0 4) dX11_ofPlace_69 rfl fo_X11_44 h0 rfl ?_
            refine ok_lload_n (q := 73) 1 dX11_ofPlace_72 rfl rfl rfl ?_
            refine ok_iconst (q := 74) (x := 1) dX11_ofPlace_73 rfl rfl (by decide) ?_
            refine ok_lshr (q := 75) (r := am_lshr x1 1) dX11_ofPlace_74 rfl rfl ?_
            refine ok_iload_n (q := 76) 2 dX11_ofPlace_75 rfl rfl rfl ?_
            refine fi_callV1S (q := 79) (as := [ql (am_lshr x1 1), qi x3]) (st := [qr a0]) dX11_ofPlace_76 rfl mo_X11_227 h_1 rfl (Nat.le_of_ble_eq_true rfl) rfl rfl (Nat.le_of_ble_eq_true rfl) (Nat.le_of_ble_eq_true rfl) (Nat.le_of_ble_eq_true rfl) (Nat.zero_le _) (Nat.zero_le _) (fun _ hr => ct_X3_seedsOfBoard (N := N) h_1 hr) (fun v_4 I_5 => ?_)
            refine fi_callV1S (q := 82) (as := [qi v_4]) (st := []) dX11_ofPlace_79 rfl mo_X11_98 h0 rfl (Nat.le_of_ble_eq_true rfl) rfl rfl (Nat.le_of_ble_eq_true rfl) (Nat.le_of_ble_eq_true rfl) (Nat.le_of_ble_eq_true rfl) (Nat.zero_le _) (Nat.zero_le _) (fun _ hr => ct_X11_accept (N := N) h0 hr) (fun v_6 I_7 => ?_)
            exact fi_ireturnS dX11_ofPlace_82 rfl
          · skip
            refine ok_aload_n (q := 59) 0 dX11_ofPlace_58 rfl rfl rfl ?_
            refine ok_lload_n (q := 60) 1 dX11_ofPlace_59 rfl rfl rfl ?_
            refine ok_lconst (q := 61) (x := 1) dX11_ofPlace_60 rfl rfl (by decide) ?_
            refine ok_land (q := 62) (r := am_land x1 1) dX11_ofPlace_61 rfl rfl ?_
            refine fi_chk (fun h_8 => ?_)
            refine ok_l2i (q := 63) dX11_ofPlace_62 rfl h_8 ?_
            refine fi_callV1S (q := 66) (as := [qi (am_land x1 1)]) (st := []) dX11_ofPlace_63 rfl mo_X11_98 h0 rfl (Nat.le_of_ble_eq_true rfl) rfl rfl (Nat.le_of_ble_eq_true rfl) (Nat.le_of_ble_eq_true rfl) (Nat.le_of_ble_eq_true rfl) (Nat.zero_le _) (Nat.zero_le _) (fun _ hr => ct_X11_accept (N := N) h0 hr) (fun v_9 I_10 => ?_)
            exact fi_ireturnS dX11_ofPlace_66 rfl
        · skip
          exact fun g => ok_pick [0] rfl (w_X11_ofPlace_b46 (N := N) h0 g)
    · skip
      exact fun g => ok_pick [0] rfl (w_X11_ofPlace_b24 (N := N) h0 g)
theorem ct_X11_ofPlace {η : am_E} {l : Launch} {N : Nat} {n : Nat} {K : am_K} {I : am_I} {F : am_F} {a0 : Nat} {r0 : Int × am_I} {x1 : Int} {x3 : Int} (h0 : (K a0).1 = 11) : X11_ofPlace N K F a0 I x1 x3 = some r0 → am_Ct η l yX11_ofPlace cX11_ofPlace 4 (some .int) 4 95 0 0 [qr a0, ql x1, qi x3] n K I F (am_pS 1 r0 n K F) := fun g => am_Ct.of false (by decide) (by decide) (Nat.le_of_ble_eq_true rfl) (fun _ => w_X11_ofPlace (N := N) h0 g)
def M_X11_solve (mc ms : Nat) : am_M := (yX11_solve.cls, cX11_solve, 2, (some .int), am_room 5 113 mc ms, false)
def X11_solve_b10 (N : Nat) (a0 : Nat) (n : Nat) (K : am_K) (I : am_I) (F : am_F) (c z : Nat) : Option am_A :=
  am_mo c z (if (K a0).1 = 11 then am_cl (X11_refuse N K F a0 I 7) (fun v_4 I_5 => some (v_4, n, K, I_5, F, c, z)) else none)
theorem w_X11_solve_b10 {η : am_E} {l : Launch} {N : Nat} {n : Nat} {K : am_K} {I : am_I} {F : am_F} {c z : Nat} {a0 : Nat} {r0 : am_A} : X11_solve_b10 N a0 n K I F c z = some r0 → Ok η l (M_X11_solve (am_ac1 r0) (am_az1 r0)) (am_qm η (am_pA 1 r0) (am_ac1 r0) (am_az1 r0)) 10 [(0, qr a0)] [] n K I F c z := by
  unfold X11_solve_b10
  refine fi_mo (fun hc_1 hz_2 => ?_)
  refine ok_aload_n (q := 11) 0 dX11_solve_10 rfl rfl rfl ?_
  refine ok_bipush (q := 13) (x := 7) dX11_solve_11 rfl rfl (by decide) ?_
  refine fi_chk (fun h_3 => ?_)
  refine fi_callV1S (q := 16) (as := [qi 7]) (st := []) dX11_solve_13 rfl mo_X11_91 h_3 rfl (Nat.le_of_ble_eq_true rfl) rfl rfl (Nat.le_of_ble_eq_true rfl) (Nat.le_of_ble_eq_true rfl) (Nat.le_of_ble_eq_true rfl) hc_1 hz_2 (fun _ hr => ct_X11_refuse (N := N) h_3 hr) (fun v_4 I_5 => ?_)
  exact fi_ireturnA dX11_solve_16 rfl
def X11_solve_b64 (N : Nat) (a0 : Nat) (n : Nat) (K : am_K) (I : am_I) (F : am_F) (c z : Nat) : Option am_A :=
  am_mo c z (if (K a0).1 = 11 then am_cl (X11_refuse N K F a0 I 10) (fun v_4 I_5 => some (v_4, n, K, I_5, F, c, z)) else none)
theorem w_X11_solve_b64 {η : am_E} {l : Launch} {N : Nat} {n : Nat} {K : am_K} {I : am_I} {F : am_F} {c z : Nat} {a0 : Nat} {r0 : am_A} : X11_solve_b64 N a0 n K I F c z = some r0 → Ok η l (M_X11_solve (am_ac1 r0) (am_az1 r0)) (am_qm η (am_pA 1 r0) (am_ac1 r0) (am_az1 r0)) 64 [(0, qr a0)] [] n K I F c z := by
  unfold X11_solve_b64
  refine fi_mo (fun hc_1 hz_2 => ?_)
  refine ok_aload_n (q := 65) 0 dX11_solve_64 rfl rfl rfl ?_
  refine ok_bipush (q := 67) (x := 10) dX11_solve_65 rfl rfl (by decide) ?_
  refine fi_chk (fun h_3 => ?_)
  refine fi_callV1S (q := 70) (as := [qi 10]) (st := []) dX11_solve_67 rfl mo_X11_91 h_3 rfl (Nat.le_of_ble_eq_true rfl) rfl rfl (Nat.le_of_ble_eq_true rfl) (Nat.le_of_ble_eq_true rfl) (Nat.le_of_ble_eq_true rfl) hc_1 hz_2 (fun _ hr => ct_X11_refuse (N := N) h_3 hr) (fun v_4 I_5 => ?_)
  exact fi_ireturnA dX11_solve_70 rfl
def X11_solve (N : Nat) (a0 : Nat) (n : Nat) (K : am_K) (I : am_I) (F : am_F) (x1 : Int) : Option am_A :=
  if 0 ≤ x1 then (if 12 < x1 then (X11_solve_b10 N a0 n K I F 0 0) else (if (K (F a0 4)).1 = 3 then am_cq (X3_boardsUpTo N K F I (F a0 4) x1) (fun v_2 => if (am_cmp (am_wL (2 * v_2)) 40000) ≤ 0 then (am_cq (X3_boardsOf N K F I (F a0 4) x1) (fun v_3 => if (K (F a0 0)).1 = 1 then am_cq (X1_pitsOfGreaterSide N K F I (F a0 0)) (fun v_5 => if 0 < (am_cmp (am_wL ((am_wL (2 * v_3)) * v_5)) 200000) then (X11_solve_b64 N a0 n K I F 0 0) else (if (K (F a0 6)).1 = 9 then am_ca (X9_begin N (F a0 6) n K I F x1) (fun _ n_7 K_8 I_9 F_10 c_11 z_12 => am_mo (0 + c_11) (0 + z_12) (if (K_8 a0).1 = 11 then if (K_8 (F_10 a0 7)).1 = 2 then am_cl (X2_clear N K_8 F_10 (F_10 a0 7) I_9) (fun _ I_17 => if (K_8 (F_10 a0 6)).1 = 9 then am_cl (X11_accept N K_8 F_10 a0 I_17 (I_17 (F_10 a0 6) 2)) (fun v_19 I_20 => some (v_19, n_7, K_8, I_20, F_10, (0 + c_11), (0 + z_12))) else none) else none else none)) else none)) else none)) else (X11_solve_b64 N a0 n K I F 0 0)) else none)) else (X11_solve_b10 N a0 n K I F 0 0)
theorem w_X11_solve {η : am_E} {l : Launch} {N : Nat} {n : Nat} {K : am_K} {I : am_I} {F : am_F} {a0 : Nat} {r0 : am_A} {x1 : Int} (h0 : (K a0).1 = 11) : X11_solve N a0 n K I F x1 = some r0 → Ok η l (M_X11_solve (am_ac1 r0) (am_az1 r0)) (am_qm η (am_pA 1 r0) (am_ac1 r0) (am_az1 r0)) 0 [(0, qr a0), (1, qi x1)] [] n K I F 0 0 := by
  unfold X11_solve
  refine ok_iload_n (q := 1) 1 dX11_solve_0 rfl rfl rfl ?_
  refine ok_if_lt (q := 10) (q2 := 4) dX11_solve_1 rfl rfl ?_ ?_
  · skip
    exact fun g => ok_pick [0] rfl (w_X11_solve_b10 (N := N) g)
  · skip
    refine ok_iload_n (q := 5) 1 dX11_solve_4 rfl rfl rfl ?_
    refine ok_bipush (q := 7) (x := 12) dX11_solve_5 rfl rfl (by decide) ?_
    refine ok_icmp_le (q := 17) (q2 := 10) dX11_solve_7 rfl rfl ?_ ?_
    · skip
      refine ok_ldc2 (q := 20) (x := 2) (v := 2) dX11_solve_17 rfl kc_X11_213 rfl (by decide) ?_
      refine ok_aload_n (q := 21) 0 dX11_solve_20 rfl rfl rfl ?_
      refine ok_getR (q := 24) (ci := 11) (k := 4) (x := F a0 4) dX11_solve_21 rfl fo_X11_44 h0 rfl ?_
      refine ok_iload_n (q := 25) 1 dX11_solve_24 rfl rfl rfl ?_
      refine fi_chk (fun h_1 => ?_)
      refine fi_callV2P (q := 28) (as := [qi x1]) (st := [ql 2]) dX11_solve_25 rfl mo_X11_215 h_1 rfl (Nat.le_of_ble_eq_true rfl) rfl rfl (Nat.le_of_ble_eq_true rfl) (Nat.le_of_ble_eq_true rfl) (Nat.le_of_ble_eq_true rfl) (Nat.zero_le _) (Nat.zero_le _) (fun _ hr => ct_X3_boardsUpTo (N := N) h_1 hr) (fun v_2 => ?_)
      refine ok_lmulW (q := 29) dX11_solve_28 rfl ?_
      refine ok_ldc2 (q := 32) (x := 40000) (v := 40000) dX11_solve_29 rfl kc_X11_231 rfl (by decide) ?_
      refine ok_lcmp (q := 33) dX11_solve_32 rfl ?_
      refine ok_if_gt (q := 64) (q2 := 36) dX11_solve_33 rfl rfl ?_ ?_
      · skip
        exact fun g => ok_pick [0] rfl (w_X11_solve_b64 (N := N) g)
      · skip
        refine ok_ldc2 (q := 39) (x := 2) (v := 2) dX11_solve_36 rfl kc_X11_213 rfl (by decide) ?_
        refine ok_aload_n (q := 40) 0 dX11_solve_39 rfl rfl rfl ?_
        refine ok_getR (q := 43) (ci := 11) (k := 4) (x := F a0 4) dX11_solve_40 rfl fo_X11_44 h0 rfl ?_
        refine ok_iload_n (q := 44) 1 dX11_solve_43 rfl rfl rfl ?_
        refine fi_callV2P (q := 47) (as := [qi x1]) (st := [ql 2]) dX11_solve_44 rfl mo_X11_233 h_1 rfl (Nat.le_of_ble_eq_true rfl) rfl rfl (Nat.le_of_ble_eq_true rfl) (Nat.le_of_ble_eq_true rfl) (Nat.le_of_ble_eq_true rfl) (Nat.zero_le _) (Nat.zero_le _) (fun _ hr => ct_X3_boardsOf (N := N) h_1 hr) (fun v_3 => ?_)
        refine ok_lmulW (q := 48) dX11_solve_47 rfl ?_
        refine ok_aload_n (q := 49) 0 dX11_solve_48 rfl rfl rfl ?_
        refine ok_getR (q := 52) (ci := 11) (k := 0) (x := F a0 0) dX11_solve_49 rfl fo_X11_12 h0 rfl ?_
        refine fi_chk (fun h_4 => ?_)
        refine fi_callV1P (q := 55) (as := []) (st := [ql (am_wL (2 * v_3))]) dX11_solve_52 rfl mo_X11_236 h_4 rfl (Nat.le_of_ble_eq_true rfl) rfl rfl (Nat.le_of_ble_eq_true rfl) (Nat.le_of_ble_eq_true rfl) (Nat.le_of_ble_eq_true rfl) (Nat.zero_le _) (Nat.zero_le _) (fun _ hr => ct_X1_pitsOfGreaterSide (N := N) h_4 hr) (fun v_5 => ?_)
        refine ok_i2l (q := 56) dX11_solve_55 rfl ?_
        refine ok_lmulW (q := 57) dX11_solve_56 rfl ?_
        refine ok_ldc2 (q := 60) (x := 200000) (v := 200000) dX11_solve_57 rfl kc_X11_239 rfl (by decide) ?_
        refine ok_lcmp (q := 61) dX11_solve_60 rfl ?_
        refine ok_if_le (q := 71) (q2 := 64) dX11_solve_61 rfl rfl ?_ ?_
        · skip
          refine ok_aload_n (q := 72) 0 dX11_solve_71 rfl rfl rfl ?_
          refine ok_getR (q := 75) (ci := 11) (k := 6) (x := F a0 6) dX11_solve_72 rfl fo_X11_65 h0 rfl ?_
          refine ok_iload_n (q := 76) 1 dX11_solve_75 rfl rfl rfl ?_
          refine fi_chk (fun h_6 => ?_)
          refine fi_callV0A (q := 79) (as := [qi x1]) (st := []) dX11_solve_76 rfl mo_X11_241 h_6 rfl (Nat.le_of_ble_eq_true rfl) rfl rfl (Nat.le_of_ble_eq_true rfl) (Nat.le_of_ble_eq_true rfl) (Nat.le_of_ble_eq_true rfl) (Nat.le_refl _) (Nat.le_refl _) (fun _ hr => ct_X9_begin (N := N) h_6 hr) (fun _ n_7 K_8 I_9 F_10 c_11 z_12 hc_13 hz_14 => ?_)
          refine ok_aload_n (q := 80) 0 dX11_solve_79 rfl rfl rfl ?_
          refine fi_chk (fun h_15 => ?_)
          refine ok_getR (q := 83) (ci := 11) (k := 7) (x := F_10 a0 7) dX11_solve_80 rfl fo_X11_72 h_15 rfl ?_
          refine fi_chk (fun h_16 => ?_)
          refine fi_callV0S (q := 86) (as := []) (st := []) dX11_solve_83 rfl mo_X11_244 h_16 rfl (Nat.le_of_ble_eq_true rfl) rfl rfl (Nat.le_of_ble_eq_true rfl) (Nat.le_of_ble_eq_true rfl) (Nat.le_of_ble_eq_true rfl) hc_13 hz_14 (fun _ hr => ct_X2_clear (N := N) h_16 hr) (fun _ I_17 => ?_)
          refine ok_aload_n (q := 87) 0 dX11_solve_86 rfl rfl rfl ?_
          refine ok_aload_n (q := 88) 0 dX11_solve_87 rfl rfl rfl ?_
          refine ok_getR (q := 91) (ci := 11) (k := 6) (x := F_10 a0 6) dX11_solve_88 rfl fo_X11_65 h_15 rfl ?_
          refine fi_chk (fun h_18 => ?_)
          refine ok_getI (q := 94) (ci := 9) (k := 2) (x := I_17 (F_10 a0 6) 2) dX11_solve_91 rfl fo_X11_245 h_18 rfl ?_
          refine fi_callV1S (q := 97) (as := [qi (I_17 (F_10 a0 6) 2)]) (st := []) dX11_solve_94 rfl mo_X11_98 h_15 rfl (Nat.le_of_ble_eq_true rfl) rfl rfl (Nat.le_of_ble_eq_true rfl) (Nat.le_of_ble_eq_true rfl) (Nat.le_of_ble_eq_true rfl) hc_13 hz_14 (fun _ hr => ct_X11_accept (N := N) h_15 hr) (fun v_19 I_20 => ?_)
          exact fi_ireturnA dX11_solve_97 rfl
        · skip
          exact fun g => ok_pick [0] rfl (w_X11_solve_b64 (N := N) g)
    · skip
      exact fun g => ok_pick [0] rfl (w_X11_solve_b10 (N := N) g)
theorem ct_X11_solve {η : am_E} {l : Launch} {N : Nat} {n : Nat} {K : am_K} {I : am_I} {F : am_F} {a0 : Nat} {r0 : am_A} {x1 : Int} (h0 : (K a0).1 = 11) : X11_solve N a0 n K I F x1 = some r0 → am_Ct η l yX11_solve cX11_solve 2 (some .int) 5 113 (am_ac1 r0) (am_az1 r0) [qr a0, qi x1] n K I F (am_pA 1 r0) := fun g => am_Ct.of false (by decide) (by decide) (Nat.le_of_ble_eq_true rfl) (fun _ => w_X11_solve (N := N) h0 g)
