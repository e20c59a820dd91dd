def M_X8_init (mc ms : Nat) : am_M := (yX8_init.cls, cX8_init, 1, none, am_room 1 20 mc ms, true)
def X8_init (N : Nat) (a0 : Nat) (n : Nat) (K : am_K) (I : am_I) (F : am_F) : Option am_A :=
  if a0 ≠ 0 then some (0, n, K, I, F, 0, 0) else none
theorem w_X8_init {η : am_E} {l : Launch} {N : Nat} {n : Nat} {K : am_K} {I : am_I} {F : am_F} {a0 : Nat} {r0 : am_A} (h0 : (K a0).1 = 8) : X8_init N a0 n K I F = some r0 → Ok η l (M_X8_init (am_ac1 r0) (am_az1 r0)) (am_qm η (am_pA 0 r0) (am_ac1 r0) (am_az1 r0)) 0 [(0, qr a0)] [] n K I F 0 0 := by
  unfold X8_init
  refine ok_aload_n (q := 1) 0 dX8_init_0 rfl rfl rfl ?_
  refine fi_chk (fun h_1 => ?_)
  refine ok_objInit (q := 4) dX8_init_1 rfl oi_X8_3 h_1 (Nat.le_of_ble_eq_true rfl) (Nat.le_of_ble_eq_true rfl) (Nat.le_of_ble_eq_true rfl) ?_
  exact fi_returnA dX8_init_4 rfl
theorem ct_X8_init {η : am_E} {l : Launch} {N : Nat} {n : Nat} {K : am_K} {I : am_I} {F : am_F} {a0 : Nat} {r0 : am_A} (h0 : (K a0).1 = 8) : X8_init N a0 n K I F = some r0 → am_Ct η l yX8_init cX8_init 1 none 1 20 (am_ac1 r0) (am_az1 r0) [qr a0] n K I F (am_pA 0 r0) := fun g => am_Ct.of true (by decide) (by decide) (Nat.le_of_ble_eq_true rfl) (fun _ => w_X8_init (N := N) h0 g)
def M_X8_become : am_M := (yX8_become.cls, cX8_become, 2, none, am_room 0 0 0 0, false)
def X8_become (N : Nat) (K : am_K) (F : am_F) (a0 : Nat) (I : am_I) (x1 : Int) : Option (Int × am_I) :=
  am_lt (am_u2 I a0 0 x1) (fun I_1 => am_lt (am_u2 I_1 a0 1 10) (fun I_2 => am_lt (am_u2 I_2 a0 2 2) (fun I_3 => am_lt (am_u2 I_3 a0 3 3) (fun I_4 => some (0, I_4)))))
theorem w_X8_become {η : am_E} {l : Launch} {N : Nat} {n : Nat} {K : am_K} {I : am_I} {F : am_F} {a0 : Nat} {r0 : Int × am_I} {x1 : Int} (h0 : (K a0).1 = 8) : X8_become N K F a0 I x1 = some r0 → Ok η l M_X8_become (am_qm η (am_pS 0 r0 n K F) 0 0) 0 [(0, qr a0), (1, qi x1)] [] n K I F 0 0 := by
  unfold X8_become
  refine ok_aload_n (q := 1) 0 dX8_become_0 rfl rfl rfl ?_
  refine ok_iload_n (q := 2) 1 dX8_become_1 rfl rfl rfl ?_
  refine ok_putI (q := 5) (ci := 8) (k := 0) dX8_become_2 rfl fo_X8_9 h0 ft_8_0 ff_8_0 (fun I_1 => ?_)
  refine ok_aload_n (q := 6) 0 dX8_become_5 rfl rfl rfl ?_
  refine ok_bipush (q := 8) (x := 10) dX8_become_6 rfl rfl (by decide) ?_
  refine ok_putI (q := 11) (ci := 8) (k := 1) dX8_become_8 rfl fo_X8_15 h0 ft_8_1 ff_8_1 (fun I_2 => ?_)
  refine ok_aload_n (q := 12) 0 dX8_become_11 rfl rfl rfl ?_
  refine ok_iconst (q := 13) (x := 2) dX8_become_12 rfl rfl (by decide) ?_
  refine ok_putI (q := 16) (ci := 8) (k := 2) dX8_become_13 rfl fo_X8_18 h0 ft_8_2 ff_8_2 (fun I_3 => ?_)
  refine ok_aload_n (q := 17) 0 dX8_become_16 rfl rfl rfl ?_
  refine ok_iconst (q := 18) (x := 3) dX8_become_17 rfl rfl (by decide) ?_
  refine ok_putI (q := 21) (ci := 8) (k := 3) dX8_become_18 rfl fo_X8_21 h0 ft_8_3 ff_8_3 (fun I_4 => ?_)
  exact fi_returnS dX8_become_21 rfl
theorem ct_X8_become {η : am_E} {l : Launch} {N : Nat} {n : Nat} {K : am_K} {I : am_I} {F : am_F} {a0 : Nat} {r0 : Int × am_I} {x1 : Int} (h0 : (K a0).1 = 8) : X8_become N K F a0 I x1 = some r0 → am_Ct η l yX8_become cX8_become 2 none 0 0 0 0 [qr a0, qi x1] n K I F (am_pS 0 r0 n K F) := fun g => am_Ct.of false (by decide) (by decide) (Nat.le_of_ble_eq_true rfl) (fun _ => w_X8_become (N := N) h0 g)
def M_X8_becomeFirst : am_M := (yX8_becomeFirst.cls, cX8_becomeFirst, 1, none, am_room 1 21 0 0, false)
def X8_becomeFirst (N : Nat) (K : am_K) (F : am_F) (a0 : Nat) (I : am_I) : Option (Int × am_I) :=
  am_cl (X8_become N K F a0 I 0) (fun _ I_1 => am_lt (am_u2 I_1 a0 4 1) (fun I_2 => am_lt (am_u2 I_2 a0 5 0) (fun I_3 => am_lt (am_u2 I_3 a0 6 0) (fun I_4 => some (0, I_4)))))
theorem w_X8_becomeFirst {η : am_E} {l : Launch} {N : Nat} {n : Nat} {K : am_K} {I : am_I} {F : am_F} {a0 : Nat} {r0 : Int × am_I} (h0 : (K a0).1 = 8) : X8_becomeFirst N K F a0 I = some r0 → Ok η l M_X8_becomeFirst (am_qm η (am_pS 0 r0 n K F) 0 0) 0 [(0, qr a0)] [] n K I F 0 0 := by
  unfold X8_becomeFirst
  refine ok_aload_n (q := 1) 0 dX8_becomeFirst_0 rfl rfl rfl ?_
  refine ok_iconst (q := 2) (x := 0) dX8_becomeFirst_1 rfl rfl (by decide) ?_
  refine fi_callV0S (q := 5) (as := [qi 0]) (st := []) dX8_becomeFirst_2 rfl mo_X8_24 h0 rfl (Nat.le_of_ble_eq_true rfl) rfl rfl (Nat.le_of_ble_eq_true rfl) (Nat.le_of_ble_eq_true rfl) (Nat.le_of_ble_eq_true rfl) (Nat.zero_le _) (Nat.zero_le _) (fun _ hr => ct_X8_become (N := N) h0 hr) (fun _ I_1 => ?_)
  refine ok_aload_n (q := 6) 0 dX8_becomeFirst_5 rfl rfl rfl ?_
  refine ok_iconst (q := 7) (x := 1) dX8_becomeFirst_6 rfl rfl (by decide) ?_
  refine ok_putI (q := 10) (ci := 8) (k := 4) dX8_becomeFirst_7 rfl fo_X8_28 h0 ft_8_4 ff_8_4 (fun I_2 => ?_)
  refine ok_aload_n (q := 11) 0 dX8_becomeFirst_10 rfl rfl rfl ?_
  refine ok_iconst (q := 12) (x := 0) dX8_becomeFirst_11 rfl rfl (by decide) ?_
  refine ok_putZ (q := 15) (ci := 8) (k := 5) dX8_becomeFirst_12 rfl fo_X8_31 h0 ft_8_5 (by decide) ff_8_5 (fun I_3 => ?_)
  refine ok_aload_n (q := 16) 0 dX8_becomeFirst_15 rfl rfl rfl ?_
  refine ok_iconst (q := 17) (x := 0) dX8_becomeFirst_16 rfl rfl (by decide) ?_
  refine ok_putI (q := 20) (ci := 8) (k := 6) dX8_becomeFirst_17 rfl fo_X8_35 h0 ft_8_6 ff_8_6 (fun I_4 => ?_)
  exact fi_returnS dX8_becomeFirst_20 rfl
theorem ct_X8_becomeFirst {η : am_E} {l : Launch} {N : Nat} {n : Nat} {K : am_K} {I : am_I} {F : am_F} {a0 : Nat} {r0 : Int × am_I} (h0 : (K a0).1 = 8) : X8_becomeFirst N K F a0 I = some r0 → am_Ct η l yX8_becomeFirst cX8_becomeFirst 1 none 1 21 0 0 [qr a0] n K I F (am_pS 0 r0 n K F) := fun g => am_Ct.of false (by decide) (by decide) (Nat.le_of_ble_eq_true rfl) (fun _ => w_X8_becomeFirst (N := N) h0 g)
def M_X9_init (mc ms : Nat) : am_M := (yX9_init.cls, cX9_init, 4, none, am_room 2 41 mc ms, true)
def X9_init (N : Nat) (a0 : Nat) (n : Nat) (K : am_K) (I : am_I) (F : am_F) (a1 : Nat) (a2 : Nat) (a3 : Nat) : Option am_A :=
  if a0 ≠ 0 then if (0 : Int) ≤ 0 ∧ 0 ≤ (60000000 : Int) then am_nw n (100, 0) K I F (fun n_2 K_3 I_4 F_5 => am_mo (0 + 1) (0 + (0 : Int).toNat) (if (K_3 a0).1 = 9 then am_lt (am_u2 F_5 a0 4 n) (fun F_11 => am_nw n_2 (100, 0) K_3 I_4 F_11 (fun n_12 K_13 I_14 F_15 => am_mo ((0 + 1) + 1) ((0 + (0 : Int).toNat) + (0 : Int).toNat) (if (K_13 a0).1 = 9 then am_lt (am_u2 F_15 a0 5 n_2) (fun F_20 => am_nw n_12 (100, 0) K_13 I_14 F_20 (fun n_21 K_22 I_23 F_24 => am_mo (((0 + 1) + 1) + 1) (((0 + (0 : Int).toNat) + (0 : Int).toNat) + (0 : Int).toNat) (if (K_22 a0).1 = 9 then am_lt (am_u2 F_24 a0 6 n_12) (fun F_29 => am_nw n_21 (100, 0) K_22 I_23 F_29 (fun n_30 K_31 I_32 F_33 => am_mo ((((0 + 1) + 1) + 1) + 1) ((((0 + (0 : Int).toNat) + (0 : Int).toNat) + (0 : Int).toNat) + (0 : Int).toNat) (if (K_31 a0).1 = 9 then am_lt (am_u2 F_33 a0 7 n_21) (fun F_38 => am_nw n_30 (7, 0) K_31 I_32 F_38 (fun n_39 K_40 I_41 F_42 => am_mo (((((0 + 1) + 1) + 1) + 1) + 1) (((((0 + (0 : Int).toNat) + (0 : Int).toNat) + (0 : Int).toNat) + (0 : Int).toNat) + 7) (if n_30 ≠ 0 then am_ca (X7_init N n_30 n_39 K_40 I_41 F_42 a3) (fun _ n_47 K_48 I_49 F_50 c_51 z_52 => am_mo ((((((0 + 1) + 1) + 1) + 1) + 1) + c_51) ((((((0 + (0 : Int).toNat) + (0 : Int).toNat) + (0 : Int).toNat) + (0 : Int).toNat) + 7) + z_52) (if (K_48 a0).1 = 9 then am_lt (am_u2 F_50 a0 10 n_30) (fun F_56 => am_lt (am_u2 F_56 a0 11 a1) (fun F_57 => am_lt (am_u2 F_57 a0 12 a2) (fun F_58 => am_lt (am_u2 F_58 a0 0 a3) (fun F_59 => some (0, n_47, K_48, I_49, F_59, ((((((0 + 1) + 1) + 1) + 1) + 1) + c_51), ((((((0 + (0 : Int).toNat) + (0 : Int).toNat) + (0 : Int).toNat) + (0 : Int).toNat) + 7) + z_52)))))) else none)) else none))) else none))) else none))) else none))) else none)) else none else none
theorem w_X9_init {η : am_E} {l : Launch} {N : Nat} {n : Nat} {K : am_K} {I : am_I} {F : am_F} {a0 : Nat} {r0 : am_A} {a1 : Nat} {a2 : Nat} {a3 : Nat} (h0 : (K a0).1 = 9) : X9_init N a0 n K I F a1 a2 a3 = some r0 → Ok η l (M_X9_init (am_ac1 r0) (am_az1 r0)) (am_qm η (am_pA 0 r0) (am_ac1 r0) (am_az1 r0)) 0 [(0, qr a0), (1, qr a1), (2, qr a2), (3, qr a3)] [] n K I F 0 0 := by
  unfold X9_init
  refine ok_aload_n (q := 1) 0 dX9_init_0 rfl rfl rfl ?_
  refine fi_chk (fun h_1 => ?_)
  refine ok_objInit (q := 4) dX9_init_1 rfl oi_X9_3 h_1 (Nat.le_of_ble_eq_true rfl) (Nat.le_of_ble_eq_true rfl) (Nat.le_of_ble_eq_true rfl) ?_
  refine ok_aload_n (q := 5) 0 dX9_init_4 rfl rfl rfl ?_
  refine ok_iconst (q := 6) (x := 0) dX9_init_5 rfl rfl (by decide) ?_
  refine fi_chk (fun h_6 => ?_)
  refine fi_newi (q := 8) dX9_init_6 rfl h_6 na_newi (Nat.le_refl _) (Nat.le_refl _) (fun n_2 K_3 I_4 F_5 hc_8 hz_9 h_7 => ?_)
  refine fi_chk (fun h_10 => ?_)
  refine ok_putR (q := 11) (ci := 9) (k := 4) dX9_init_8 rfl fo_X9_9 h_10 ft_9_4 rfl ff_9_4 (fun F_11 => ?_)
  refine ok_aload_n (q := 12) 0 dX9_init_11 rfl rfl rfl ?_
  refine ok_iconst (q := 13) (x := 0) dX9_init_12 rfl rfl (by decide) ?_
  refine fi_newi (q := 15) dX9_init_13 rfl h_6 na_newi (Nat.le_refl _) (Nat.le_refl _) (fun n_12 K_13 I_14 F_15 hc_17 hz_18 h_16 => ?_)
  refine fi_chk (fun h_19 => ?_)
  refine ok_putR (q := 18) (ci := 9) (k := 5) dX9_init_15 rfl fo_X9_15 h_19 ft_9_5 rfl ff_9_5 (fun F_20 => ?_)
  refine ok_aload_n (q := 19) 0 dX9_init_18 rfl rfl rfl ?_
  refine ok_iconst (q := 20) (x := 0) dX9_init_19 rfl rfl (by decide) ?_
  refine fi_newi (q := 22) dX9_init_20 rfl h_6 na_newi (Nat.le_refl _) (Nat.le_refl _) (fun n_21 K_22 I_23 F_24 hc_26 hz_27 h_25 => ?_)
  refine fi_chk (fun h_28 => ?_)
  refine ok_putR (q := 25) (ci := 9) (k := 6) dX9_init_22 rfl fo_X9_18 h_28 ft_9_6 rfl ff_9_6 (fun F_29 => ?_)
  refine ok_aload_n (q := 26) 0 dX9_init_25 rfl rfl rfl ?_
  refine ok_iconst (q := 27) (x := 0) dX9_init_26 rfl rfl (by decide) ?_
  refine fi_newi (q := 29) dX9_init_27 rfl h_6 na_newi (Nat.le_refl _) (Nat.le_refl _) (fun n_30 K_31 I_32 F_33 hc_35 hz_36 h_34 => ?_)
  refine fi_chk (fun h_37 => ?_)
  refine ok_putR (q := 32) (ci := 9) (k := 7) dX9_init_29 rfl fo_X9_21 h_37 ft_9_7 rfl ff_9_7 (fun F_38 => ?_)
  refine ok_aload_n (q := 33) 0 dX9_init_32 rfl rfl rfl ?_
  refine fi_new (q := 36) dX9_init_33 rfl nw_X9_24 (Nat.le_refl _) (Nat.le_refl _) (fun n_39 K_40 I_41 F_42 hc_44 hz_45 h_43 => ?_)
  refine ok_dup (q := 37) dX9_init_36 rfl rfl ?_
  refine ok_aload_n (q := 38) 3 dX9_init_37 rfl rfl rfl ?_
  refine fi_chk (fun h_46 => ?_)
  refine fi_callI0A (q := 41) (as := [qr a3]) (st := [qr n_30, qr a0]) dX9_init_38 rfl mo_X9_26 h_46 rfl rfl (Nat.le_of_ble_eq_true rfl) (Nat.le_of_ble_eq_true rfl) (Nat.le_of_ble_eq_true rfl) (Nat.le_refl _) (Nat.le_refl _) (fun _ hr => ct_X7_init (N := N) (congrArg Prod.fst h_43) hr) (fun _ n_47 K_48 I_49 F_50 c_51 z_52 hc_53 hz_54 => ?_)
  refine fi_chk (fun h_55 => ?_)
  refine ok_putRF (q := 44) (ci := 9) (k := 10) dX9_init_41 rfl fo_X9_29 h_55 ft_9_10 rfl ff_9_10 rfl rfl (fun F_56 => ?_)
  refine ok_aload_n (q := 45) 0 dX9_init_44 rfl rfl rfl ?_
  refine ok_aload_n (q := 46) 1 dX9_init_45 rfl rfl rfl ?_
  refine ok_putRF (q := 49) (ci := 9) (k := 11) dX9_init_46 rfl fo_X9_33 h_55 ft_9_11 rfl ff_9_11 rfl rfl (fun F_57 => ?_)
  refine ok_aload_n (q := 50) 0 dX9_init_49 rfl rfl rfl ?_
  refine ok_aload_n (q := 51) 2 dX9_init_50 rfl rfl rfl ?_
  refine ok_putRF (q := 54) (ci := 9) (k := 12) dX9_init_51 rfl fo_X9_37 h_55 ft_9_12 rfl ff_9_12 rfl rfl (fun F_58 => ?_)
  refine ok_aload_n (q := 55) 0 dX9_init_54 rfl rfl rfl ?_
  refine ok_aload_n (q := 56) 3 dX9_init_55 rfl rfl rfl ?_
  refine ok_putRF (q := 59) (ci := 9) (k := 0) dX9_init_56 rfl fo_X9_41 h_55 ft_9_0 rfl ff_9_0 rfl rfl (fun F_59 => ?_)
  exact fi_returnA dX9_init_59 rfl
theorem ct_X9_init {η : am_E} {l : Launch} {N : Nat} {n : Nat} {K : am_K} {I : am_I} {F : am_F} {a0 : Nat} {r0 : am_A} {a1 : Nat} {a2 : Nat} {a3 : Nat} (h0 : (K a0).1 = 9) : X9_init N a0 n K I F a1 a2 a3 = some r0 → am_Ct η l yX9_init cX9_init 4 none 2 41 (am_ac1 r0) (am_az1 r0) [qr a0, qr a1, qr a2, qr a3] n K I F (am_pA 0 r0) := fun g => am_Ct.of true (by decide) (by decide) (Nat.le_of_ble_eq_true rfl) (fun _ => w_X9_init (N := N) h0 g)
def M_X9_forget : am_M := (yX9_forget.cls, cX9_forget, 1, none, am_room 1 20 0 0, false)
def X9_forget (N : Nat) (K : am_K) (F : am_F) (a0 : Nat) (I : am_I) : Option (Int × am_I) :=
  am_lt (am_u2 I a0 1 0) (fun I_1 => if (K (F a0 0)).1 = 0 then am_cl (X0_clear N K F (F a0 0) I_1) (fun _ I_3 => some (0, I_3)) else none)
theorem w_X9_forget {η : am_E} {l : Launch} {N : Nat} {n : Nat} {K : am_K} {I : am_I} {F : am_F} {a0 : Nat} {r0 : Int × am_I} (h0 : (K a0).1 = 9) : X9_forget N K F a0 I = some r0 → Ok η l M_X9_forget (am_qm η (am_pS 0 r0 n K F) 0 0) 0 [(0, qr a0)] [] n K I F 0 0 := by
  unfold X9_forget
  refine ok_aload_n (q := 1) 0 dX9_forget_0 rfl rfl rfl ?_
  refine ok_iconst (q := 2) (x := 0) dX9_forget_1 rfl rfl (by decide) ?_
  refine ok_putZ (q := 5) (ci := 9) (k := 1) dX9_forget_2 rfl fo_X9_45 h0 ft_9_1 (by decide) ff_9_1 (fun I_1 => ?_)
  refine ok_aload_n (q := 6) 0 dX9_forget_5 rfl rfl rfl ?_
  refine ok_getR (q := 9) (ci := 9) (k := 0) (x := F a0 0) dX9_forget_6 rfl fo_X9_41 h0 rfl ?_
  refine fi_chk (fun h_2 => ?_)
  refine fi_callV0S (q := 12) (as := []) (st := []) dX9_forget_9 rfl mo_X9_49 h_2 rfl (Nat.le_of_ble_eq_true rfl) rfl rfl (Nat.le_of_ble_eq_true rfl) (Nat.le_of_ble_eq_true rfl) (Nat.le_of_ble_eq_true rfl) (Nat.zero_le _) (Nat.zero_le _) (fun _ hr => ct_X0_clear (N := N) h_2 hr) (fun _ I_3 => ?_)
  exact fi_returnS dX9_forget_12 rfl
theorem ct_X9_forget {η : am_E} {l : Launch} {N : Nat} {n : Nat} {K : am_K} {I : am_I} {F : am_F} {a0 : Nat} {r0 : Int × am_I} (h0 : (K a0).1 = 9) : X9_forget N K F a0 I = some r0 → am_Ct η l yX9_forget cX9_forget 1 none 1 20 0 0 [qr a0] n K I F (am_pS 0 r0 n K F) := fun g => am_Ct.of false (by decide) (by decide) (Nat.le_of_ble_eq_true rfl) (fun _ => w_X9_forget (N := N) h0 g)
def M_X9_makeRoom (mc ms : Nat) : am_M := (yX9_makeRoom.cls, cX9_makeRoom, 2, none, am_room 3 69 mc ms, false)
def X9_makeRoom_b76 (N : Nat) (a0 : Nat) (n : Nat) (K : am_K) (I : am_I) (F : am_F) (c z : Nat) : Option am_A :=
  am_mo c z (some (0, n, K, I, F, c, z))
theorem w_X9_makeRoom_b76 {η : am_E} {l : Launch} {N : Nat} {n : Nat} {K : am_K} {I : am_I} {F : am_F} {c z : Nat} {a0 : Nat} {r0 : am_A} : X9_makeRoom_b76 N a0 n K I F c z = some r0 → Ok η l (M_X9_makeRoom (am_ac1 r0) (am_az1 r0)) (am_qm η (am_pA 0 r0) (am_ac1 r0) (am_az1 r0)) 76 [(0, qr a0)] [] n K I F c z := by
  unfold X9_makeRoom_b76
  refine fi_mo (fun hc_1 hz_2 => ?_)
  exact fi_returnA dX9_makeRoom_76 rfl
def X9_makeRoom (N : Nat) (a0 : Nat) (n : Nat) (K : am_K) (I : am_I) (F : am_F) : Option am_A :=
  if (K (F a0 4)).1 = 100 then if am_inI (K (F a0 4)).2 then if ((K (F a0 4)).2) < (I a0 2) then (if am_inI (2 * ((K (F a0 4)).2)) then am_lt (am_min (am_max (I a0 2) (2 * ((K (F a0 4)).2))) 40000) (fun x1_4 => if (0 : Int) ≤ x1_4 ∧ x1_4 ≤ (60000000 : Int) then am_nw n (100, x1_4) K I F (fun n_5 K_6 I_7 F_8 => am_mo (0 + 1) (0 + (x1_4 : Int).toNat) (if (K_6 a0).1 = 9 then am_lt (am_u2 F_8 a0 4 n) (fun F_14 => am_nw n_5 (100, x1_4) K_6 I_7 F_14 (fun n_15 K_16 I_17 F_18 => am_mo ((0 + 1) + 1) ((0 + (x1_4 : Int).toNat) + (x1_4 : Int).toNat) (if (K_16 a0).1 = 9 then am_lt (am_u2 F_18 a0 5 n_5) (fun F_23 => am_nw n_15 (100, x1_4) K_16 I_17 F_23 (fun n_24 K_25 I_26 F_27 => am_mo (((0 + 1) + 1) + 1) (((0 + (x1_4 : Int).toNat) + (x1_4 : Int).toNat) + (x1_4 : Int).toNat) (if (K_25 a0).1 = 9 then am_lt (am_u2 F_27 a0 6 n_15) (fun F_32 => am_nw n_24 (100, x1_4) K_25 I_26 F_32 (fun n_33 K_34 I_35 F_36 => am_mo ((((0 + 1) + 1) + 1) + 1) ((((0 + (x1_4 : Int).toNat) + (x1_4 : Int).toNat) + (x1_4 : Int).toNat) + (x1_4 : Int).toNat) (if (K_34 a0).1 = 9 then am_lt (am_u2 F_36 a0 7 n_24) (fun F_41 => if (K_34 (F_41 a0 0)).1 = 0 then am_ca (X0_makeRoom N (F_41 a0 0) n_33 K_34 I_35 F_41 x1_4) (fun _ n_43 K_44 I_45 F_46 c_47 z_48 => am_mo (((((0 + 1) + 1) + 1) + 1) + c_47) (((((0 + (x1_4 : Int).toNat) + (x1_4 : Int).toNat) + (x1_4 : Int).toNat) + (x1_4 : Int).toNat) + z_48) (if (K_44 a0).1 = 9 then if (K_44 (F_46 a0 10)).1 = 7 then am_ca (X7_makeRoom N (F_46 a0 10) n_43 K_44 I_45 F_46 x1_4) (fun _ n_53 K_54 I_55 F_56 c_57 z_58 => am_mo ((((((0 + 1) + 1) + 1) + 1) + c_47) + c_57) ((((((0 + (x1_4 : Int).toNat) + (x1_4 : Int).toNat) + (x1_4 : Int).toNat) + (x1_4 : Int).toNat) + z_48) + z_58) (X9_makeRoom_b76 N a0 n_53 K_54 I_55 F_56 ((((((0 + 1) + 1) + 1) + 1) + c_47) + c_57) ((((((0 + (x1_4 : Int).toNat) + (x1_4 : Int).toNat) + (x1_4 : Int).toNat) + (x1_4 : Int).toNat) + z_48) + z_58))) else none else none)) else none) else none))) else none))) else none))) else none)) else none) else none) else (X9_makeRoom_b76 N a0 n K I F 0 0) else none else none
theorem w_X9_makeRoom {η : am_E} {l : Launch} {N : Nat} {n : Nat} {K : am_K} {I : am_I} {F : am_F} {a0 : Nat} {r0 : am_A} (h0 : (K a0).1 = 9) : X9_makeRoom N a0 n K I F = some r0 → Ok η l (M_X9_makeRoom (am_ac1 r0) (am_az1 r0)) (am_qm η (am_pA 0 r0) (am_ac1 r0) (am_az1 r0)) 0 [(0, qr a0)] [] n K I F 0 0 := by
  unfold X9_makeRoom
  refine ok_aload_n (q := 1) 0 dX9_makeRoom_0 rfl rfl rfl ?_
  refine ok_getI (q := 4) (ci := 9) (k := 2) (x := I a0 2) dX9_makeRoom_1 rfl fo_X9_64 h0 rfl ?_
  refine ok_aload_n (q := 5) 0 dX9_makeRoom_4 rfl rfl rfl ?_
  refine ok_getR (q := 8) (ci := 9) (k := 4) (x := F a0 4) dX9_makeRoom_5 rfl fo_X9_9 h0 rfl ?_
  refine fi_chk (fun h_1 => ?_)
  refine fi_chk (fun h_2 => ?_)
  refine ok_arraylength (q := 9) (i := 0) dX9_makeRoom_8 rfl h_1 (by decide) rfl rfl h_2 ?_
  refine ok_icmp_le (q := 76) (q2 := 12) dX9_makeRoom_9 rfl rfl ?_ ?_
  · skip
    exact fun g => ok_pick [0] rfl (w_X9_makeRoom_b76 (N := N) g)
  · skip
    refine ok_aload_n (q := 13) 0 dX9_makeRoom_12 rfl rfl rfl ?_
    refine ok_getI (q := 16) (ci := 9) (k := 2) (x := I a0 2) dX9_makeRoom_13 rfl fo_X9_64 h0 rfl ?_
    refine ok_iconst (q := 17) (x := 2) dX9_makeRoom_16 rfl rfl (by decide) ?_
    refine ok_aload_n (q := 18) 0 dX9_makeRoom_17 rfl rfl rfl ?_
    refine ok_getR (q := 21) (ci := 9) (k := 4) (x := F a0 4) dX9_makeRoom_18 rfl fo_X9_9 h0 rfl ?_
    refine ok_arraylength (q := 22) (i := 0) dX9_makeRoom_21 rfl h_1 (by decide) rfl rfl h_2 ?_
    refine fi_chk (fun h_3 => ?_)
    refine ok_imul (q := 23) dX9_makeRoom_22 rfl h_3 ?_
    refine ok_mmax (q := 26) dX9_makeRoom_23 rfl mm_X9_127 (Nat.le_of_ble_eq_true rfl) (Nat.le_of_ble_eq_true rfl) (Nat.le_of_ble_eq_true rfl) (Nat.zero_le _) (Nat.zero_le _) ?_
    refine ok_ldc (q := 28) (x := 40000) (v := 40000) dX9_makeRoom_26 rfl kc_X9_133 rfl (by decide) ?_
    refine ok_mmin (q := 31) dX9_makeRoom_28 rfl mm_X9_134 (Nat.le_of_ble_eq_true rfl) (Nat.le_of_ble_eq_true rfl) (Nat.le_of_ble_eq_true rfl) (Nat.zero_le _) (Nat.zero_le _) ?_
    refine ok_istore_nL (q := 32) (fun x1_4 => [(1, qi x1_4), (0, qr a0)]) dX9_makeRoom_31 rfl rfl (Nat.le_of_ble_eq_true rfl) (fun _ => rfl) (fun x1_4 => ?_)
    refine ok_aload_n (q := 33) 1 dX9_makeRoom_32 rfl rfl rfl ?_
    refine ok_iload_n (q := 34) 0 dX9_makeRoom_33 rfl rfl rfl ?_
    refine fi_chk (fun h_9 => ?_)
    refine fi_newi (q := 36) dX9_makeRoom_34 rfl h_9 na_newi (Nat.le_refl _) (Nat.le_refl _) (fun n_5 K_6 I_7 F_8 hc_11 hz_12 h_10 => ?_)
    refine fi_chk (fun h_13 => ?_)
    refine ok_putR (q := 39) (ci := 9) (k := 4) dX9_makeRoom_36 rfl fo_X9_9 h_13 ft_9_4 rfl ff_9_4 (fun F_14 => ?_)
    refine ok_aload_n (q := 40) 1 dX9_makeRoom_39 rfl rfl rfl ?_
    refine ok_iload_n (q := 41) 0 dX9_makeRoom_40 rfl rfl rfl ?_
    refine fi_newi (q := 43) dX9_makeRoom_41 rfl h_9 na_newi (Nat.le_refl _) (Nat.le_refl _) (fun n_15 K_16 I_17 F_18 hc_20 hz_21 h_19 => ?_)
    refine fi_chk (fun h_22 => ?_)
    refine ok_putR (q := 46) (ci := 9) (k := 5) dX9_makeRoom_43 rfl fo_X9_15 h_22 ft_9_5 rfl ff_9_5 (fun F_23 => ?_)
    refine ok_aload_n (q := 47) 1 dX9_makeRoom_46 rfl rfl rfl ?_
    refine ok_iload_n (q := 48) 0 dX9_makeRoom_47 rfl rfl rfl ?_
    refine fi_newi (q := 50) dX9_makeRoom_48 rfl h_9 na_newi (Nat.le_refl _) (Nat.le_refl _) (fun n_24 K_25 I_26 F_27 hc_29 hz_30 h_28 => ?_)
    refine fi_chk (fun h_31 => ?_)
    refine ok_putR (q := 53) (ci := 9) (k := 6) dX9_makeRoom_50 rfl fo_X9_18 h_31 ft_9_6 rfl ff_9_6 (fun F_32 => ?_)
    refine ok_aload_n (q := 54) 1 dX9_makeRoom_53 rfl rfl rfl ?_
    refine ok_iload_n (q := 55) 0 dX9_makeRoom_54 rfl rfl rfl ?_
    refine fi_newi (q := 57) dX9_makeRoom_55 rfl h_9 na_newi (Nat.le_refl _) (Nat.le_refl _) (fun n_33 K_34 I_35 F_36 hc_38 hz_39 h_37 => ?_)
    refine fi_chk (fun h_40 => ?_)
    refine ok_putR (q := 60) (ci := 9) (k := 7) dX9_makeRoom_57 rfl fo_X9_21 h_40 ft_9_7 rfl ff_9_7 (fun F_41 => ?_)
    refine ok_aload_n (q := 61) 1 dX9_makeRoom_60 rfl rfl rfl ?_
    refine ok_getR (q := 64) (ci := 9) (k := 0) (x := F_41 a0 0) dX9_makeRoom_61 rfl fo_X9_41 h_40 rfl ?_
    refine ok_iload_n (q := 65) 0 dX9_makeRoom_64 rfl rfl rfl ?_
    refine fi_chk (fun h_42 => ?_)
    refine fi_callV0A (q := 68) (as := [qi x1_4]) (st := []) dX9_makeRoom_65 rfl mo_X9_137 h_42 rfl (Nat.le_of_ble_eq_true rfl) rfl rfl (Nat.le_of_ble_eq_true rfl) (Nat.le_of_ble_eq_true rfl) (Nat.le_of_ble_eq_true rfl) (Nat.le_refl _) (Nat.le_refl _) (fun _ hr => ct_X0_makeRoom (N := N) h_42 hr) (fun _ n_43 K_44 I_45 F_46 c_47 z_48 hc_49 hz_50 => ?_)
    refine ok_aload_n (q := 69) 1 dX9_makeRoom_68 rfl rfl rfl ?_
    refine fi_chk (fun h_51 => ?_)
    refine ok_getR (q := 72) (ci := 9) (k := 10) (x := F_46 a0 10) dX9_makeRoom_69 rfl fo_X9_29 h_51 rfl ?_
    refine ok_iload_n (q := 73) 0 dX9_makeRoom_72 rfl rfl rfl ?_
    refine fi_chk (fun h_52 => ?_)
    refine fi_callV0A (q := 76) (as := [qi x1_4]) (st := []) dX9_makeRoom_73 rfl mo_X9_139 h_52 rfl (Nat.le_of_ble_eq_true rfl) rfl rfl (Nat.le_of_ble_eq_true rfl) (Nat.le_of_ble_eq_true rfl) (Nat.le_of_ble_eq_true rfl) (Nat.le_refl _) (Nat.le_refl _) (fun _ hr => ct_X7_makeRoom (N := N) h_52 hr) (fun _ n_53 K_54 I_55 F_56 c_57 z_58 hc_59 hz_60 => ?_)
    exact fun g => ok_pick [1] rfl (w_X9_makeRoom_b76 (N := N) g)
theorem ct_X9_makeRoom {η : am_E} {l : Launch} {N : Nat} {n : Nat} {K : am_K} {I : am_I} {F : am_F} {a0 : Nat} {r0 : am_A} (h0 : (K a0).1 = 9) : X9_makeRoom N a0 n K I F = some r0 → am_Ct η l yX9_makeRoom cX9_makeRoom 2 none 3 69 (am_ac1 r0) (am_az1 r0) [qr a0] n K I F (am_pA 0 r0) := fun g => am_Ct.of false (by decide) (by decide) (Nat.le_of_ble_eq_true rfl) (fun _ => w_X9_makeRoom (N := N) h0 g)
def M_X9_makeMoveRoom (mc ms : Nat) : am_M := (yX9_makeMoveRoom.cls, cX9_makeMoveRoom, 3, none, am_room 3 69 mc ms, false)
def X9_makeMoveRoom_b43 (N : Nat) (a0 : Nat) (n : Nat) (K : am_K) (I : am_I) (F : am_F) (c z : Nat) : Option am_A :=
  am_mo c z (some (0, n, K, I, F, c, z))
theorem w_X9_makeMoveRoom_b43 {η : am_E} {l : Launch} {N : Nat} {n : Nat} {K : am_K} {I : am_I} {F : am_F} {c z : Nat} {a0 : Nat} {r0 : am_A} : X9_makeMoveRoom_b43 N a0 n K I F c z = some r0 → Ok η l (M_X9_makeMoveRoom (am_ac1 r0) (am_az1 r0)) (am_qm η (am_pA 0 r0) (am_ac1 r0) (am_az1 r0)) 43 [(0, qr a0)] [] n K I F c z := by
  unfold X9_makeMoveRoom_b43
  refine fi_mo (fun hc_1 hz_2 => ?_)
  exact fi_returnA dX9_makeMoveRoom_43 rfl
def X9_makeMoveRoom (N : Nat) (a0 : Nat) (n : Nat) (K : am_K) (I : am_I) (F : am_F) (x1 : Int) : Option am_A :=
  if (K (F a0 0)).1 = 0 then if (K (F (F a0 0) 2)).1 = 100 then if am_inI (K (F (F a0 0) 2)).2 then if ((K (F (F a0 0) 2)).2) < x1 then (if am_inI (2 * ((K (F (F a0 0) 2)).2)) then am_lt (am_max x1 (2 * ((K (F (F a0 0) 2)).2))) (fun x2_5 => am_ca (X0_makeMoveRoom N (F a0 0) n K I F x2_5) (fun _ n_6 K_7 I_8 F_9 c_10 z_11 => am_mo (0 + c_10) (0 + z_11) (if (K_7 a0).1 = 9 then if (K_7 (F_9 a0 10)).1 = 7 then am_ca (X7_makeMoveRoom N (F_9 a0 10) n_6 K_7 I_8 F_9 x2_5) (fun _ n_16 K_17 I_18 F_19 c_20 z_21 => am_mo ((0 + c_10) + c_20) ((0 + z_11) + z_21) (X9_makeMoveRoom_b43 N a0 n_16 K_17 I_18 F_19 ((0 + c_10) + c_20) ((0 + z_11) + z_21))) else none else none))) else none) else (X9_makeMoveRoom_b43 N a0 n K I F 0 0) else none else none else none
theorem w_X9_makeMoveRoom {η : am_E} {l : Launch} {N : Nat} {n : Nat} {K : am_K} {I : am_I} {F : am_F} {a0 : Nat} {r0 : am_A} {x1 : Int} (h0 : (K a0).1 = 9) : X9_makeMoveRoom N a0 n K I F x1 = some r0 → Ok η l (M_X9_makeMoveRoom (am_ac1 r0) (am_az1 r0)) (am_qm η (am_pA 0 r0) (am_ac1 r0) (am_az1 r0)) 0 [(0, qr a0), (1, qi x1)] [] n K I F 0 0 := by
  unfold X9_makeMoveRoom
  refine ok_iload_n (q := 1) 1 dX9_makeMoveRoom_0 rfl rfl rfl ?_
  refine ok_aload_n (q := 2) 0 dX9_makeMoveRoom_1 rfl rfl rfl ?_
  refine ok_getR (q := 5) (ci := 9) (k := 0) (x := F a0 0) dX9_makeMoveRoom_2 rfl fo_X9_41 h0 rfl ?_
  refine fi_chk (fun h_1 => ?_)
  refine ok_getR (q := 8) (ci := 0) (k := 2) (x := F (F a0 0) 2) dX9_makeMoveRoom_5 rfl fo_X9_106 h_1 rfl ?_
  refine fi_chk (fun h_2 => ?_)
  refine fi_chk (fun h_3 => ?_)
  refine ok_arraylength (q := 9) (i := 0) dX9_makeMoveRoom_8 rfl h_2 (by decide) rfl rfl h_3 ?_
  refine ok_icmp_le (q := 43) (q2 := 12) dX9_makeMoveRoom_9 rfl rfl ?_ ?_
  · skip
    exact fun g => ok_pick [0] rfl (w_X9_makeMoveRoom_b43 (N := N) g)
  · skip
    refine ok_iload_n (q := 13) 1 dX9_makeMoveRoom_12 rfl rfl rfl ?_
    refine ok_iconst (q := 14) (x := 2) dX9_makeMoveRoom_13 rfl rfl (by decide) ?_
    refine ok_aload_n (q := 15) 0 dX9_makeMoveRoom_14 rfl rfl rfl ?_
    refine ok_getR (q := 18) (ci := 9) (k := 0) (x := F a0 0) dX9_makeMoveRoom_15 rfl fo_X9_41 h0 rfl ?_
    refine ok_getR (q := 21) (ci := 0) (k := 2) (x := F (F a0 0) 2) dX9_makeMoveRoom_18 rfl fo_X9_106 h_1 rfl ?_
    refine ok_arraylength (q := 22) (i := 0) dX9_makeMoveRoom_21 rfl h_2 (by decide) rfl rfl h_3 ?_
    refine fi_chk (fun h_4 => ?_)
    refine ok_imul (q := 23) dX9_makeMoveRoom_22 rfl h_4 ?_
    refine ok_mmax (q := 26) dX9_makeMoveRoom_23 rfl mm_X9_127 (Nat.le_of_ble_eq_true rfl) (Nat.le_of_ble_eq_true rfl) (Nat.le_of_ble_eq_true rfl) (Nat.zero_le _) (Nat.zero_le _) ?_
    refine ok_istore_nL (q := 27) (fun x2_5 => [(2, qi x2_5), (0, qr a0), (1, qi x1)]) dX9_makeMoveRoom_26 rfl rfl (Nat.le_of_ble_eq_true rfl) (fun _ => rfl) (fun x2_5 => ?_)
    refine ok_aload_n (q := 28) 1 dX9_makeMoveRoom_27 rfl rfl rfl ?_
    refine ok_getR (q := 31) (ci := 9) (k := 0) (x := F a0 0) dX9_makeMoveRoom_28 rfl fo_X9_41 h0 rfl ?_
    refine ok_iload_n (q := 32) 0 dX9_makeMoveRoom_31 rfl rfl rfl ?_
    refine fi_callV0A (q := 35) (as := [qi x2_5]) (st := []) dX9_makeMoveRoom_32 rfl mo_X9_140 h_1 rfl (Nat.le_of_ble_eq_true rfl) rfl rfl (Nat.le_of_ble_eq_true rfl) (Nat.le_of_ble_eq_true rfl) (Nat.le_of_ble_eq_true rfl) (Nat.le_refl _) (Nat.le_refl _) (fun _ hr => ct_X0_makeMoveRoom (N := N) h_1 hr) (fun _ n_6 K_7 I_8 F_9 c_10 z_11 hc_12 hz_13 => ?_)
    refine ok_aload_n (q := 36) 1 dX9_makeMoveRoom_35 rfl rfl rfl ?_
    refine fi_chk (fun h_14 => ?_)
    refine ok_getR (q := 39) (ci := 9) (k := 10) (x := F_9 a0 10) dX9_makeMoveRoom_36 rfl fo_X9_29 h_14 rfl ?_
    refine ok_iload_n (q := 40) 0 dX9_makeMoveRoom_39 rfl rfl rfl ?_
    refine fi_chk (fun h_15 => ?_)
    refine fi_callV0A (q := 43) (as := [qi x2_5]) (st := []) dX9_makeMoveRoom_40 rfl mo_X9_141 h_15 rfl (Nat.le_of_ble_eq_true rfl) rfl rfl (Nat.le_of_ble_eq_true rfl) (Nat.le_of_ble_eq_true rfl) (Nat.le_of_ble_eq_true rfl) (Nat.le_refl _) (Nat.le_refl _) (fun _ hr => ct_X7_makeMoveRoom (N := N) h_15 hr) (fun _ n_16 K_17 I_18 F_19 c_20 z_21 hc_22 hz_23 => ?_)
    exact fun g => ok_pick [1] rfl (w_X9_makeMoveRoom_b43 (N := N) g)
theorem ct_X9_makeMoveRoom {η : am_E} {l : Launch} {N : Nat} {n : Nat} {K : am_K} {I : am_I} {F : am_F} {a0 : Nat} {r0 : am_A} {x1 : Int} (h0 : (K a0).1 = 9) : X9_makeMoveRoom N a0 n K I F x1 = some r0 → am_Ct η l yX9_makeMoveRoom cX9_makeMoveRoom 3 none 3 69 (am_ac1 r0) (am_az1 r0) [qr a0, qi x1] n K I F (am_pA 0 r0) := fun g => am_Ct.of false (by decide) (by decide) (Nat.le_of_ble_eq_true rfl) (fun _ => w_X9_makeMoveRoom (N := N) h0 g)
def M_X9_begin (mc ms : Nat) : am_M := (yX9_begin.cls, cX9_begin, 3, none, am_room 4 91 mc ms, false)
def X9_begin_s66 (N : Nat) (a0 : Nat) (k66 : Nat → am_K → am_I → am_F → Nat → Nat → Int → Option am_A) (n : Nat) (K : am_K) (I : am_I) (F : am_F) (c z : Nat) (x2 : Int) : Option am_A :=
  am_mo c z (if (K a0).1 = 9 then if x2 < (I a0 2) then (if (K (F a0 6)).1 = 100 then if F a0 6 ≠ 1 then if (0 : Int) ≤ x2 ∧ x2 < (K (F a0 6)).2 then am_lt (am_u2 I (F a0 6) x2 0) (fun I_7 => if (K (F a0 7)).1 = 100 then if F a0 7 ≠ 1 then if (0 : Int) ≤ x2 ∧ x2 < (K (F a0 7)).2 then am_lt (am_u2 I_7 (F a0 7) x2 0) (fun I_11 => if am_inI (x2 + 1) then am_lt (x2 + 1) (fun x2_13 => k66 n K I_11 F c z x2_13) else none) else none else none else none) else none else none else none) else (some (0, n, K, I, F, c, z)) else none)
theorem w_X9_begin_s66 {η : am_E} {l : Launch} {N : Nat} {n : Nat} {K : am_K} {I : am_I} {F : am_F} {c z : Nat} {a0 : Nat} {r0 : am_A} {k66 : Nat → am_K → am_I → am_F → Nat → Nat → Int → Option am_A} {x2 : Int} (H66 : ∀ (n : Nat) (K : am_K) (I : am_I) (F : am_F) (c : Nat) (z : Nat) (x2 : Int), k66 n K I F c z x2 = some r0 → Ok η l (M_X9_begin (am_ac1 r0) (am_az1 r0)) (am_qm η (am_pA 0 r0) (am_ac1 r0) (am_az1 r0)) 66 [(0, qr a0), (2, qi x2)] [] n K I F c z) : X9_begin_s66 N a0 k66 n K I F c z x2 = some r0 → Ok η l (M_X9_begin (am_ac1 r0) (am_az1 r0)) (am_qm η (am_pA 0 r0) (am_ac1 r0) (am_az1 r0)) 66 [(0, qr a0), (2, qi x2)] [] n K I F c z := by
  unfold X9_begin_s66
  refine fi_mo (fun hc_1 hz_2 => ?_)
  refine ok_iload_n (q := 67) 1 dX9_begin_66 rfl rfl rfl ?_
  refine ok_aload_n (q := 68) 0 dX9_begin_67 rfl rfl rfl ?_
  refine fi_chk (fun h_3 => ?_)
  refine ok_getI (q := 71) (ci := 9) (k := 2) (x := I a0 2) dX9_begin_68 rfl fo_X9_64 h_3 rfl ?_
  refine ok_icmp_ge (q := 94) (q2 := 74) dX9_begin_71 rfl rfl ?_ ?_
  · skip
    exact fi_returnA dX9_begin_94 rfl
  · skip
    refine ok_aload_n (q := 75) 0 dX9_begin_74 rfl rfl rfl ?_
    refine ok_getR (q := 78) (ci := 9) (k := 6) (x := F a0 6) dX9_begin_75 rfl fo_X9_18 h_3 rfl ?_
    refine ok_iload_n (q := 79) 1 dX9_begin_78 rfl rfl rfl ?_
    refine ok_iconst (q := 80) (x := 0) dX9_begin_79 rfl rfl (by decide) ?_
    refine fi_chk (fun h_4 => ?_)
    refine fi_chk (fun h_5 => ?_)
    refine fi_chk (fun h_6 => ?_)
    refine ok_iastore (q := 81) dX9_begin_80 rfl h_4 h_5 h_6.1 h_6.2 (fun I_7 => ?_)
    refine ok_aload_n (q := 82) 0 dX9_begin_81 rfl rfl rfl ?_
    refine ok_getR (q := 85) (ci := 9) (k := 7) (x := F a0 7) dX9_begin_82 rfl fo_X9_21 h_3 rfl ?_
    refine ok_iload_n (q := 86) 1 dX9_begin_85 rfl rfl rfl ?_
    refine ok_iconst (q := 87) (x := 0) dX9_begin_86 rfl rfl (by decide) ?_
    refine fi_chk (fun h_8 => ?_)
    refine fi_chk (fun h_9 => ?_)
    refine fi_chk (fun h_10 => ?_)
    refine ok_iastore (q := 88) dX9_begin_87 rfl h_8 h_9 h_10.1 h_10.2 (fun I_11 => ?_)
    refine fi_chk (fun h_12 => ?_)
    refine ok_iincL (q := 91) (fun x2_13 => [(2, qi x2_13), (0, qr a0)]) 1 dX9_begin_88 rfl rfl h_12 (Nat.le_of_ble_eq_true rfl) (fun _ => rfl) (fun x2_13 => ?_)
    refine ok_goto (q := 66) dX9_begin_91 rfl ?_
    exact fun g => ok_pick [1, 0] rfl (H66 _ _ _ _ _ _ _ g)
def X9_begin_h66 (N : Nat) (a0 : Nat) : Nat → Nat → am_K → am_I → am_F → Nat → Nat → Int → Option am_A := am_it (fun kh => X9_begin_s66 N a0 kh) (fun _ _ _ _ _ _ _ => none)
theorem w_X9_begin_h66 {η : am_E} {l : Launch} {N : Nat}  {a0 : Nat} {r0 : am_A} (f : Nat) : ∀ (n : Nat) (K : am_K) (I : am_I) (F : am_F) (c : Nat) (z : Nat) (x2 : Int), X9_begin_h66 N a0 f n K I F c z x2 = some r0 → Ok η l (M_X9_begin (am_ac1 r0) (am_az1 r0)) (am_qm η (am_pA 0 r0) (am_ac1 r0) (am_az1 r0)) 66 [(0, qr a0), (2, qi x2)] [] n K I F c z := by
  induction f with
  | zero => intro n K I F c z x2 g; exact fi_none g
  | succ f ih => intro n K I F c z x2 g; exact w_X9_begin_s66 (N := N) ih g
def X9_begin (N : Nat) (a0 : Nat) (n : Nat) (K : am_K) (I : am_I) (F : am_F) (x1 : Int) : Option am_A :=
  am_lt (am_u2 I a0 1 1) (fun I_1 => if am_inI (x1 + 1) then am_lt (am_u2 I_1 a0 8 (x1 + 1)) (fun I_3 => if (K (F a0 12)).1 = 3 then am_cq (X3_boardsUpTo N K F I_3 (F a0 12) x1) (fun v_5 => if am_inI (v_5) then if am_inI (2 * v_5) then am_lt (am_u2 I_3 a0 2 (2 * v_5)) (fun I_8 => am_lt (am_u2 I_8 a0 9 0) (fun I_9 => am_lt (am_u2 I_9 a0 3 0) (fun I_10 => am_ca (X9_makeRoom N a0 n K I_10 F) (fun _ n_11 K_12 I_13 F_14 c_15 z_16 => am_mo (0 + c_15) (0 + z_16) (if (K_12 a0).1 = 9 then if (K_12 (F_14 a0 11)).1 = 1 then if am_inI (x1 - 1) then if (K_12 (F_14 a0 12)).1 = 3 then am_cq (X3_boardsUpTo N K_12 F_14 I_13 (F_14 a0 12) (x1 - 1)) (fun v_23 => if am_inI (v_23) then if am_inI ((I_13 (F_14 a0 11) 3) * v_23) then am_ca (X9_makeMoveRoom N a0 n_11 K_12 I_13 F_14 ((I_13 (F_14 a0 11) 3) * v_23)) (fun _ n_26 K_27 I_28 F_29 c_30 z_31 => am_mo ((0 + c_15) + c_30) ((0 + z_16) + z_31) (X9_begin_h66 N a0 N n_26 K_27 I_28 F_29 ((0 + c_15) + c_30) ((0 + z_16) + z_31) 0)) else none else none) else none else none else none else none))))) else none else none) else none) else none)
theorem w_X9_begin {η : am_E} {l : Launch} {N : Nat} {n : Nat} {K : am_K} {I : am_I} {F : am_F} {a0 : Nat} {r0 : am_A} {x1 : Int} (h0 : (K a0).1 = 9) : X9_begin N a0 n K I F x1 = some r0 → Ok η l (M_X9_begin (am_ac1 r0) (am_az1 r0)) (am_qm η (am_pA 0 r0) (am_ac1 r0) (am_az1 r0)) 0 [(0, qr a0), (1, qi x1)] [] n K I F 0 0 := by
  unfold X9_begin
  refine ok_aload_n (q := 1) 0 dX9_begin_0 rfl rfl rfl ?_
  refine ok_iconst (q := 2) (x := 1) dX9_begin_1 rfl rfl (by decide) ?_
  refine ok_putZ (q := 5) (ci := 9) (k := 1) dX9_begin_2 rfl fo_X9_45 h0 ft_9_1 (by decide) ff_9_1 (fun I_1 => ?_)
  refine ok_aload_n (q := 6) 0 dX9_begin_5 rfl rfl rfl ?_
  refine ok_iload_n (q := 7) 1 dX9_begin_6 rfl rfl rfl ?_
  refine ok_iconst (q := 8) (x := 1) dX9_begin_7 rfl rfl (by decide) ?_
  refine fi_chk (fun h_2 => ?_)
  refine ok_iadd (q := 9) dX9_begin_8 rfl h_2 ?_
  refine ok_putI (q := 12) (ci := 9) (k := 8) dX9_begin_9 rfl fo_X9_54 h0 ft_9_8 ff_9_8 (fun I_3 => ?_)
  refine ok_aload_n (q := 13) 0 dX9_begin_12 rfl rfl rfl ?_
  refine ok_iconst (q := 14) (x := 2) dX9_begin_13 rfl rfl (by decide) ?_
  refine ok_aload_n (q := 15) 0 dX9_begin_14 rfl rfl rfl ?_
  refine ok_getR (q := 18) (ci := 9) (k := 12) (x := F a0 12) dX9_begin_15 rfl fo_X9_37 h0 rfl ?_
  refine ok_iload_n (q := 19) 1 dX9_begin_18 rfl rfl rfl ?_
  refine fi_chk (fun h_4 => ?_)
  refine fi_callV2P (q := 22) (as := [qi x1]) (st := [qi 2, qr a0]) dX9_begin_19 rfl mo_X9_58 h_4 rfl (Nat.le_of_ble_eq_true rfl) rfl rfl (Nat.le_of_ble_eq_true rfl) (Nat.le_of_ble_eq_true rfl) (Nat.le_of_ble_eq_true rfl) (Nat.zero_le _) (Nat.zero_le _) (fun _ hr => ct_X3_boardsUpTo (N := N) h_4 hr) (fun v_5 => ?_)
  refine fi_chk (fun h_6 => ?_)
  refine ok_l2i (q := 23) dX9_begin_22 rfl h_6 ?_
  refine fi_chk (fun h_7 => ?_)
  refine ok_imul (q := 24) dX9_begin_23 rfl h_7 ?_
  refine ok_putI (q := 27) (ci := 9) (k := 2) dX9_begin_24 rfl fo_X9_64 h0 ft_9_2 ff_9_2 (fun I_8 => ?_)
  refine ok_aload_n (q := 28) 0 dX9_begin_27 rfl rfl rfl ?_
  refine ok_iconst (q := 29) (x := 0) dX9_begin_28 rfl rfl (by decide) ?_
  refine ok_putI (q := 32) (ci := 9) (k := 9) dX9_begin_29 rfl fo_X9_67 h0 ft_9_9 ff_9_9 (fun I_9 => ?_)
  refine ok_aload_n (q := 33) 0 dX9_begin_32 rfl rfl rfl ?_
  refine ok_iconst (q := 34) (x := 0) dX9_begin_33 rfl rfl (by decide) ?_
  refine ok_putI (q := 37) (ci := 9) (k := 3) dX9_begin_34 rfl fo_X9_70 h0 ft_9_3 ff_9_3 (fun I_10 => ?_)
  refine ok_aload_n (q := 38) 0 dX9_begin_37 rfl rfl rfl ?_
  refine fi_callV0A (q := 41) (as := []) (st := []) dX9_begin_38 rfl mo_X9_73 h0 rfl (Nat.le_of_ble_eq_true rfl) rfl rfl (Nat.le_of_ble_eq_true rfl) (Nat.le_of_ble_eq_true rfl) (Nat.le_of_ble_eq_true rfl) (Nat.le_refl _) (Nat.le_refl _) (fun _ hr => ct_X9_makeRoom (N := N) h0 hr) (fun _ n_11 K_12 I_13 F_14 c_15 z_16 hc_17 hz_18 => ?_)
  refine ok_aload_n (q := 42) 0 dX9_begin_41 rfl rfl rfl ?_
  refine ok_aload_n (q := 43) 0 dX9_begin_42 rfl rfl rfl ?_
  refine fi_chk (fun h_19 => ?_)
  refine ok_getR (q := 46) (ci := 9) (k := 11) (x := F_14 a0 11) dX9_begin_43 rfl fo_X9_33 h_19 rfl ?_
  refine fi_chk (fun h_20 => ?_)
  refine ok_getI (q := 49) (ci := 1) (k := 3) (x := I_13 (F_14 a0 11) 3) dX9_begin_46 rfl fo_X9_76 h_20 rfl ?_
  refine ok_aload_n (q := 50) 0 dX9_begin_49 rfl rfl rfl ?_
  refine ok_getR (q := 53) (ci := 9) (k := 12) (x := F_14 a0 12) dX9_begin_50 rfl fo_X9_37 h_19 rfl ?_
  refine ok_iload_n (q := 54) 1 dX9_begin_53 rfl rfl rfl ?_
  refine ok_iconst (q := 55) (x := 1) dX9_begin_54 rfl rfl (by decide) ?_
  refine fi_chk (fun h_21 => ?_)
  refine ok_isub (q := 56) dX9_begin_55 rfl h_21 ?_
  refine fi_chk (fun h_22 => ?_)
  refine fi_callV2P (q := 59) (as := [qi (x1 - 1)]) (st := [qi (I_13 (F_14 a0 11) 3), qr a0]) dX9_begin_56 rfl mo_X9_58 h_22 rfl (Nat.le_of_ble_eq_true rfl) rfl rfl (Nat.le_of_ble_eq_true rfl) (Nat.le_of_ble_eq_true rfl) (Nat.le_of_ble_eq_true rfl) hc_17 hz_18 (fun _ hr => ct_X3_boardsUpTo (N := N) h_22 hr) (fun v_23 => ?_)
  refine fi_chk (fun h_24 => ?_)
  refine ok_l2i (q := 60) dX9_begin_59 rfl h_24 ?_
  refine fi_chk (fun h_25 => ?_)
  refine ok_imul (q := 61) dX9_begin_60 rfl h_25 ?_
  refine fi_callV0A (q := 64) (as := [qi ((I_13 (F_14 a0 11) 3) * v_23)]) (st := []) dX9_begin_61 rfl mo_X9_81 h_19 rfl (Nat.le_of_ble_eq_true rfl) rfl rfl (Nat.le_of_ble_eq_true rfl) (Nat.le_of_ble_eq_true rfl) (Nat.le_of_ble_eq_true rfl) (Nat.le_refl _) (Nat.le_refl _) (fun _ hr => ct_X9_makeMoveRoom (N := N) h_19 hr) (fun _ n_26 K_27 I_28 F_29 c_30 z_31 hc_32 hz_33 => ?_)
  refine ok_iconst (q := 65) (x := 0) dX9_begin_64 rfl rfl (by decide) ?_
  refine ok_istore_n (q := 66) (ls' := [(2, qi 0), (0, qr a0), (1, qi x1)]) dX9_begin_65 rfl rfl (Nat.le_of_ble_eq_true rfl) rfl ?_
  exact fun g => ok_pick [1, 0] rfl (w_X9_begin_h66 (N := N) N _ _ _ _ _ _ _ g)
theorem ct_X9_begin {η : am_E} {l : Launch} {N : Nat} {n : Nat} {K : am_K} {I : am_I} {F : am_F} {a0 : Nat} {r0 : am_A} {x1 : Int} (h0 : (K a0).1 = 9) : X9_begin N a0 n K I F x1 = some r0 → am_Ct η l yX9_begin cX9_begin 3 none 4 91 (am_ac1 r0) (am_az1 r0) [qr a0, qi x1] n K I F (am_pA 0 r0) := fun g => am_Ct.of false (by decide) (by decide) (Nat.le_of_ble_eq_true rfl) (fun _ => w_X9_begin (N := N) h0 g)
def M_X9_layersLeft : am_M := (yX9_layersLeft.cls, cX9_layersLeft, 1, (some .int), am_room 0 0 0 0, false)
def X9_layersLeft (N : Nat) (K : am_K) (F : am_F) (I : am_I) (a0 : Nat) : Option Int :=
  if am_inI ((I a0 8) - (I a0 9)) then some ((I a0 8) - (I a0 9)) else none
theorem w_X9_layersLeft {η : am_E} {l : Launch} {N : Nat} {n : Nat} {K : am_K} {I : am_I} {F : am_F} {a0 : Nat} {r0 : Int} (h0 : (K a0).1 = 9) : X9_layersLeft N K F I a0 = some r0 → Ok η l M_X9_layersLeft (am_qm η (am_pS 1 (r0, I) n K F) 0 0) 0 [(0, qr a0)] [] n K I F 0 0 := by
  unfold X9_layersLeft
  refine ok_aload_n (q := 1) 0 dX9_layersLeft_0 rfl rfl rfl ?_
  refine ok_getI (q := 4) (ci := 9) (k := 8) (x := I a0 8) dX9_layersLeft_1 rfl fo_X9_54 h0 rfl ?_
  refine ok_aload_n (q := 5) 0 dX9_layersLeft_4 rfl rfl rfl ?_
  refine ok_getI (q := 8) (ci := 9) (k := 9) (x := I a0 9) dX9_layersLeft_5 rfl fo_X9_67 h0 rfl ?_
  refine fi_chk (fun h_1 => ?_)
  refine ok_isub (q := 9) dX9_layersLeft_8 rfl h_1 ?_
  exact fi_ireturnP dX9_layersLeft_9 rfl
theorem ct_X9_layersLeft {η : am_E} {l : Launch} {N : Nat} {n : Nat} {K : am_K} {I : am_I} {F : am_F} {a0 : Nat} {r0 : Int} (h0 : (K a0).1 = 9) : X9_layersLeft N K F I a0 = some r0 → am_Ct η l yX9_layersLeft cX9_layersLeft 1 (some .int) 0 0 0 0 [qr a0] n K I F (am_pS 1 (r0, I) n K F) := fun g => am_Ct.of false (by decide) (by decide) (Nat.le_of_ble_eq_true rfl) (fun _ => w_X9_layersLeft (N := N) h0 g)
def M_X9_has : am_M := (yX9_has.cls, cX9_has, 2, (some .boolean), am_room 0 0 0 0, false)
def X9_has_b17 (N : Nat) (K : am_K) (F : am_F) (I : am_I) (a0 : Nat) (s0 : Int) : Option Int :=
  if s0 = 0 ∨ s0 = 1 then some (s0) else none
theorem w_X9_has_b17 {η : am_E} {l : Launch} {N : Nat} {n : Nat} {K : am_K} {I : am_I} {F : am_F} {a0 : Nat} {r0 : Int} {s0 : Int} (h0 : (K a0).1 = 9) : X9_has_b17 N K F I a0 s0 = some r0 → Ok η l M_X9_has (am_qm η (am_pS 1 (r0, I) n K F) 0 0) 17 [(0, qr a0)] [qi s0] n K I F 0 0 := by
  unfold X9_has_b17
  refine fi_chk (fun h_1 => ?_)
  exact fi_zreturnP dX9_has_17 rfl h_1
def X9_has_b16 (N : Nat) (K : am_K) (F : am_F) (I : am_I) (a0 : Nat) : Option Int :=
  X9_has_b17 N K F I a0 0
theorem w_X9_has_b16 {η : am_E} {l : Launch} {N : Nat} {n : Nat} {K : am_K} {I : am_I} {F : am_F} {a0 : Nat} {r0 : Int} (h0 : (K a0).1 = 9) : X9_has_b16 N K F I a0 = some r0 → Ok η l M_X9_has (am_qm η (am_pS 1 (r0, I) n K F) 0 0) 16 [(0, qr a0)] [] n K I F 0 0 := by
  unfold X9_has_b16
  refine ok_iconst (q := 17) (x := 0) dX9_has_16 rfl rfl (by decide) ?_
  exact fun g => ok_pick [0] rfl (w_X9_has_b17 (N := N) h0 g)
def X9_has (N : Nat) (K : am_K) (F : am_F) (I : am_I) (a0 : Nat) (x1 : Int) : Option Int :=
  if 0 ≤ x1 then (if x1 < (I a0 2) then (X9_has_b17 N K F I a0 1) else (X9_has_b16 N K F I a0 )) else (X9_has_b16 N K F I a0 )
theorem w_X9_has {η : am_E} {l : Launch} {N : Nat} {n : Nat} {K : am_K} {I : am_I} {F : am_F} {a0 : Nat} {r0 : Int} {x1 : Int} (h0 : (K a0).1 = 9) : X9_has N K F I a0 x1 = some r0 → Ok η l M_X9_has (am_qm η (am_pS 1 (r0, I) n K F) 0 0) 0 [(0, qr a0), (1, qi x1)] [] n K I F 0 0 := by
  unfold X9_has
  refine ok_iload_n (q := 1) 1 dX9_has_0 rfl rfl rfl ?_
  refine ok_if_lt (q := 16) (q2 := 4) dX9_has_1 rfl rfl ?_ ?_
  · skip
    exact fun g => ok_pick [0] rfl (w_X9_has_b16 (N := N) h0 g)
  · skip
    refine ok_iload_n (q := 5) 1 dX9_has_4 rfl rfl rfl ?_
    refine ok_aload_n (q := 6) 0 dX9_has_5 rfl rfl rfl ?_
    refine ok_getI (q := 9) (ci := 9) (k := 2) (x := I a0 2) dX9_has_6 rfl fo_X9_64 h0 rfl ?_
    refine ok_icmp_ge (q := 16) (q2 := 12) dX9_has_9 rfl rfl ?_ ?_
    · skip
      exact fun g => ok_pick [0] rfl (w_X9_has_b16 (N := N) h0 g)
    · skip
      refine ok_iconst (q := 13) (x := 1) dX9_has_12 rfl rfl (by decide) ?_
      refine ok_goto (q := 17) dX9_has_13 rfl ?_
      exact fun g => ok_pick [0] rfl (w_X9_has_b17 (N := N) h0 g)
theorem ct_X9_has {η : am_E} {l : Launch} {N : Nat} {n : Nat} {K : am_K} {I : am_I} {F : am_F} {a0 : Nat} {r0 : Int} {x1 : Int} (h0 : (K a0).1 = 9) : X9_has N K F I a0 x1 = some r0 → am_Ct η l yX9_has cX9_has 2 (some .boolean) 0 0 0 0 [qr a0, qi x1] n K I F (am_pS 1 (r0, I) n K F) := fun g => am_Ct.of false (by decide) (by decide) (Nat.le_of_ble_eq_true rfl) (fun _ => w_X9_has (N := N) h0 g)
def M_X9_whyNotSolved : am_M := (yX9_whyNotSolved.cls, cX9_whyNotSolved, 2, (some .int), am_room 1 21 0 0, false)
def X9_whyNotSolved_b34 (N : Nat) (K : am_K) (F : am_F) (I : am_I) (a0 : Nat) (s0 : Int) : Option Int :=
  some (s0)
theorem w_X9_whyNotSolved_b34 {η : am_E} {l : Launch} {N : Nat} {n : Nat} {K : am_K} {I : am_I} {F : am_F} {a0 : Nat} {r0 : Int} {s0 : Int} (h0 : (K a0).1 = 9) : X9_whyNotSolved_b34 N K F I a0 s0 = some r0 → Ok η l M_X9_whyNotSolved (am_qm η (am_pS 1 (r0, I) n K F) 0 0) 34 [(0, qr a0)] [qi s0] n K I F 0 0 := by
  unfold X9_whyNotSolved_b34
  exact fi_ireturnP dX9_whyNotSolved_34 rfl
def X9_whyNotSolved (N : Nat) (K : am_K) (F : am_F) (I : am_I) (a0 : Nat) (x1 : Int) : Option Int :=
  if (I a0 1) = 0 then (some (9)) else (am_cq (X9_has N K F I a0 x1) (fun v_1 => if v_1 = 0 then (some (3)) else (if x1 < (I a0 3) then (X9_whyNotSolved_b34 N K F I a0 0) else (X9_whyNotSolved_b34 N K F I a0 9))))
theorem w_X9_whyNotSolved {η : am_E} {l : Launch} {N : Nat} {n : Nat} {K : am_K} {I : am_I} {F : am_F} {a0 : Nat} {r0 : Int} {x1 : Int} (h0 : (K a0).1 = 9) : X9_whyNotSolved N K F I a0 x1 = some r0 → Ok η l M_X9_whyNotSolved (am_qm η (am_pS 1 (r0, I) n K F) 0 0) 0 [(0, qr a0), (1, qi x1)] [] n K I F 0 0 := by
  unfold X9_whyNotSolved
  refine ok_aload_n (q := 1) 0 dX9_whyNotSolved_0 rfl rfl rfl ?_
  refine ok_getI (q := 4) (ci := 9) (k := 1) (x := I a0 1) dX9_whyNotSolved_1 rfl fo_X9_45 h0 rfl ?_
  refine ok_if_ne (q := 10) (q2 := 7) dX9_whyNotSolved_4 rfl rfl ?_ ?_
  · skip
    refine ok_aload_n (q := 11) 0 dX9_whyNotSolved_10 rfl rfl rfl ?_
    refine ok_iload_n (q := 12) 1 dX9_whyNotSolved_11 rfl rfl rfl ?_
    refine fi_callV1P (q := 15) (as := [qi x1]) (st := []) dX9_whyNotSolved_12 rfl mo_X9_85 h0 rfl (Nat.le_of_ble_eq_true rfl) rfl rfl (Nat.le_of_ble_eq_true rfl) (Nat.le_of_ble_eq_true rfl) (Nat.le_of_ble_eq_true rfl) (Nat.zero_le _) (Nat.zero_le _) (fun _ hr => ct_X9_has (N := N) h0 hr) (fun v_1 => ?_)
    refine ok_if_ne (q := 20) (q2 := 18) dX9_whyNotSolved_15 rfl rfl ?_ ?_
    · skip
      refine ok_iload_n (q := 21) 1 dX9_whyNotSolved_20 rfl rfl rfl ?_
      refine ok_aload_n (q := 22) 0 dX9_whyNotSolved_21 rfl rfl rfl ?_
      refine ok_getI (q := 25) (ci := 9) (k := 3) (x := I a0 3) dX9_whyNotSolved_22 rfl fo_X9_70 h0 rfl ?_
      refine ok_icmp_ge (q := 32) (q2 := 28) dX9_whyNotSolved_25 rfl rfl ?_ ?_
      · skip
        refine ok_bipush (q := 34) (x := 9) dX9_whyNotSolved_32 rfl rfl (by decide) ?_
        exact fun g => ok_pick [0] rfl (w_X9_whyNotSolved_b34 (N := N) h0 g)
      · skip
        refine ok_iconst (q := 29) (x := 0) dX9_whyNotSolved_28 rfl rfl (by decide) ?_
        refine ok_goto (q := 34) dX9_whyNotSolved_29 rfl ?_
        exact fun g => ok_pick [0] rfl (w_X9_whyNotSolved_b34 (N := N) h0 g)
    · skip
      refine ok_iconst (q := 19) (x := 3) dX9_whyNotSolved_18 rfl rfl (by decide) ?_
      exact fi_ireturnP dX9_whyNotSolved_19 rfl
  · skip
    refine ok_bipush (q := 9) (x := 9) dX9_whyNotSolved_7 rfl rfl (by decide) ?_
    exact fi_ireturnP dX9_whyNotSolved_9 rfl
theorem ct_X9_whyNotSolved {η : am_E} {l : Launch} {N : Nat} {n : Nat} {K : am_K} {I : am_I} {F : am_F} {a0 : Nat} {r0 : Int} {x1 : Int} (h0 : (K a0).1 = 9) : X9_whyNotSolved N K F I a0 x1 = some r0 → am_Ct η l yX9_whyNotSolved cX9_whyNotSolved 2 (some .int) 1 21 0 0 [qr a0, qi x1] n K I F (am_pS 1 (r0, I) n K F) := fun g => am_Ct.of false (by decide) (by decide) (Nat.le_of_ble_eq_true rfl) (fun _ => w_X9_whyNotSolved (N := N) h0 g)
def M_X9_solveNextLayer (mc ms : Nat) : am_M := (yX9_solveNextLayer.cls, cX9_solveNextLayer, 2, none, am_room 6 149 mc ms, false)
def X9_solveNextLayer (N : Nat) (a0 : Nat) (n : Nat) (K : am_K) (I : am_I) (F : am_F) : Option am_A :=
  if (K (F a0 12)).1 = 3 then am_cq (X3_boardsUpTo N K F I (F a0 12) (I a0 9)) (fun v_2 => if am_inI (v_2) then if am_inI (2 * v_2) then am_lt (2 * v_2) (fun x1_5 => if (K (F a0 0)).1 = 0 then am_cl (X0_buildLayer N K F (F a0 0) I (I a0 9)) (fun _ I_7 => if (K (F a0 10)).1 = 7 then am_ca (X7_solveLayer N (F a0 10) n K I_7 F (I_7 a0 3) x1_5 (F a0 4) (F a0 5)) (fun _ n_9 K_10 I_11 F_12 c_13 z_14 => am_mo (0 + c_13) (0 + z_14) (if (K_10 a0).1 = 9 then if am_inI ((I_11 a0 9) + 1) then am_lt (am_u2 I_11 a0 9 ((I_11 a0 9) + 1)) (fun I_19 => am_lt (am_u2 I_19 a0 3 x1_5) (fun I_20 => some (0, n_9, K_10, I_20, F_12, (0 + c_13), (0 + z_14)))) else none else none)) else none) else none) else none else none) else none
theorem w_X9_solveNextLayer {η : am_E} {l : Launch} {N : Nat} {n : Nat} {K : am_K} {I : am_I} {F : am_F} {a0 : Nat} {r0 : am_A} (h0 : (K a0).1 = 9) : X9_solveNextLayer N a0 n K I F = some r0 → Ok η l (M_X9_solveNextLayer (am_ac1 r0) (am_az1 r0)) (am_qm η (am_pA 0 r0) (am_ac1 r0) (am_az1 r0)) 0 [(0, qr a0)] [] n K I F 0 0 := by
  unfold X9_solveNextLayer
  refine ok_iconst (q := 1) (x := 2) dX9_solveNextLayer_0 rfl rfl (by decide) ?_
  refine ok_aload_n (q := 2) 0 dX9_solveNextLayer_1 rfl rfl rfl ?_
  refine ok_getR (q := 5) (ci := 9) (k := 12) (x := F a0 12) dX9_solveNextLayer_2 rfl fo_X9_37 h0 rfl ?_
  refine ok_aload_n (q := 6) 0 dX9_solveNextLayer_5 rfl rfl rfl ?_
  refine ok_getI (q := 9) (ci := 9) (k := 9) (x := I a0 9) dX9_solveNextLayer_6 rfl fo_X9_67 h0 rfl ?_
  refine fi_chk (fun h_1 => ?_)
  refine fi_callV2P (q := 12) (as := [qi (I a0 9)]) (st := [qi 2]) dX9_solveNextLayer_9 rfl mo_X9_58 h_1 rfl (Nat.le_of_ble_eq_true rfl) rfl rfl (Nat.le_of_ble_eq_true rfl) (Nat.le_of_ble_eq_true rfl) (Nat.le_of_ble_eq_true rfl) (Nat.zero_le _) (Nat.zero_le _) (fun _ hr => ct_X3_boardsUpTo (N := N) h_1 hr) (fun v_2 => ?_)
  refine fi_chk (fun h_3 => ?_)
  refine ok_l2i (q := 13) dX9_solveNextLayer_12 rfl h_3 ?_
  refine fi_chk (fun h_4 => ?_)
  refine ok_imul (q := 14) dX9_solveNextLayer_13 rfl h_4 ?_
  refine ok_istore_nL (q := 15) (fun x1_5 => [(1, qi x1_5), (0, qr a0)]) dX9_solveNextLayer_14 rfl rfl (Nat.le_of_ble_eq_true rfl) (fun _ => rfl) (fun x1_5 => ?_)
  refine ok_aload_n (q := 16) 1 dX9_solveNextLayer_15 rfl rfl rfl ?_
  refine ok_getR (q := 19) (ci := 9) (k := 0) (x := F a0 0) dX9_solveNextLayer_16 rfl fo_X9_41 h0 rfl ?_
  refine ok_aload_n (q := 20) 1 dX9_solveNextLayer_19 rfl rfl rfl ?_
  refine ok_getI (q := 23) (ci := 9) (k := 9) (x := I a0 9) dX9_solveNextLayer_20 rfl fo_X9_67 h0 rfl ?_
  refine fi_chk (fun h_6 => ?_)
  refine fi_callV0S (q := 26) (as := [qi (I a0 9)]) (st := []) dX9_solveNextLayer_23 rfl mo_X9_89 h_6 rfl (Nat.le_of_ble_eq_true rfl) rfl rfl (Nat.le_of_ble_eq_true rfl) (Nat.le_of_ble_eq_true rfl) (Nat.le_of_ble_eq_true rfl) (Nat.zero_le _) (Nat.zero_le _) (fun _ hr => ct_X0_buildLayer (N := N) h_6 hr) (fun _ I_7 => ?_)
  refine ok_aload_n (q := 27) 1 dX9_solveNextLayer_26 rfl rfl rfl ?_
  refine ok_getR (q := 30) (ci := 9) (k := 10) (x := F a0 10) dX9_solveNextLayer_27 rfl fo_X9_29 h0 rfl ?_
  refine ok_aload_n (q := 31) 1 dX9_solveNextLayer_30 rfl rfl rfl ?_
  refine ok_getI (q := 34) (ci := 9) (k := 3) (x := I_7 a0 3) dX9_solveNextLayer_31 rfl fo_X9_70 h0 rfl ?_
  refine ok_iload_n (q := 35) 0 dX9_solveNextLayer_34 rfl rfl rfl ?_
  refine ok_aload_n (q := 36) 1 dX9_solveNextLayer_35 rfl rfl rfl ?_
  refine ok_getR (q := 39) (ci := 9) (k := 4) (x := F a0 4) dX9_solveNextLayer_36 rfl fo_X9_9 h0 rfl ?_
  refine ok_aload_n (q := 40) 1 dX9_solveNextLayer_39 rfl rfl rfl ?_
  refine ok_getR (q := 43) (ci := 9) (k := 5) (x := F a0 5) dX9_solveNextLayer_40 rfl fo_X9_15 h0 rfl ?_
  refine fi_chk (fun h_8 => ?_)
  refine fi_callV0A (q := 46) (as := [qi (I_7 a0 3), qi x1_5, qr (F a0 4), qr (F a0 5)]) (st := []) dX9_solveNextLayer_43 rfl mo_X9_92 h_8 rfl (Nat.le_of_ble_eq_true rfl) rfl rfl (Nat.le_of_ble_eq_true rfl) (Nat.le_of_ble_eq_true rfl) (Nat.le_of_ble_eq_true rfl) (Nat.le_refl _) (Nat.le_refl _) (fun _ hr => ct_X7_solveLayer (N := N) h_8 hr) (fun _ n_9 K_10 I_11 F_12 c_13 z_14 hc_15 hz_16 => ?_)
  refine ok_aload_n (q := 47) 1 dX9_solveNextLayer_46 rfl rfl rfl ?_
  refine ok_dup (q := 48) dX9_solveNextLayer_47 rfl rfl ?_
  refine fi_chk (fun h_17 => ?_)
  refine ok_getI (q := 51) (ci := 9) (k := 9) (x := I_11 a0 9) dX9_solveNextLayer_48 rfl fo_X9_67 h_17 rfl ?_
  refine ok_iconst (q := 52) (x := 1) dX9_solveNextLayer_51 rfl rfl (by decide) ?_
  refine fi_chk (fun h_18 => ?_)
  refine ok_iadd (q := 53) dX9_solveNextLayer_52 rfl h_18 ?_
  refine ok_putI (q := 56) (ci := 9) (k := 9) dX9_solveNextLayer_53 rfl fo_X9_67 h_17 ft_9_9 ff_9_9 (fun I_19 => ?_)
  refine ok_aload_n (q := 57) 1 dX9_solveNextLayer_56 rfl rfl rfl ?_
  refine ok_iload_n (q := 58) 0 dX9_solveNextLayer_57 rfl rfl rfl ?_
  refine ok_putI (q := 61) (ci := 9) (k := 3) dX9_solveNextLayer_58 rfl fo_X9_70 h_17 ft_9_3 ff_9_3 (fun I_20 => ?_)
  exact fi_returnA dX9_solveNextLayer_61 rfl
theorem ct_X9_solveNextLayer {η : am_E} {l : Launch} {N : Nat} {n : Nat} {K : am_K} {I : am_I} {F : am_F} {a0 : Nat} {r0 : am_A} (h0 : (K a0).1 = 9) : X9_solveNextLayer N a0 n K I F = some r0 → am_Ct η l yX9_solveNextLayer cX9_solveNextLayer 2 none 6 149 (am_ac1 r0) (am_az1 r0) [qr a0] n K I F (am_pA 0 r0) := fun g => am_Ct.of false (by decide) (by decide) (Nat.le_of_ble_eq_true rfl) (fun _ => w_X9_solveNextLayer (N := N) h0 g)
def M_X9_countOf : am_M := (yX9_countOf.cls, cX9_countOf, 4, (some .int), am_room 0 0 0 0, false)
def X9_countOf_b25 (N : Nat) (K : am_K) (F : am_F) (I : am_I) (a0 : Nat) (k4 : Int → Int → Int → Option Int) (x1 : Int) (x2 : Int) (x3 : Int) : Option Int :=
  if am_inI (x3 + 1) then am_lt (x3 + 1) (fun x3_2 => k4 x1 x2 x3_2) else none
theorem w_X9_countOf_b25 {η : am_E} {l : Launch} {N : Nat} {n : Nat} {K : am_K} {I : am_I} {F : am_F} {a0 : Nat} {r0 : Int} {k4 : Int → Int → Int → Option Int} {x1 : Int} {x2 : Int} {x3 : Int} (h0 : (K a0).1 = 9) (H4 : ∀ (x1 : Int) (x2 : Int) (x3 : Int), k4 x1 x2 x3 = some r0 → Ok η l M_X9_countOf (am_qm η (am_pS 1 (r0, I) n K F) 0 0) 4 [(0, qr a0), (1, qi x1), (2, qi x2), (3, qi x3)] [] n K I F 0 0) : X9_countOf_b25 N K F I a0 k4 x1 x2 x3 = some r0 → Ok η l M_X9_countOf (am_qm η (am_pS 1 (r0, I) n K F) 0 0) 25 [(0, qr a0), (1, qi x1), (2, qi x2), (3, qi x3)] [] n K I F 0 0 := by
  unfold X9_countOf_b25
  refine fi_chk (fun h_1 => ?_)
  refine ok_iincL (q := 28) (fun x3_2 => [(3, qi x3_2), (0, qr a0), (1, qi x1), (2, qi x2)]) 3 dX9_countOf_25 rfl rfl h_1 (Nat.le_of_ble_eq_true rfl) (fun _ => rfl) (fun x3_2 => ?_)
  refine ok_goto (q := 4) dX9_countOf_28 rfl ?_
  exact fun g => ok_pick [1, 2, 3, 0] rfl (H4 _ _ _ g)
def X9_countOf_s4 (N : Nat) (K : am_K) (F : am_F) (I : am_I) (a0 : Nat) (k4 : Int → Int → Int → Option Int) (x1 : Int) (x2 : Int) (x3 : Int) : Option Int :=
  if x3 < (I a0 3) then (if (K (F a0 4)).1 = 100 then if (0 : Int) ≤ x3 ∧ x3 < (K (F a0 4)).2 then if (I (F a0 4) x3) = x1 then (if am_inI (x2 + 1) then am_lt (x2 + 1) (fun x2_4 => X9_countOf_b25 N K F I a0 k4 x1 x2_4 x3) else none) else (X9_countOf_b25 N K F I a0 k4 x1 x2 x3) else none else none) else (some (x2))
theorem w_X9_countOf_s4 {η : am_E} {l : Launch} {N : Nat} {n : Nat} {K : am_K} {I : am_I} {F : am_F} {a0 : Nat} {r0 : Int} {k4 : Int → Int → Int → Option Int} {x1 : Int} {x2 : Int} {x3 : Int} (h0 : (K a0).1 = 9) (H4 : ∀ (x1 : Int) (x2 : Int) (x3 : Int), k4 x1 x2 x3 = some r0 → Ok η l M_X9_countOf (am_qm η (am_pS 1 (r0, I) n K F) 0 0) 4 [(0, qr a0), (1, qi x1), (2, qi x2), (3, qi x3)] [] n K I F 0 0) : X9_countOf_s4 N K F I a0 k4 x1 x2 x3 = some r0 → Ok η l M_X9_countOf (am_qm η (am_pS 1 (r0, I) n K F) 0 0) 4 [(0, qr a0), (1, qi x1), (2, qi x2), (3, qi x3)] [] n K I F 0 0 := by
  unfold X9_countOf_s4
  refine ok_iload_n (q := 5) 3 dX9_countOf_4 rfl rfl rfl ?_
  refine ok_aload_n (q := 6) 0 dX9_countOf_5 rfl rfl rfl ?_
  refine ok_getI (q := 9) (ci := 9) (k := 3) (x := I a0 3) dX9_countOf_6 rfl fo_X9_70 h0 rfl ?_
  refine ok_icmp_ge (q := 31) (q2 := 12) dX9_countOf_9 rfl rfl ?_ ?_
  · skip
    refine ok_iload_n (q := 32) 2 dX9_countOf_31 rfl rfl rfl ?_
    exact fi_ireturnP dX9_countOf_32 rfl
  · skip
    refine ok_aload_n (q := 13) 0 dX9_countOf_12 rfl rfl rfl ?_
    refine ok_getR (q := 16) (ci := 9) (k := 4) (x := F a0 4) dX9_countOf_13 rfl fo_X9_9 h0 rfl ?_
    refine ok_iload_n (q := 17) 3 dX9_countOf_16 rfl rfl rfl ?_
    refine fi_chk (fun h_1 => ?_)
    refine fi_chk (fun h_2 => ?_)
    refine ok_iaload (q := 18) (v := I (F a0 4) x3) dX9_countOf_17 rfl h_1 h_2.1 h_2.2 rfl ?_
    refine ok_iload_n (q := 19) 1 dX9_countOf_18 rfl rfl rfl ?_
    refine ok_icmp_ne (q := 25) (q2 := 22) dX9_countOf_19 rfl rfl ?_ ?_
    · skip
      exact fun g => ok_pick [0, 1, 2, 3] rfl (w_X9_countOf_b25 (N := N) h0 H4 g)
    · skip
      refine fi_chk (fun h_3 => ?_)
      refine ok_iincL (q := 25) (fun x2_4 => [(2, qi x2_4), (0, qr a0), (1, qi x1), (3, qi x3)]) 2 dX9_countOf_22 rfl rfl h_3 (Nat.le_of_ble_eq_true rfl) (fun _ => rfl) (fun x2_4 => ?_)
      exact fun g => ok_pick [1, 2, 0, 3] rfl (w_X9_countOf_b25 (N := N) h0 H4 g)
def X9_countOf_h4 (N : Nat) (K : am_K) (F : am_F) (I : am_I) (a0 : Nat) : Nat → Int → Int → Int → Option Int := am_it (fun kh => X9_countOf_s4 N K F I a0 kh) (fun _ _ _ => none)
theorem w_X9_countOf_h4 {η : am_E} {l : Launch} {N : Nat} {n : Nat} {K : am_K} {I : am_I} {F : am_F} {a0 : Nat} {r0 : Int} (h0 : (K a0).1 = 9) (f : Nat) : ∀ (x1 : Int) (x2 : Int) (x3 : Int), X9_countOf_h4 N K F I a0 f x1 x2 x3 = some r0 → Ok η l M_X9_countOf (am_qm η (am_pS 1 (r0, I) n K F) 0 0) 4 [(0, qr a0), (1, qi x1), (2, qi x2), (3, qi x3)] [] n K I F 0 0 := by
  induction f with
  | zero => intro x1 x2 x3 g; exact fi_none g
  | succ f ih => intro x1 x2 x3 g; exact w_X9_countOf_s4 (N := N) h0 ih g
def X9_countOf (N : Nat) (K : am_K) (F : am_F) (I : am_I) (a0 : Nat) (x1 : Int) : Option Int :=
  X9_countOf_h4 N K F I a0 N x1 0 0
theorem w_X9_countOf {η : am_E} {l : Launch} {N : Nat} {n : Nat} {K : am_K} {I : am_I} {F : am_F} {a0 : Nat} {r0 : Int} {x1 : Int} (h0 : (K a0).1 = 9) : X9_countOf N K F I a0 x1 = some r0 → Ok η l M_X9_countOf (am_qm η (am_pS 1 (r0, I) n K F) 0 0) 0 [(0, qr a0), (1, qi x1)] [] n K I F 0 0 := by
  unfold X9_countOf
  refine ok_iconst (q := 1) (x := 0) dX9_countOf_0 rfl rfl (by decide) ?_
  refine ok_istore_n (q := 2) (ls' := [(2, qi 0), (0, qr a0), (1, qi x1)]) dX9_countOf_1 rfl rfl (Nat.le_of_ble_eq_true rfl) rfl ?_
  refine ok_iconst (q := 3) (x := 0) dX9_countOf_2 rfl rfl (by decide) ?_
  refine ok_istore_n (q := 4) (ls' := [(3, qi 0), (2, qi 0), (0, qr a0), (1, qi x1)]) dX9_countOf_3 rfl rfl (Nat.le_of_ble_eq_true rfl) rfl ?_
  exact fun g => ok_pick [2, 3, 1, 0] rfl (w_X9_countOf_h4 (N := N) h0 N _ _ _ g)
theorem ct_X9_countOf {η : am_E} {l : Launch} {N : Nat} {n : Nat} {K : am_K} {I : am_I} {F : am_F} {a0 : Nat} {r0 : Int} {x1 : Int} (h0 : (K a0).1 = 9) : X9_countOf N K F I a0 x1 = some r0 → am_Ct η l yX9_countOf cX9_countOf 4 (some .int) 0 0 0 0 [qr a0, qi x1] n K I F (am_pS 1 (r0, I) n K F) := fun g => am_Ct.of false (by decide) (by decide) (Nat.le_of_ble_eq_true rfl) (fun _ => w_X9_countOf (N := N) h0 g)
def M_X9_firstFrom : am_M := (yX9_firstFrom.cls, cX9_firstFrom, 4, (some .int), am_room 0 0 0 0, false)
def X9_firstFrom_s2 (N : Nat) (K : am_K) (F : am_F) (I : am_I) (a0 : Nat) (k2 : Int → Int → Option Int) (x2 : Int) (x3 : Int) : Option Int :=
  if x3 < (I a0 3) then (if (K (F a0 4)).1 = 100 then if (0 : Int) ≤ x3 ∧ x3 < (K (F a0 4)).2 then if (I (F a0 4) x3) = x2 then (some (x3)) else (if am_inI (x3 + 1) then am_lt (x3 + 1) (fun x3_4 => k2 x2 x3_4) else none) else none else none) else (some ((-1)))
theorem w_X9_firstFrom_s2 {η : am_E} {l : Launch} {N : Nat} {n : Nat} {K : am_K} {I : am_I} {F : am_F} {a0 : Nat} {r0 : Int} {k2 : Int → Int → Option Int} {x2 : Int} {x3 : Int} (h0 : (K a0).1 = 9) (H2 : ∀ (x2 : Int) (x3 : Int), k2 x2 x3 = some r0 → Ok η l M_X9_firstFrom (am_qm η (am_pS 1 (r0, I) n K F) 0 0) 2 [(0, qr a0), (2, qi x2), (3, qi x3)] [] n K I F 0 0) : X9_firstFrom_s2 N K F I a0 k2 x2 x3 = some r0 → Ok η l M_X9_firstFrom (am_qm η (am_pS 1 (r0, I) n K F) 0 0) 2 [(0, qr a0), (2, qi x2), (3, qi x3)] [] n K I F 0 0 := by
  unfold X9_firstFrom_s2
  refine ok_iload_n (q := 3) 2 dX9_firstFrom_2 rfl rfl rfl ?_
  refine ok_aload_n (q := 4) 0 dX9_firstFrom_3 rfl rfl rfl ?_
  refine ok_getI (q := 7) (ci := 9) (k := 3) (x := I a0 3) dX9_firstFrom_4 rfl fo_X9_70 h0 rfl ?_
  refine ok_icmp_ge (q := 28) (q2 := 10) dX9_firstFrom_7 rfl rfl ?_ ?_
  · skip
    refine ok_iconst (q := 29) (x := -1) dX9_firstFrom_28 rfl rfl (by decide) ?_
    exact fi_ireturnP dX9_firstFrom_29 rfl
  · skip
    refine ok_aload_n (q := 11) 0 dX9_firstFrom_10 rfl rfl rfl ?_
    refine ok_getR (q := 14) (ci := 9) (k := 4) (x := F a0 4) dX9_firstFrom_11 rfl fo_X9_9 h0 rfl ?_
    refine ok_iload_n (q := 15) 2 dX9_firstFrom_14 rfl rfl rfl ?_
    refine fi_chk (fun h_1 => ?_)
    refine fi_chk (fun h_2 => ?_)
    refine ok_iaload (q := 16) (v := I (F a0 4) x3) dX9_firstFrom_15 rfl h_1 h_2.1 h_2.2 rfl ?_
    refine ok_iload_n (q := 17) 1 dX9_firstFrom_16 rfl rfl rfl ?_
    refine ok_icmp_ne (q := 22) (q2 := 20) dX9_firstFrom_17 rfl rfl ?_ ?_
    · skip
      refine fi_chk (fun h_3 => ?_)
      refine ok_iincL (q := 25) (fun x3_4 => [(3, qi x3_4), (0, qr a0), (2, qi x2)]) 2 dX9_firstFrom_22 rfl rfl h_3 (Nat.le_of_ble_eq_true rfl) (fun _ => rfl) (fun x3_4 => ?_)
      refine ok_goto (q := 2) dX9_firstFrom_25 rfl ?_
      exact fun g => ok_pick [1, 2, 0] rfl (H2 _ _ g)
    · skip
      refine ok_iload_n (q := 21) 2 dX9_firstFrom_20 rfl rfl rfl ?_
      exact fi_ireturnP dX9_firstFrom_21 rfl
def X9_firstFrom_h2 (N : Nat) (K : am_K) (F : am_F) (I : am_I) (a0 : Nat) : Nat → Int → Int → Option Int := am_it (fun kh => X9_firstFrom_s2 N K F I a0 kh) (fun _ _ => none)
theorem w_X9_firstFrom_h2 {η : am_E} {l : Launch} {N : Nat} {n : Nat} {K : am_K} {I : am_I} {F : am_F} {a0 : Nat} {r0 : Int} (h0 : (K a0).1 = 9) (f : Nat) : ∀ (x2 : Int) (x3 : Int), X9_firstFrom_h2 N K F I a0 f x2 x3 = some r0 → Ok η l M_X9_firstFrom (am_qm η (am_pS 1 (r0, I) n K F) 0 0) 2 [(0, qr a0), (2, qi x2), (3, qi x3)] [] n K I F 0 0 := by
  induction f with
  | zero => intro x2 x3 g; exact fi_none g
  | succ f ih => intro x2 x3 g; exact w_X9_firstFrom_s2 (N := N) h0 ih g
def X9_firstFrom (N : Nat) (K : am_K) (F : am_F) (I : am_I) (a0 : Nat) (x1 : Int) (x2 : Int) : Option Int :=
  X9_firstFrom_h2 N K F I a0 N x2 x1
theorem w_X9_firstFrom {η : am_E} {l : Launch} {N : Nat} {n : Nat} {K : am_K} {I : am_I} {F : am_F} {a0 : Nat} {r0 : Int} {x1 : Int} {x2 : Int} (h0 : (K a0).1 = 9) : X9_firstFrom N K F I a0 x1 x2 = some r0 → Ok η l M_X9_firstFrom (am_qm η (am_pS 1 (r0, I) n K F) 0 0) 0 [(0, qr a0), (1, qi x1), (2, qi x2)] [] n K I F 0 0 := by
  unfold X9_firstFrom
  refine ok_iload_n (q := 1) 1 dX9_firstFrom_0 rfl rfl rfl ?_
  refine ok_istore_n (q := 2) (ls' := [(3, qi x1), (0, qr a0), (1, qi x1), (2, qi x2)]) dX9_firstFrom_1 rfl rfl (Nat.le_of_ble_eq_true rfl) rfl ?_
  exact fun g => ok_pick [1, 3, 0] rfl (w_X9_firstFrom_h2 (N := N) h0 N _ _ g)
theorem ct_X9_firstFrom {η : am_E} {l : Launch} {N : Nat} {n : Nat} {K : am_K} {I : am_I} {F : am_F} {a0 : Nat} {r0 : Int} {x1 : Int} {x2 : Int} (h0 : (K a0).1 = 9) : X9_firstFrom N K F I a0 x1 x2 = some r0 → am_Ct η l yX9_firstFrom cX9_firstFrom 4 (some .int) 0 0 0 0 [qr a0, qi x1, qi x2] n K I F (am_pS 1 (r0, I) n K F) := fun g => am_Ct.of false (by decide) (by decide) (Nat.le_of_ble_eq_true rfl) (fun _ => w_X9_firstFrom (N := N) h0 g)
def M_X9_claimWhatIsSolved : am_M := (yX9_claimWhatIsSolved.cls, cX9_claimWhatIsSolved, 1, none, am_room 1 26 0 0, false)
def X9_claimWhatIsSolved (N : Nat) (K : am_K) (F : am_F) (a0 : Nat) (I : am_I) : Option (Int × am_I) :=
  if (K (F a0 4)).1 = 100 then if (K (F a0 6)).1 = 100 then if F a0 6 ≠ 1 then if F a0 4 ≠ 1 then if (0 : Int) ≤ 0 ∧ (0 : Int) ≤ 0 ∧ (0 : Int) ≤ (I a0 3) ∧ 0 + (I a0 3) ≤ (K (F a0 4)).2 ∧ 0 + (I a0 3) ≤ (K (F a0 6)).2 then am_lt (am_cp I (F a0 4) 0 (F a0 6) 0 (I a0 3)) (fun I_6 => if (K (F a0 5)).1 = 100 then if (K (F a0 7)).1 = 100 then if F a0 7 ≠ 1 then if F a0 5 ≠ 1 then if (0 : Int) ≤ 0 ∧ (0 : Int) ≤ 0 ∧ (0 : Int) ≤ (I_6 a0 3) ∧ 0 + (I_6 a0 3) ≤ (K (F a0 5)).2 ∧ 0 + (I_6 a0 3) ≤ (K (F a0 7)).2 then am_lt (am_cp I_6 (F a0 5) 0 (F a0 7) 0 (I_6 a0 3)) (fun I_12 => some (0, I_12)) else none else none else none else none else none) else none else none else none else none else none
theorem w_X9_claimWhatIsSolved {η : am_E} {l : Launch} {N : Nat} {n : Nat} {K : am_K} {I : am_I} {F : am_F} {a0 : Nat} {r0 : Int × am_I} (h0 : (K a0).1 = 9) : X9_claimWhatIsSolved N K F a0 I = some r0 → Ok η l M_X9_claimWhatIsSolved (am_qm η (am_pS 0 r0 n K F) 0 0) 0 [(0, qr a0)] [] n K I F 0 0 := by
  unfold X9_claimWhatIsSolved
  refine ok_aload_n (q := 1) 0 dX9_claimWhatIsSolved_0 rfl rfl rfl ?_
  refine ok_getR (q := 4) (ci := 9) (k := 4) (x := F a0 4) dX9_claimWhatIsSolved_1 rfl fo_X9_9 h0 rfl ?_
  refine ok_iconst (q := 5) (x := 0) dX9_claimWhatIsSolved_4 rfl rfl (by decide) ?_
  refine ok_aload_n (q := 6) 0 dX9_claimWhatIsSolved_5 rfl rfl rfl ?_
  refine ok_getR (q := 9) (ci := 9) (k := 6) (x := F a0 6) dX9_claimWhatIsSolved_6 rfl fo_X9_18 h0 rfl ?_
  refine ok_iconst (q := 10) (x := 0) dX9_claimWhatIsSolved_9 rfl rfl (by decide) ?_
  refine ok_aload_n (q := 11) 0 dX9_claimWhatIsSolved_10 rfl rfl rfl ?_
  refine ok_getI (q := 14) (ci := 9) (k := 3) (x := I a0 3) dX9_claimWhatIsSolved_11 rfl fo_X9_70 h0 rfl ?_
  refine fi_chk (fun h_1 => ?_)
  refine fi_chk (fun h_2 => ?_)
  refine fi_chk (fun h_3 => ?_)
  refine fi_chk (fun h_4 => ?_)
  refine fi_chk (fun h_5 => ?_)
  refine ok_arraycopy (q := 17) dX9_claimWhatIsSolved_14 rfl ac_X9_116 h_1 h_2 h_3 h_4 h_5 (Nat.le_of_ble_eq_true rfl) (Nat.le_of_ble_eq_true rfl) (Nat.le_of_ble_eq_true rfl) (fun I_6 => ?_)
  refine ok_aload_n (q := 18) 0 dX9_claimWhatIsSolved_17 rfl rfl rfl ?_
  refine ok_getR (q := 21) (ci := 9) (k := 5) (x := F a0 5) dX9_claimWhatIsSolved_18 rfl fo_X9_15 h0 rfl ?_
  refine ok_iconst (q := 22) (x := 0) dX9_claimWhatIsSolved_21 rfl rfl (by decide) ?_
  refine ok_aload_n (q := 23) 0 dX9_claimWhatIsSolved_22 rfl rfl rfl ?_
  refine ok_getR (q := 26) (ci := 9) (k := 7) (x := F a0 7) dX9_claimWhatIsSolved_23 rfl fo_X9_21 h0 rfl ?_
  refine ok_iconst (q := 27) (x := 0) dX9_claimWhatIsSolved_26 rfl rfl (by decide) ?_
  refine ok_aload_n (q := 28) 0 dX9_claimWhatIsSolved_27 rfl rfl rfl ?_
  refine ok_getI (q := 31) (ci := 9) (k := 3) (x := I_6 a0 3) dX9_claimWhatIsSolved_28 rfl fo_X9_70 h0 rfl ?_
  refine fi_chk (fun h_7 => ?_)
  refine fi_chk (fun h_8 => ?_)
  refine fi_chk (fun h_9 => ?_)
  refine fi_chk (fun h_10 => ?_)
  refine fi_chk (fun h_11 => ?_)
  refine ok_arraycopy (q := 34) dX9_claimWhatIsSolved_31 rfl ac_X9_116 h_7 h_8 h_9 h_10 h_11 (Nat.le_of_ble_eq_true rfl) (Nat.le_of_ble_eq_true rfl) (Nat.le_of_ble_eq_true rfl) (fun I_12 => ?_)
  exact fi_returnS dX9_claimWhatIsSolved_34 rfl
theorem ct_X9_claimWhatIsSolved {η : am_E} {l : Launch} {N : Nat} {n : Nat} {K : am_K} {I : am_I} {F : am_F} {a0 : Nat} {r0 : Int × am_I} (h0 : (K a0).1 = 9) : X9_claimWhatIsSolved N K F a0 I = some r0 → am_Ct η l yX9_claimWhatIsSolved cX9_claimWhatIsSolved 1 none 1 26 0 0 [qr a0] n K I F (am_pS 0 r0 n K F) := fun g => am_Ct.of false (by decide) (by decide) (Nat.le_of_ble_eq_true rfl) (fun _ => w_X9_claimWhatIsSolved (N := N) h0 g)
def M_X9_isClaimRight : am_M := (yX9_isClaimRight.cls, cX9_isClaimRight, 10, (some .boolean), am_room 2 42 0 0, false)
def X9_isClaimRight_b211 (N : Nat) (K : am_K) (F : am_F) (I : am_I) (a0 : Nat) (s0 : Int) : Option Int :=
  if s0 = 0 ∨ s0 = 1 then some (s0) else none
theorem w_X9_isClaimRight_b211 {η : am_E} {l : Launch} {N : Nat} {n : Nat} {K : am_K} {I : am_I} {F : am_F} {a0 : Nat} {r0 : Int} {s0 : Int} (h0 : (K a0).1 = 9) : X9_isClaimRight_b211 N K F I a0 s0 = some r0 → Ok η l M_X9_isClaimRight (am_qm η (am_pS 1 (r0, I) n K F) 0 0) 211 [(0, qr a0)] [qi s0] n K I F 0 0 := by
  unfold X9_isClaimRight_b211
  refine fi_chk (fun h_1 => ?_)
  exact fi_zreturnP dX9_isClaimRight_211 rfl h_1
def X9_isClaimRight_b210 (N : Nat) (K : am_K) (F : am_F) (I : am_I) (a0 : Nat) : Option Int :=
  X9_isClaimRight_b211 N K F I a0 0
theorem w_X9_isClaimRight_b210 {η : am_E} {l : Launch} {N : Nat} {n : Nat} {K : am_K} {I : am_I} {F : am_F} {a0 : Nat} {r0 : Int} (h0 : (K a0).1 = 9) : X9_isClaimRight_b210 N K F I a0 = some r0 → Ok η l M_X9_isClaimRight (am_qm η (am_pS 1 (r0, I) n K F) 0 0) 210 [(0, qr a0)] [] n K I F 0 0 := by
  unfold X9_isClaimRight_b210
  refine ok_iconst (q := 211) (x := 0) dX9_isClaimRight_210 rfl rfl (by decide) ?_
  exact fun g => ok_pick [0] rfl (w_X9_isClaimRight_b211 (N := N) h0 g)
def X9_isClaimRight_b206 (N : Nat) (K : am_K) (F : am_F) (I : am_I) (a0 : Nat) : Option Int :=
  X9_isClaimRight_b211 N K F I a0 1
theorem w_X9_isClaimRight_b206 {η : am_E} {l : Launch} {N : Nat} {n : Nat} {K : am_K} {I : am_I} {F : am_F} {a0 : Nat} {r0 : Int} (h0 : (K a0).1 = 9) : X9_isClaimRight_b206 N K F I a0 = some r0 → Ok η l M_X9_isClaimRight (am_qm η (am_pS 1 (r0, I) n K F) 0 0) 206 [(0, qr a0)] [] n K I F 0 0 := by
  unfold X9_isClaimRight_b206
  refine ok_iconst (q := 207) (x := 1) dX9_isClaimRight_206 rfl rfl (by decide) ?_
  refine ok_goto (q := 211) dX9_isClaimRight_207 rfl ?_
  exact fun g => ok_pick [0] rfl (w_X9_isClaimRight_b211 (N := N) h0 g)
def X9_isClaimRight_b197 (N : Nat) (K : am_K) (F : am_F) (I : am_I) (a0 : Nat) (x2 : Int) (x5 : Int) : Option Int :=
  if x2 < 0 then (if x5 = 0 then (X9_isClaimRight_b210 N K F I a0 ) else (X9_isClaimRight_b206 N K F I a0 )) else (X9_isClaimRight_b206 N K F I a0 )
theorem w_X9_isClaimRight_b197 {η : am_E} {l : Launch} {N : Nat} {n : Nat} {K : am_K} {I : am_I} {F : am_F} {a0 : Nat} {r0 : Int} {x2 : Int} {x5 : Int} (h0 : (K a0).1 = 9) : X9_isClaimRight_b197 N K F I a0 x2 x5 = some r0 → Ok η l M_X9_isClaimRight (am_qm η (am_pS 1 (r0, I) n K F) 0 0) 197 [(0, qr a0), (2, qi x2), (5, qi x5)] [] n K I F 0 0 := by
  unfold X9_isClaimRight_b197
  refine ok_iload_n (q := 198) 1 dX9_isClaimRight_197 rfl rfl rfl ?_
  refine ok_if_ge (q := 206) (q2 := 201) dX9_isClaimRight_198 rfl rfl ?_ ?_
  · skip
    exact fun g => ok_pick [0] rfl (w_X9_isClaimRight_b206 (N := N) h0 g)
  · skip
    refine ok_iload (q := 203) 2 dX9_isClaimRight_201 rfl rfl ?_
    refine ok_if_eq (q := 210) (q2 := 206) dX9_isClaimRight_203 rfl rfl ?_ ?_
    · skip
      exact fun g => ok_pick [0] rfl (w_X9_isClaimRight_b210 (N := N) h0 g)
    · skip
      exact fun g => ok_pick [0] rfl (w_X9_isClaimRight_b206 (N := N) h0 g)
def X9_isClaimRight_b178 (N : Nat) (K : am_K) (F : am_F) (I : am_I) (a0 : Nat) (k70 : Int → Int → Int → Int → Int → Int → Option Int) (x1 : Int) (x2 : Int) (x3 : Int) (x4 : Int) (x5 : Int) (x6 : Int) : Option Int :=
  if am_inI (x6 + 1) then am_lt (x6 + 1) (fun x6_2 => k70 x1 x2 x3 x4 x5 x6_2) else none
theorem w_X9_isClaimRight_b178 {η : am_E} {l : Launch} {N : Nat} {n : Nat} {K : am_K} {I : am_I} {F : am_F} {a0 : Nat} {r0 : Int} {k70 : Int → Int → Int → Int → Int → Int → Option Int} {x1 : Int} {x2 : Int} {x3 : Int} {x4 : Int} {x5 : Int} {x6 : Int} (h0 : (K a0).1 = 9) (H70 : ∀ (x1 : Int) (x2 : Int) (x3 : Int) (x4 : Int) (x5 : Int) (x6 : Int), k70 x1 x2 x3 x4 x5 x6 = some r0 → Ok η l M_X9_isClaimRight (am_qm η (am_pS 1 (r0, I) n K F) 0 0) 70 [(0, qr a0), (1, qi x1), (2, qi x2), (3, qi x3), (4, qi x4), (5, qi x5), (6, qi x6)] [] n K I F 0 0) : X9_isClaimRight_b178 N K F I a0 k70 x1 x2 x3 x4 x5 x6 = some r0 → Ok η l M_X9_isClaimRight (am_qm η (am_pS 1 (r0, I) n K F) 0 0) 178 [(0, qr a0), (1, qi x1), (2, qi x2), (3, qi x3), (4, qi x4), (5, qi x5), (6, qi x6)] [] n K I F 0 0 := by
  unfold X9_isClaimRight_b178
  refine fi_chk (fun h_1 => ?_)
  refine ok_iincL (q := 181) (fun x6_2 => [(6, qi x6_2), (0, qr a0), (1, qi x1), (2, qi x2), (3, qi x3), (4, qi x4), (5, qi x5)]) 6 dX9_isClaimRight_178 rfl rfl h_1 (Nat.le_of_ble_eq_true rfl) (fun _ => rfl) (fun x6_2 => ?_)
  refine ok_goto (q := 70) dX9_isClaimRight_181 rfl ?_
  exact fun g => ok_pick [1, 2, 3, 4, 5, 6, 0] rfl (H70 _ _ _ _ _ _ g)
def X9_isClaimRight_b176 (N : Nat) (K : am_K) (F : am_F) (I : am_I) (a0 : Nat) (k70 : Int → Int → Int → Int → Int → Int → Option Int) (x1 : Int) (x2 : Int) (x3 : Int) (x4 : Int) (x6 : Int) (s0 : Int) : Option Int :=
  X9_isClaimRight_b178 N K F I a0 k70 x1 x2 x3 x4 s0 x6
theorem w_X9_isClaimRight_b176 {η : am_E} {l : Launch} {N : Nat} {n : Nat} {K : am_K} {I : am_I} {F : am_F} {a0 : Nat} {r0 : Int} {k70 : Int → Int → Int → Int → Int → Int → Option Int} {x1 : Int} {x2 : Int} {x3 : Int} {x4 : Int} {x6 : Int} {s0 : Int} (h0 : (K a0).1 = 9) (H70 : ∀ (x1 : Int) (x2 : Int) (x3 : Int) (x4 : Int) (x5 : Int) (x6 : Int), k70 x1 x2 x3 x4 x5 x6 = some r0 → Ok η l M_X9_isClaimRight (am_qm η (am_pS 1 (r0, I) n K F) 0 0) 70 [(0, qr a0), (1, qi x1), (2, qi x2), (3, qi x3), (4, qi x4), (5, qi x5), (6, qi x6)] [] n K I F 0 0) : X9_isClaimRight_b176 N K F I a0 k70 x1 x2 x3 x4 x6 s0 = some r0 → Ok η l M_X9_isClaimRight (am_qm η (am_pS 1 (r0, I) n K F) 0 0) 176 [(0, qr a0), (1, qi x1), (2, qi x2), (3, qi x3), (4, qi x4), (6, qi x6)] [qi s0] n K I F 0 0 := by
  unfold X9_isClaimRight_b176
  refine ok_istore (q := 178) (ls' := [(5, qi s0), (0, qr a0), (1, qi x1), (2, qi x2), (3, qi x3), (4, qi x4), (6, qi x6)]) dX9_isClaimRight_176 rfl (Nat.le_of_ble_eq_true rfl) rfl ?_
  exact fun g => ok_pick [1, 2, 3, 4, 5, 0, 6] rfl (w_X9_isClaimRight_b178 (N := N) h0 H70 g)
def X9_isClaimRight_b175 (N : Nat) (K : am_K) (F : am_F) (I : am_I) (a0 : Nat) (k70 : Int → Int → Int → Int → Int → Int → Option Int) (x1 : Int) (x2 : Int) (x3 : Int) (x4 : Int) (x6 : Int) : Option Int :=
  X9_isClaimRight_b176 N K F I a0 k70 x1 x2 x3 x4 x6 0
theorem w_X9_isClaimRight_b175 {η : am_E} {l : Launch} {N : Nat} {n : Nat} {K : am_K} {I : am_I} {F : am_F} {a0 : Nat} {r0 : Int} {k70 : Int → Int → Int → Int → Int → Int → Option Int} {x1 : Int} {x2 : Int} {x3 : Int} {x4 : Int} {x6 : Int} (h0 : (K a0).1 = 9) (H70 : ∀ (x1 : Int) (x2 : Int) (x3 : Int) (x4 : Int) (x5 : Int) (x6 : Int), k70 x1 x2 x3 x4 x5 x6 = some r0 → Ok η l M_X9_isClaimRight (am_qm η (am_pS 1 (r0, I) n K F) 0 0) 70 [(0, qr a0), (1, qi x1), (2, qi x2), (3, qi x3), (4, qi x4), (5, qi x5), (6, qi x6)] [] n K I F 0 0) : X9_isClaimRight_b175 N K F I a0 k70 x1 x2 x3 x4 x6 = some r0 → Ok η l M_X9_isClaimRight (am_qm η (am_pS 1 (r0, I) n K F) 0 0) 175 [(0, qr a0), (1, qi x1), (2, qi x2), (3, qi x3), (4, qi x4), (6, qi x6)] [] n K I F 0 0 := by
  unfold X9_isClaimRight_b175
  refine ok_iconst (q := 176) (x := 0) dX9_isClaimRight_175 rfl rfl (by decide) ?_
  exact fun g => ok_pick [0, 1, 2, 3, 4, 5] rfl (w_X9_isClaimRight_b176 (N := N) h0 H70 g)
def X9_isClaimRight_b159 (N : Nat) (K : am_K) (F : am_F) (I : am_I) (a0 : Nat) (k70 : Int → Int → Int → Int → Int → Int → Option Int) (x1 : Int) (x2 : Int) (x3 : Int) (x5 : Int) (x6 : Int) (x9 : Int) (s0 : Int) : Option Int :=
  if x5 = 0 then (X9_isClaimRight_b175 N K F I a0 k70 x1 x2 x3 s0 x6) else (if x9 = 0 then (X9_isClaimRight_b175 N K F I a0 k70 x1 x2 x3 s0 x6) else (X9_isClaimRight_b176 N K F I a0 k70 x1 x2 x3 s0 x6 1))
theorem w_X9_isClaimRight_b159 {η : am_E} {l : Launch} {N : Nat} {n : Nat} {K : am_K} {I : am_I} {F : am_F} {a0 : Nat} {r0 : Int} {k70 : Int → Int → Int → Int → Int → Int → Option Int} {x1 : Int} {x2 : Int} {x3 : Int} {x5 : Int} {x6 : Int} {x9 : Int} {s0 : Int} (h0 : (K a0).1 = 9) (H70 : ∀ (x1 : Int) (x2 : Int) (x3 : Int) (x4 : Int) (x5 : Int) (x6 : Int), k70 x1 x2 x3 x4 x5 x6 = some r0 → Ok η l M_X9_isClaimRight (am_qm η (am_pS 1 (r0, I) n K F) 0 0) 70 [(0, qr a0), (1, qi x1), (2, qi x2), (3, qi x3), (4, qi x4), (5, qi x5), (6, qi x6)] [] n K I F 0 0) : X9_isClaimRight_b159 N K F I a0 k70 x1 x2 x3 x5 x6 x9 s0 = some r0 → Ok η l M_X9_isClaimRight (am_qm η (am_pS 1 (r0, I) n K F) 0 0) 159 [(0, qr a0), (1, qi x1), (2, qi x2), (3, qi x3), (5, qi x5), (6, qi x6), (9, qi x9)] [qi s0] n K I F 0 0 := by
  unfold X9_isClaimRight_b159
  refine ok_istore (q := 161) (ls' := [(4, qi s0), (0, qr a0), (1, qi x1), (2, qi x2), (3, qi x3), (5, qi x5), (6, qi x6), (9, qi x9)]) dX9_isClaimRight_159 rfl (Nat.le_of_ble_eq_true rfl) rfl ?_
  refine ok_iload (q := 163) 5 dX9_isClaimRight_161 rfl rfl ?_
  refine ok_if_eq (q := 175) (q2 := 166) dX9_isClaimRight_163 rfl rfl ?_ ?_
  · skip
    exact fun g => ok_pick [1, 2, 3, 4, 0, 6] rfl (w_X9_isClaimRight_b175 (N := N) h0 H70 g)
  · skip
    refine ok_iload (q := 168) 7 dX9_isClaimRight_166 rfl rfl ?_
    refine ok_if_eq (q := 175) (q2 := 171) dX9_isClaimRight_168 rfl rfl ?_ ?_
    · skip
      exact fun g => ok_pick [1, 2, 3, 4, 0, 6] rfl (w_X9_isClaimRight_b175 (N := N) h0 H70 g)
    · skip
      refine ok_iconst (q := 172) (x := 1) dX9_isClaimRight_171 rfl rfl (by decide) ?_
      refine ok_goto (q := 176) dX9_isClaimRight_172 rfl ?_
      exact fun g => ok_pick [1, 2, 3, 4, 0, 6] rfl (w_X9_isClaimRight_b176 (N := N) h0 H70 g)
def X9_isClaimRight_b154 (N : Nat) (K : am_K) (F : am_F) (I : am_I) (a0 : Nat) (k70 : Int → Int → Int → Int → Int → Int → Option Int) (x1 : Int) (x2 : Int) (x3 : Int) (x5 : Int) (x6 : Int) (x9 : Int) : Option Int :=
  X9_isClaimRight_b159 N K F I a0 k70 x1 x2 x3 x5 x6 x9 1
theorem w_X9_isClaimRight_b154 {η : am_E} {l : Launch} {N : Nat} {n : Nat} {K : am_K} {I : am_I} {F : am_F} {a0 : Nat} {r0 : Int} {k70 : Int → Int → Int → Int → Int → Int → Option Int} {x1 : Int} {x2 : Int} {x3 : Int} {x5 : Int} {x6 : Int} {x9 : Int} (h0 : (K a0).1 = 9) (H70 : ∀ (x1 : Int) (x2 : Int) (x3 : Int) (x4 : Int) (x5 : Int) (x6 : Int), k70 x1 x2 x3 x4 x5 x6 = some r0 → Ok η l M_X9_isClaimRight (am_qm η (am_pS 1 (r0, I) n K F) 0 0) 70 [(0, qr a0), (1, qi x1), (2, qi x2), (3, qi x3), (4, qi x4), (5, qi x5), (6, qi x6)] [] n K I F 0 0) : X9_isClaimRight_b154 N K F I a0 k70 x1 x2 x3 x5 x6 x9 = some r0 → Ok η l M_X9_isClaimRight (am_qm η (am_pS 1 (r0, I) n K F) 0 0) 154 [(0, qr a0), (1, qi x1), (2, qi x2), (3, qi x3), (5, qi x5), (6, qi x6), (9, qi x9)] [] n K I F 0 0 := by
  unfold X9_isClaimRight_b154
  refine ok_iconst (q := 155) (x := 1) dX9_isClaimRight_154 rfl rfl (by decide) ?_
  refine ok_goto (q := 159) dX9_isClaimRight_155 rfl ?_
  exact fun g => ok_pick [0, 1, 2, 3, 4, 5, 6] rfl (w_X9_isClaimRight_b159 (N := N) h0 H70 g)
def X9_isClaimRight_s70 (N : Nat) (K : am_K) (F : am_F) (I : am_I) (a0 : Nat) (k70 : Int → Int → Int → Int → Int → Int → Option Int) (x1 : Int) (x2 : Int) (x3 : Int) (x4 : Int) (x5 : Int) (x6 : Int) : Option Int :=
  if (K (F a0 0)).1 = 0 then if am_inI (x1 + 1) then if (K (F (F a0 0) 1)).1 = 100 then if (0 : Int) ≤ (x1 + 1) ∧ (x1 + 1) < (K (F (F a0 0) 1)).2 then if x6 < (I (F (F a0 0) 1) (x1 + 1)) then (if (K (F (F a0 0) 2)).1 = 100 then if (0 : Int) ≤ x6 ∧ x6 < (K (F (F a0 0) 2)).2 then am_lt (I (F (F a0 0) 2) x6) (fun x7_7 => am_cq (X0_takenBy N K F I x7_7) (fun v_8 => am_cq (X0_placeBehind N K F I x7_7) (fun v_9 => if (K (F a0 6)).1 = 100 then if (0 : Int) ≤ v_9 ∧ v_9 < (K (F a0 6)).2 then if am_inI (v_8 - (I (F a0 6) v_9)) then am_lt (v_8 - (I (F a0 6) v_9)) (fun x8_13 => if x2 < x8_13 then (some (0)) else (if x8_13 = x2 then (am_cq (X9_goesForward N K F I x7_7 x1 (F a0 7)) (fun v_14 => if x4 = 0 then (if v_14 = 0 then (X9_isClaimRight_b159 N K F I a0 k70 x1 x2 1 x5 x6 v_14 0) else (X9_isClaimRight_b154 N K F I a0 k70 x1 x2 1 x5 x6 v_14)) else (X9_isClaimRight_b154 N K F I a0 k70 x1 x2 1 x5 x6 v_14))) else (X9_isClaimRight_b178 N K F I a0 k70 x1 x2 x3 x4 x5 x6))) else none else none else none))) else none else none) else (if x3 = 0 then (X9_isClaimRight_b210 N K F I a0 ) else (if 0 < x2 then (if x4 = 0 then (X9_isClaimRight_b210 N K F I a0 ) else (X9_isClaimRight_b197 N K F I a0 x2 x5)) else (X9_isClaimRight_b197 N K F I a0 x2 x5))) else none else none else none else none
theorem w_X9_isClaimRight_s70 {η : am_E} {l : Launch} {N : Nat} {n : Nat} {K : am_K} {I : am_I} {F : am_F} {a0 : Nat} {r0 : Int} {k70 : Int → Int → Int → Int → Int → Int → Option Int} {x1 : Int} {x2 : Int} {x3 : Int} {x4 : Int} {x5 : Int} {x6 : Int} (h0 : (K a0).1 = 9) (H70 : ∀ (x1 : Int) (x2 : Int) (x3 : Int) (x4 : Int) (x5 : Int) (x6 : Int), k70 x1 x2 x3 x4 x5 x6 = some r0 → Ok η l M_X9_isClaimRight (am_qm η (am_pS 1 (r0, I) n K F) 0 0) 70 [(0, qr a0), (1, qi x1), (2, qi x2), (3, qi x3), (4, qi x4), (5, qi x5), (6, qi x6)] [] n K I F 0 0) : X9_isClaimRight_s70 N K F I a0 k70 x1 x2 x3 x4 x5 x6 = some r0 → Ok η l M_X9_isClaimRight (am_qm η (am_pS 1 (r0, I) n K F) 0 0) 70 [(0, qr a0), (1, qi x1), (2, qi x2), (3, qi x3), (4, qi x4), (5, qi x5), (6, qi x6)] [] n K I F 0 0 := by
  unfold X9_isClaimRight_s70
  refine ok_iload (q := 72) 6 dX9_isClaimRight_70 rfl rfl ?_
  refine ok_aload_n (q := 73) 0 dX9_isClaimRight_72 rfl rfl rfl ?_
  refine ok_getR (q := 76) (ci := 9) (k := 0) (x := F a0 0) dX9_isClaimRight_73 rfl fo_X9_41 h0 rfl ?_
  refine fi_chk (fun h_1 => ?_)
  refine ok_getR (q := 79) (ci := 0) (k := 1) (x := F (F a0 0) 1) dX9_isClaimRight_76 rfl fo_X9_103 h_1 rfl ?_
  refine ok_iload_n (q := 80) 1 dX9_isClaimRight_79 rfl rfl rfl ?_
  refine ok_iconst (q := 81) (x := 1) dX9_isClaimRight_80 rfl rfl (by decide) ?_
  refine fi_chk (fun h_2 => ?_)
  refine ok_iadd (q := 82) dX9_isClaimRight_81 rfl h_2 ?_
  refine fi_chk (fun h_3 => ?_)
  refine fi_chk (fun h_4 => ?_)
  refine ok_iaload (q := 83) (v := I (F (F a0 0) 1) (x1 + 1)) dX9_isClaimRight_82 rfl h_3 h_4.1 h_4.2 rfl ?_
  refine ok_icmp_ge (q := 184) (q2 := 86) dX9_isClaimRight_83 rfl rfl ?_ ?_
  · skip
    refine ok_iload_n (q := 185) 3 dX9_isClaimRight_184 rfl rfl rfl ?_
    refine ok_if_eq (q := 210) (q2 := 188) dX9_isClaimRight_185 rfl rfl ?_ ?_
    · skip
      exact fun g => ok_pick [0] rfl (w_X9_isClaimRight_b210 (N := N) h0 g)
    · skip
      refine ok_iload_n (q := 189) 2 dX9_isClaimRight_188 rfl rfl rfl ?_
      refine ok_if_le (q := 197) (q2 := 192) dX9_isClaimRight_189 rfl rfl ?_ ?_
      · skip
        exact fun g => ok_pick [0, 2, 5] rfl (w_X9_isClaimRight_b197 (N := N) h0 g)
      · skip
        refine ok_iload (q := 194) 4 dX9_isClaimRight_192 rfl rfl ?_
        refine ok_if_eq (q := 210) (q2 := 197) dX9_isClaimRight_194 rfl rfl ?_ ?_
        · skip
          exact fun g => ok_pick [0] rfl (w_X9_isClaimRight_b210 (N := N) h0 g)
        · skip
          exact fun g => ok_pick [0, 2, 5] rfl (w_X9_isClaimRight_b197 (N := N) h0 g)
  · skip
    refine ok_aload_n (q := 87) 0 dX9_isClaimRight_86 rfl rfl rfl ?_
    refine ok_getR (q := 90) (ci := 9) (k := 0) (x := F a0 0) dX9_isClaimRight_87 rfl fo_X9_41 h0 rfl ?_
    refine ok_getR (q := 93) (ci := 0) (k := 2) (x := F (F a0 0) 2) dX9_isClaimRight_90 rfl fo_X9_106 h_1 rfl ?_
    refine ok_iload (q := 95) 6 dX9_isClaimRight_93 rfl rfl ?_
    refine fi_chk (fun h_5 => ?_)
    refine fi_chk (fun h_6 => ?_)
    refine ok_iaload (q := 96) (v := I (F (F a0 0) 2) x6) dX9_isClaimRight_95 rfl h_5 h_6.1 h_6.2 rfl ?_
    refine ok_istoreL (q := 98) (fun x7_7 => [(7, qi x7_7), (0, qr a0), (1, qi x1), (2, qi x2), (3, qi x3), (4, qi x4), (5, qi x5), (6, qi x6)]) dX9_isClaimRight_96 rfl (Nat.le_of_ble_eq_true rfl) (fun _ => rfl) (fun x7_7 => ?_)
    refine ok_iload (q := 100) 0 dX9_isClaimRight_98 rfl rfl ?_
    refine fi_callS1P (q := 103) (as := [qi x7_7]) (st := []) dX9_isClaimRight_100 rfl mo_X9_96 rfl rfl (Nat.le_of_ble_eq_true rfl) (Nat.le_of_ble_eq_true rfl) (Nat.le_of_ble_eq_true rfl) (Nat.zero_le _) (Nat.zero_le _) (fun _ hr => ct_X0_takenBy (N := N) hr) (fun v_8 => ?_)
    refine ok_aload_n (q := 104) 1 dX9_isClaimRight_103 rfl rfl rfl ?_
    refine ok_getR (q := 107) (ci := 9) (k := 6) (x := F a0 6) dX9_isClaimRight_104 rfl fo_X9_18 h0 rfl ?_
    refine ok_iload (q := 109) 0 dX9_isClaimRight_107 rfl rfl ?_
    refine fi_callS1P (q := 112) (as := [qi x7_7]) (st := [qr (F a0 6), qi v_8]) dX9_isClaimRight_109 rfl mo_X9_100 rfl rfl (Nat.le_of_ble_eq_true rfl) (Nat.le_of_ble_eq_true rfl) (Nat.le_of_ble_eq_true rfl) (Nat.zero_le _) (Nat.zero_le _) (fun _ hr => ct_X0_placeBehind (N := N) hr) (fun v_9 => ?_)
    refine fi_chk (fun h_10 => ?_)
    refine fi_chk (fun h_11 => ?_)
    refine ok_iaload (q := 113) (v := I (F a0 6) v_9) dX9_isClaimRight_112 rfl h_10 h_11.1 h_11.2 rfl ?_
    refine fi_chk (fun h_12 => ?_)
    refine ok_isub (q := 114) dX9_isClaimRight_113 rfl h_12 ?_
    refine ok_istoreL (q := 116) (fun x8_13 => [(8, qi x8_13), (7, qi x7_7), (0, qr a0), (1, qi x1), (2, qi x2), (3, qi x3), (4, qi x4), (5, qi x5), (6, qi x6)]) dX9_isClaimRight_114 rfl (Nat.le_of_ble_eq_true rfl) (fun _ => rfl) (fun x8_13 => ?_)
    refine ok_iload (q := 118) 0 dX9_isClaimRight_116 rfl rfl ?_
    refine ok_iload_n (q := 119) 4 dX9_isClaimRight_118 rfl rfl rfl ?_
    refine ok_icmp_le (q := 124) (q2 := 122) dX9_isClaimRight_119 rfl rfl ?_ ?_
    · skip
      refine ok_iload (q := 126) 0 dX9_isClaimRight_124 rfl rfl ?_
      refine ok_iload_n (q := 127) 4 dX9_isClaimRight_126 rfl rfl rfl ?_
      refine ok_icmp_ne (q := 178) (q2 := 130) dX9_isClaimRight_127 rfl rfl ?_ ?_
      · skip
        exact fun g => ok_pick [2, 3, 4, 5, 6, 7, 8] rfl (w_X9_isClaimRight_b178 (N := N) h0 H70 g)
      · skip
        refine ok_iconst (q := 131) (x := 1) dX9_isClaimRight_130 rfl rfl (by decide) ?_
        refine ok_istore_n (q := 132) (ls' := [(3, qi 1), (8, qi x8_13), (7, qi x7_7), (0, qr a0), (1, qi x1), (2, qi x2), (4, qi x4), (5, qi x5), (6, qi x6)]) dX9_isClaimRight_131 rfl rfl (Nat.le_of_ble_eq_true rfl) rfl ?_
        refine ok_iload (q := 134) 2 dX9_isClaimRight_132 rfl rfl ?_
        refine ok_iload_n (q := 135) 4 dX9_isClaimRight_134 rfl rfl rfl ?_
        refine ok_aload_n (q := 136) 3 dX9_isClaimRight_135 rfl rfl rfl ?_
        refine ok_getR (q := 139) (ci := 9) (k := 7) (x := F a0 7) dX9_isClaimRight_136 rfl fo_X9_21 h0 rfl ?_
        refine fi_callS1P (q := 142) (as := [qi x7_7, qi x1, qr (F a0 7)]) (st := []) dX9_isClaimRight_139 rfl mo_X9_112 rfl rfl (Nat.le_of_ble_eq_true rfl) (Nat.le_of_ble_eq_true rfl) (Nat.le_of_ble_eq_true rfl) (Nat.zero_le _) (Nat.zero_le _) (fun _ hr => ct_X9_goesForward (N := N) hr) (fun v_14 => ?_)
        refine ok_istore (q := 144) (ls' := [(9, qi v_14), (3, qi 1), (8, qi x8_13), (7, qi x7_7), (0, qr a0), (1, qi x1), (2, qi x2), (4, qi x4), (5, qi x5), (6, qi x6)]) dX9_isClaimRight_142 rfl (Nat.le_of_ble_eq_true rfl) rfl ?_
        refine ok_iload (q := 146) 7 dX9_isClaimRight_144 rfl rfl ?_
        refine ok_if_ne (q := 154) (q2 := 149) dX9_isClaimRight_146 rfl rfl ?_ ?_
        · skip
          exact fun g => ok_pick [4, 5, 6, 1, 8, 9, 0] rfl (w_X9_isClaimRight_b154 (N := N) h0 H70 g)
        · skip
          refine ok_iload (q := 151) 0 dX9_isClaimRight_149 rfl rfl ?_
          refine ok_if_eq (q := 158) (q2 := 154) dX9_isClaimRight_151 rfl rfl ?_ ?_
          · skip
            refine ok_iconst (q := 159) (x := 0) dX9_isClaimRight_158 rfl rfl (by decide) ?_
            exact fun g => ok_pick [4, 5, 6, 1, 8, 9, 0] rfl (w_X9_isClaimRight_b159 (N := N) h0 H70 g)
          · skip
            exact fun g => ok_pick [4, 5, 6, 1, 8, 9, 0] rfl (w_X9_isClaimRight_b154 (N := N) h0 H70 g)
    · skip
      refine ok_iconst (q := 123) (x := 0) dX9_isClaimRight_122 rfl rfl (by decide) ?_
      exact fi_zreturnP dX9_isClaimRight_123 rfl (by decide)
def X9_isClaimRight_h70 (N : Nat) (K : am_K) (F : am_F) (I : am_I) (a0 : Nat) : Nat → Int → Int → Int → Int → Int → Int → Option Int := am_it (fun kh => X9_isClaimRight_s70 N K F I a0 kh) (fun _ _ _ _ _ _ => none)
theorem w_X9_isClaimRight_h70 {η : am_E} {l : Launch} {N : Nat} {n : Nat} {K : am_K} {I : am_I} {F : am_F} {a0 : Nat} {r0 : Int} (h0 : (K a0).1 = 9) (f : Nat) : ∀ (x1 : Int) (x2 : Int) (x3 : Int) (x4 : Int) (x5 : Int) (x6 : Int), X9_isClaimRight_h70 N K F I a0 f x1 x2 x3 x4 x5 x6 = some r0 → Ok η l M_X9_isClaimRight (am_qm η (am_pS 1 (r0, I) n K F) 0 0) 70 [(0, qr a0), (1, qi x1), (2, qi x2), (3, qi x3), (4, qi x4), (5, qi x5), (6, qi x6)] [] n K I F 0 0 := by
  induction f with
  | zero => intro x1 x2 x3 x4 x5 x6 g; exact fi_none g
  | succ f ih => intro x1 x2 x3 x4 x5 x6 g; exact w_X9_isClaimRight_s70 (N := N) h0 ih g
def X9_isClaimRight_b43 (N : Nat) (K : am_K) (F : am_F) (I : am_I) (a0 : Nat) (s0 : Int) : Option Int :=
  if s0 = 0 ∨ s0 = 1 then some (s0) else none
theorem w_X9_isClaimRight_b43 {η : am_E} {l : Launch} {N : Nat} {n : Nat} {K : am_K} {I : am_I} {F : am_F} {a0 : Nat} {r0 : Int} {s0 : Int} (h0 : (K a0).1 = 9) : X9_isClaimRight_b43 N K F I a0 s0 = some r0 → Ok η l M_X9_isClaimRight (am_qm η (am_pS 1 (r0, I) n K F) 0 0) 43 [(0, qr a0)] [qi s0] n K I F 0 0 := by
  unfold X9_isClaimRight_b43
  refine fi_chk (fun h_1 => ?_)
  exact fi_zreturnP dX9_isClaimRight_43 rfl h_1
def X9_isClaimRight_b42 (N : Nat) (K : am_K) (F : am_F) (I : am_I) (a0 : Nat) : Option Int :=
  X9_isClaimRight_b43 N K F I a0 0
theorem w_X9_isClaimRight_b42 {η : am_E} {l : Launch} {N : Nat} {n : Nat} {K : am_K} {I : am_I} {F : am_F} {a0 : Nat} {r0 : Int} (h0 : (K a0).1 = 9) : X9_isClaimRight_b42 N K F I a0 = some r0 → Ok η l M_X9_isClaimRight (am_qm η (am_pS 1 (r0, I) n K F) 0 0) 42 [(0, qr a0)] [] n K I F 0 0 := by
  unfold X9_isClaimRight_b42
  refine ok_iconst (q := 43) (x := 0) dX9_isClaimRight_42 rfl rfl (by decide) ?_
  exact fun g => ok_pick [0] rfl (w_X9_isClaimRight_b43 (N := N) h0 g)
def X9_isClaimRight (N : Nat) (K : am_K) (F : am_F) (I : am_I) (a0 : Nat) (x1 : Int) : Option Int :=
  if (K (F a0 0)).1 = 0 then am_cq (X0_hasMove N K F I (F a0 0) x1) (fun v_2 => if v_2 = 0 then (if (K (F a0 6)).1 = 100 then if (0 : Int) ≤ x1 ∧ x1 < (K (F a0 6)).2 then if (K (F (F a0 0) 0)).1 = 100 then if (0 : Int) ≤ x1 ∧ x1 < (K (F (F a0 0) 0)).2 then if (I (F a0 6) x1) = (I (F (F a0 0) 0) x1) then (if (K (F a0 7)).1 = 100 then if (0 : Int) ≤ x1 ∧ x1 < (K (F a0 7)).2 then if (I (F a0 7) x1) = 0 then (X9_isClaimRight_b43 N K F I a0 1) else (X9_isClaimRight_b42 N K F I a0 ) else none else none) else (X9_isClaimRight_b42 N K F I a0 ) else none else none else none else none) else (if (K (F a0 6)).1 = 100 then if (0 : Int) ≤ x1 ∧ x1 < (K (F a0 6)).2 then am_lt (I (F a0 6) x1) (fun x2_5 => if (K (F (F a0 0) 1)).1 = 100 then if (0 : Int) ≤ x1 ∧ x1 < (K (F (F a0 0) 1)).2 then am_lt (I (F (F a0 0) 1) x1) (fun x6_8 => X9_isClaimRight_h70 N K F I a0 N x1 x2_5 0 0 1 x6_8) else none else none) else none else none)) else none
theorem w_X9_isClaimRight {η : am_E} {l : Launch} {N : Nat} {n : Nat} {K : am_K} {I : am_I} {F : am_F} {a0 : Nat} {r0 : Int} {x1 : Int} (h0 : (K a0).1 = 9) : X9_isClaimRight N K F I a0 x1 = some r0 → Ok η l M_X9_isClaimRight (am_qm η (am_pS 1 (r0, I) n K F) 0 0) 0 [(0, qr a0), (1, qi x1)] [] n K I F 0 0 := by
  unfold X9_isClaimRight
  refine ok_aload_n (q := 1) 0 dX9_isClaimRight_0 rfl rfl rfl ?_
  refine ok_getR (q := 4) (ci := 9) (k := 0) (x := F a0 0) dX9_isClaimRight_1 rfl fo_X9_41 h0 rfl ?_
  refine ok_iload_n (q := 5) 1 dX9_isClaimRight_4 rfl rfl rfl ?_
  refine fi_chk (fun h_1 => ?_)
  refine fi_callV1P (q := 8) (as := [qi x1]) (st := []) dX9_isClaimRight_5 rfl mo_X9_142 h_1 rfl (Nat.le_of_ble_eq_true rfl) rfl rfl (Nat.le_of_ble_eq_true rfl) (Nat.le_of_ble_eq_true rfl) (Nat.le_of_ble_eq_true rfl) (Nat.zero_le _) (Nat.zero_le _) (fun _ hr => ct_X0_hasMove (N := N) h_1 hr) (fun v_2 => ?_)
  refine ok_if_ne (q := 44) (q2 := 11) dX9_isClaimRight_8 rfl rfl ?_ ?_
  · skip
    refine ok_aload_n (q := 45) 0 dX9_isClaimRight_44 rfl rfl rfl ?_
    refine ok_getR (q := 48) (ci := 9) (k := 6) (x := F a0 6) dX9_isClaimRight_45 rfl fo_X9_18 h0 rfl ?_
    refine ok_iload_n (q := 49) 1 dX9_isClaimRight_48 rfl rfl rfl ?_
    refine fi_chk (fun h_3 => ?_)
    refine fi_chk (fun h_4 => ?_)
    refine ok_iaload (q := 50) (v := I (F a0 6) x1) dX9_isClaimRight_49 rfl h_3 h_4.1 h_4.2 rfl ?_
    refine ok_istore_nL (q := 51) (fun x2_5 => [(2, qi x2_5), (0, qr a0), (1, qi x1)]) dX9_isClaimRight_50 rfl rfl (Nat.le_of_ble_eq_true rfl) (fun _ => rfl) (fun x2_5 => ?_)
    refine ok_iconst (q := 52) (x := 0) dX9_isClaimRight_51 rfl rfl (by decide) ?_
    refine ok_istore_n (q := 53) (ls' := [(3, qi 0), (2, qi x2_5), (0, qr a0), (1, qi x1)]) dX9_isClaimRight_52 rfl rfl (Nat.le_of_ble_eq_true rfl) rfl ?_
    refine ok_iconst (q := 54) (x := 0) dX9_isClaimRight_53 rfl rfl (by decide) ?_
    refine ok_istore (q := 56) (ls' := [(4, qi 0), (3, qi 0), (2, qi x2_5), (0, qr a0), (1, qi x1)]) dX9_isClaimRight_54 rfl (Nat.le_of_ble_eq_true rfl) rfl ?_
    refine ok_iconst (q := 57) (x := 1) dX9_isClaimRight_56 rfl rfl (by decide) ?_
    refine ok_istore (q := 59) (ls' := [(5, qi 1), (4, qi 0), (3, qi 0), (2, qi x2_5), (0, qr a0), (1, qi x1)]) dX9_isClaimRight_57 rfl (Nat.le_of_ble_eq_true rfl) rfl ?_
    refine ok_aload_n (q := 60) 4 dX9_isClaimRight_59 rfl rfl rfl ?_
    refine ok_getR (q := 63) (ci := 9) (k := 0) (x := F a0 0) dX9_isClaimRight_60 rfl fo_X9_41 h0 rfl ?_
    refine ok_getR (q := 66) (ci := 0) (k := 1) (x := F (F a0 0) 1) dX9_isClaimRight_63 rfl fo_X9_103 h_1 rfl ?_
    refine ok_iload_n (q := 67) 5 dX9_isClaimRight_66 rfl rfl rfl ?_
    refine fi_chk (fun h_6 => ?_)
    refine fi_chk (fun h_7 => ?_)
    refine ok_iaload (q := 68) (v := I (F (F a0 0) 1) x1) dX9_isClaimRight_67 rfl h_6 h_7.1 h_7.2 rfl ?_
    refine ok_istoreL (q := 70) (fun x6_8 => [(6, qi x6_8), (5, qi 1), (4, qi 0), (3, qi 0), (2, qi x2_5), (0, qr a0), (1, qi x1)]) dX9_isClaimRight_68 rfl (Nat.le_of_ble_eq_true rfl) (fun _ => rfl) (fun x6_8 => ?_)
    exact fun g => ok_pick [5, 6, 4, 3, 2, 1, 0] rfl (w_X9_isClaimRight_h70 (N := N) h0 N _ _ _ _ _ _ g)
  · skip
    refine ok_aload_n (q := 12) 0 dX9_isClaimRight_11 rfl rfl rfl ?_
    refine ok_getR (q := 15) (ci := 9) (k := 6) (x := F a0 6) dX9_isClaimRight_12 rfl fo_X9_18 h0 rfl ?_
    refine ok_iload_n (q := 16) 1 dX9_isClaimRight_15 rfl rfl rfl ?_
    refine fi_chk (fun h_9 => ?_)
    refine fi_chk (fun h_10 => ?_)
    refine ok_iaload (q := 17) (v := I (F a0 6) x1) dX9_isClaimRight_16 rfl h_9 h_10.1 h_10.2 rfl ?_
    refine ok_aload_n (q := 18) 0 dX9_isClaimRight_17 rfl rfl rfl ?_
    refine ok_getR (q := 21) (ci := 9) (k := 0) (x := F a0 0) dX9_isClaimRight_18 rfl fo_X9_41 h0 rfl ?_
    refine ok_getR (q := 24) (ci := 0) (k := 0) (x := F (F a0 0) 0) dX9_isClaimRight_21 rfl fo_X9_145 h_1 rfl ?_
    refine ok_iload_n (q := 25) 1 dX9_isClaimRight_24 rfl rfl rfl ?_
    refine fi_chk (fun h_11 => ?_)
    refine fi_chk (fun h_12 => ?_)
    refine ok_iaload (q := 26) (v := I (F (F a0 0) 0) x1) dX9_isClaimRight_25 rfl h_11 h_12.1 h_12.2 rfl ?_
    refine ok_icmp_ne (q := 42) (q2 := 29) dX9_isClaimRight_26 rfl rfl ?_ ?_
    · skip
      exact fun g => ok_pick [0] rfl (w_X9_isClaimRight_b42 (N := N) h0 g)
    · skip
      refine ok_aload_n (q := 30) 0 dX9_isClaimRight_29 rfl rfl rfl ?_
      refine ok_getR (q := 33) (ci := 9) (k := 7) (x := F a0 7) dX9_isClaimRight_30 rfl fo_X9_21 h0 rfl ?_
      refine ok_iload_n (q := 34) 1 dX9_isClaimRight_33 rfl rfl rfl ?_
      refine fi_chk (fun h_13 => ?_)
      refine fi_chk (fun h_14 => ?_)
      refine ok_iaload (q := 35) (v := I (F a0 7) x1) dX9_isClaimRight_34 rfl h_13 h_14.1 h_14.2 rfl ?_
      refine ok_if_ne (q := 42) (q2 := 38) dX9_isClaimRight_35 rfl rfl ?_ ?_
      · skip
        exact fun g => ok_pick [0] rfl (w_X9_isClaimRight_b42 (N := N) h0 g)
      · skip
        refine ok_iconst (q := 39) (x := 1) dX9_isClaimRight_38 rfl rfl (by decide) ?_
        refine ok_goto (q := 43) dX9_isClaimRight_39 rfl ?_
        exact fun g => ok_pick [0] rfl (w_X9_isClaimRight_b43 (N := N) h0 g)
theorem ct_X9_isClaimRight {η : am_E} {l : Launch} {N : Nat} {n : Nat} {K : am_K} {I : am_I} {F : am_F} {a0 : Nat} {r0 : Int} {x1 : Int} (h0 : (K a0).1 = 9) : X9_isClaimRight N K F I a0 x1 = some r0 → am_Ct η l yX9_isClaimRight cX9_isClaimRight 10 (some .boolean) 2 42 0 0 [qr a0, qi x1] n K I F (am_pS 1 (r0, I) n K F) := fun g => am_Ct.of false (by decide) (by decide) (Nat.le_of_ble_eq_true rfl) (fun _ => w_X9_isClaimRight (N := N) h0 g)
def M_X9_firstWrongClaim : am_M := (yX9_firstWrongClaim.cls, cX9_firstWrongClaim, 4, (some .int), am_room 6 149 0 0, false)
def X9_firstWrongClaim_s32 (N : Nat) (K : am_K) (F : am_F) (a0 : Nat) (k4 : am_I → Int → Int → Option (Int × am_I)) (k32 : am_I → Int → Int → Int → Option (Int × am_I)) (I : am_I) (x1 : Int) (x2 : Int) (x3 : Int) : Option (Int × am_I) :=
  if x1 < x3 then (am_cq (X9_isClaimRight N K F I a0 x1) (fun v_3 => if v_3 = 0 then (some (x1, I)) else (if am_inI (x1 + 1) then am_lt (x1 + 1) (fun x1_5 => k32 I x1_5 x2 x3) else none))) else (if am_inI (x2 + 1) then am_lt (x2 + 1) (fun x2_2 => k4 I x1 x2_2) else none)
theorem w_X9_firstWrongClaim_s32 {η : am_E} {l : Launch} {N : Nat} {n : Nat} {K : am_K} {I : am_I} {F : am_F} {a0 : Nat} {r0 : Int × am_I} {k4 : am_I → Int → Int → Option (Int × am_I)} {k32 : am_I → Int → Int → Int → Option (Int × am_I)} {x1 : Int} {x2 : Int} {x3 : Int} (h0 : (K a0).1 = 9) (H4 : ∀ (I : am_I) (x1 : Int) (x2 : Int), k4 I x1 x2 = some r0 → Ok η l M_X9_firstWrongClaim (am_qm η (am_pS 1 r0 n K F) 0 0) 4 [(0, qr a0), (1, qi x1), (2, qi x2)] [] n K I F 0 0) (H32 : ∀ (I : am_I) (x1 : Int) (x2 : Int) (x3 : Int), k32 I x1 x2 x3 = some r0 → Ok η l M_X9_firstWrongClaim (am_qm η (am_pS 1 r0 n K F) 0 0) 32 [(0, qr a0), (1, qi x1), (2, qi x2), (3, qi x3)] [] n K I F 0 0) : X9_firstWrongClaim_s32 N K F a0 k4 k32 I x1 x2 x3 = some r0 → Ok η l M_X9_firstWrongClaim (am_qm η (am_pS 1 r0 n K F) 0 0) 32 [(0, qr a0), (1, qi x1), (2, qi x2), (3, qi x3)] [] n K I F 0 0 := by
  unfold X9_firstWrongClaim_s32
  refine ok_iload_n (q := 33) 1 dX9_firstWrongClaim_32 rfl rfl rfl ?_
  refine ok_iload_n (q := 34) 3 dX9_firstWrongClaim_33 rfl rfl rfl ?_
  refine ok_icmp_ge (q := 53) (q2 := 37) dX9_firstWrongClaim_34 rfl rfl ?_ ?_
  · skip
    refine fi_chk (fun h_1 => ?_)
    refine ok_iincL (q := 56) (fun x2_2 => [(2, qi x2_2), (0, qr a0), (1, qi x1), (3, qi x3)]) 2 dX9_firstWrongClaim_53 rfl rfl h_1 (Nat.le_of_ble_eq_true rfl) (fun _ => rfl) (fun x2_2 => ?_)
    refine ok_goto (q := 4) dX9_firstWrongClaim_56 rfl ?_
    exact fun g => ok_pick [1, 2, 0] rfl (H4 _ _ _ g)
  · skip
    refine ok_aload_n (q := 38) 0 dX9_firstWrongClaim_37 rfl rfl rfl ?_
    refine ok_iload_n (q := 39) 1 dX9_firstWrongClaim_38 rfl rfl rfl ?_
    refine fi_callV1P (q := 42) (as := [qi x1]) (st := []) dX9_firstWrongClaim_39 rfl mo_X9_122 h0 rfl (Nat.le_of_ble_eq_true rfl) rfl rfl (Nat.le_of_ble_eq_true rfl) (Nat.le_of_ble_eq_true rfl) (Nat.le_of_ble_eq_true rfl) (Nat.zero_le _) (Nat.zero_le _) (fun _ hr => ct_X9_isClaimRight (N := N) h0 hr) (fun v_3 => ?_)
    refine ok_if_ne (q := 47) (q2 := 45) dX9_firstWrongClaim_42 rfl rfl ?_ ?_
    · skip
      refine fi_chk (fun h_4 => ?_)
      refine ok_iincL (q := 50) (fun x1_5 => [(1, qi x1_5), (0, qr a0), (2, qi x2), (3, qi x3)]) 1 dX9_firstWrongClaim_47 rfl rfl h_4 (Nat.le_of_ble_eq_true rfl) (fun _ => rfl) (fun x1_5 => ?_)
      refine ok_goto (q := 32) dX9_firstWrongClaim_50 rfl ?_
      exact fun g => ok_pick [1, 0, 2, 3] rfl (H32 _ _ _ _ g)
    · skip
      refine ok_iload_n (q := 46) 1 dX9_firstWrongClaim_45 rfl rfl rfl ?_
      exact fi_ireturnS dX9_firstWrongClaim_46 rfl
def X9_firstWrongClaim_h32 (N : Nat) (K : am_K) (F : am_F) (a0 : Nat) (k4 : am_I → Int → Int → Option (Int × am_I)) : Nat → am_I → Int → Int → Int → Option (Int × am_I) := am_it (fun kh => X9_firstWrongClaim_s32 N K F a0 k4 kh) (fun _ _ _ _ => none)
theorem w_X9_firstWrongClaim_h32 {η : am_E} {l : Launch} {N : Nat} {n : Nat} {K : am_K} {F : am_F} {a0 : Nat} {r0 : Int × am_I} {k4 : am_I → Int → Int → Option (Int × am_I)} (h0 : (K a0).1 = 9) (H4 : ∀ (I : am_I) (x1 : Int) (x2 : Int), k4 I x1 x2 = some r0 → Ok η l M_X9_firstWrongClaim (am_qm η (am_pS 1 r0 n K F) 0 0) 4 [(0, qr a0), (1, qi x1), (2, qi x2)] [] n K I F 0 0) (f : Nat) : ∀ (I : am_I) (x1 : Int) (x2 : Int) (x3 : Int), X9_firstWrongClaim_h32 N K F a0 k4 f I x1 x2 x3 = some r0 → Ok η l M_X9_firstWrongClaim (am_qm η (am_pS 1 r0 n K F) 0 0) 32 [(0, qr a0), (1, qi x1), (2, qi x2), (3, qi x3)] [] n K I F 0 0 := by
  induction f with
  | zero => intro I x1 x2 x3 g; exact fi_none g
  | succ f ih => intro I x1 x2 x3 g; exact w_X9_firstWrongClaim_s32 (N := N) h0 H4 ih g
def X9_firstWrongClaim_s4 (N : Nat) (K : am_K) (F : am_F) (a0 : Nat) (k4 : am_I → Int → Int → Option (Int × am_I)) (I : am_I) (x1 : Int) (x2 : Int) : Option (Int × am_I) :=
  if x2 < (I a0 8) then (if (K (F a0 0)).1 = 0 then am_cl (X0_buildLayer N K F (F a0 0) I x2) (fun _ I_2 => if (K (F a0 12)).1 = 3 then am_cq (X3_boardsUpTo N K F I_2 (F a0 12) x2) (fun v_4 => if am_inI (v_4) then if am_inI (2 * v_4) then am_lt (2 * v_4) (fun x3_7 => X9_firstWrongClaim_h32 N K F a0 k4 N I_2 x1 x2 x3_7) else none else none) else none) else none) else (some (I a0 2, I))
theorem w_X9_firstWrongClaim_s4 {η : am_E} {l : Launch} {N : Nat} {n : Nat} {K : am_K} {I : am_I} {F : am_F} {a0 : Nat} {r0 : Int × am_I} {k4 : am_I → Int → Int → Option (Int × am_I)} {x1 : Int} {x2 : Int} (h0 : (K a0).1 = 9) (H4 : ∀ (I : am_I) (x1 : Int) (x2 : Int), k4 I x1 x2 = some r0 → Ok η l M_X9_firstWrongClaim (am_qm η (am_pS 1 r0 n K F) 0 0) 4 [(0, qr a0), (1, qi x1), (2, qi x2)] [] n K I F 0 0) : X9_firstWrongClaim_s4 N K F a0 k4 I x1 x2 = some r0 → Ok η l M_X9_firstWrongClaim (am_qm η (am_pS 1 r0 n K F) 0 0) 4 [(0, qr a0), (1, qi x1), (2, qi x2)] [] n K I F 0 0 := by
  unfold X9_firstWrongClaim_s4
  refine ok_iload_n (q := 5) 2 dX9_firstWrongClaim_4 rfl rfl rfl ?_
  refine ok_aload_n (q := 6) 0 dX9_firstWrongClaim_5 rfl rfl rfl ?_
  refine ok_getI (q := 9) (ci := 9) (k := 8) (x := I a0 8) dX9_firstWrongClaim_6 rfl fo_X9_54 h0 rfl ?_
  refine ok_icmp_ge (q := 59) (q2 := 12) dX9_firstWrongClaim_9 rfl rfl ?_ ?_
  · skip
    refine ok_aload_n (q := 60) 0 dX9_firstWrongClaim_59 rfl rfl rfl ?_
    refine ok_getI (q := 63) (ci := 9) (k := 2) (x := I a0 2) dX9_firstWrongClaim_60 rfl fo_X9_64 h0 rfl ?_
    exact fi_ireturnS dX9_firstWrongClaim_63 rfl
  · skip
    refine ok_aload_n (q := 13) 0 dX9_firstWrongClaim_12 rfl rfl rfl ?_
    refine ok_getR (q := 16) (ci := 9) (k := 0) (x := F a0 0) dX9_firstWrongClaim_13 rfl fo_X9_41 h0 rfl ?_
    refine ok_iload_n (q := 17) 2 dX9_firstWrongClaim_16 rfl rfl rfl ?_
    refine fi_chk (fun h_1 => ?_)
    refine fi_callV0S (q := 20) (as := [qi x2]) (st := []) dX9_firstWrongClaim_17 rfl mo_X9_89 h_1 rfl (Nat.le_of_ble_eq_true rfl) rfl rfl (Nat.le_of_ble_eq_true rfl) (Nat.le_of_ble_eq_true rfl) (Nat.le_of_ble_eq_true rfl) (Nat.zero_le _) (Nat.zero_le _) (fun _ hr => ct_X0_buildLayer (N := N) h_1 hr) (fun _ I_2 => ?_)
    refine ok_iconst (q := 21) (x := 2) dX9_firstWrongClaim_20 rfl rfl (by decide) ?_
    refine ok_aload_n (q := 22) 0 dX9_firstWrongClaim_21 rfl rfl rfl ?_
    refine ok_getR (q := 25) (ci := 9) (k := 12) (x := F a0 12) dX9_firstWrongClaim_22 rfl fo_X9_37 h0 rfl ?_
    refine ok_iload_n (q := 26) 2 dX9_firstWrongClaim_25 rfl rfl rfl ?_
    refine fi_chk (fun h_3 => ?_)
    refine fi_callV2P (q := 29) (as := [qi x2]) (st := [qi 2]) dX9_firstWrongClaim_26 rfl mo_X9_58 h_3 rfl (Nat.le_of_ble_eq_true rfl) rfl rfl (Nat.le_of_ble_eq_true rfl) (Nat.le_of_ble_eq_true rfl) (Nat.le_of_ble_eq_true rfl) (Nat.zero_le _) (Nat.zero_le _) (fun _ hr => ct_X3_boardsUpTo (N := N) h_3 hr) (fun v_4 => ?_)
    refine fi_chk (fun h_5 => ?_)
    refine ok_l2i (q := 30) dX9_firstWrongClaim_29 rfl h_5 ?_
    refine fi_chk (fun h_6 => ?_)
    refine ok_imul (q := 31) dX9_firstWrongClaim_30 rfl h_6 ?_
    refine ok_istore_nL (q := 32) (fun x3_7 => [(3, qi x3_7), (0, qr a0), (1, qi x1), (2, qi x2)]) dX9_firstWrongClaim_31 rfl rfl (Nat.le_of_ble_eq_true rfl) (fun _ => rfl) (fun x3_7 => ?_)
    exact fun g => ok_pick [1, 2, 3, 0] rfl (w_X9_firstWrongClaim_h32 (N := N) h0 H4 N _ _ _ _ g)
def X9_firstWrongClaim_h4 (N : Nat) (K : am_K) (F : am_F) (a0 : Nat) : Nat → am_I → Int → Int → Option (Int × am_I) := am_it (fun kh => X9_firstWrongClaim_s4 N K F a0 kh) (fun _ _ _ => none)
theorem w_X9_firstWrongClaim_h4 {η : am_E} {l : Launch} {N : Nat} {n : Nat} {K : am_K} {F : am_F} {a0 : Nat} {r0 : Int × am_I} (h0 : (K a0).1 = 9) (f : Nat) : ∀ (I : am_I) (x1 : Int) (x2 : Int), X9_firstWrongClaim_h4 N K F a0 f I x1 x2 = some r0 → Ok η l M_X9_firstWrongClaim (am_qm η (am_pS 1 r0 n K F) 0 0) 4 [(0, qr a0), (1, qi x1), (2, qi x2)] [] n K I F 0 0 := by
  induction f with
  | zero => intro I x1 x2 g; exact fi_none g
  | succ f ih => intro I x1 x2 g; exact w_X9_firstWrongClaim_s4 (N := N) h0 ih g
def X9_firstWrongClaim (N : Nat) (K : am_K) (F : am_F) (a0 : Nat) (I : am_I) : Option (Int × am_I) :=
  X9_firstWrongClaim_h4 N K F a0 N I 0 0
theorem w_X9_firstWrongClaim {η : am_E} {l : Launch} {N : Nat} {n : Nat} {K : am_K} {I : am_I} {F : am_F} {a0 : Nat} {r0 : Int × am_I} (h0 : (K a0).1 = 9) : X9_firstWrongClaim N K F a0 I = some r0 → Ok η l M_X9_firstWrongClaim (am_qm η (am_pS 1 r0 n K F) 0 0) 0 [(0, qr a0)] [] n K I F 0 0 := by
  unfold X9_firstWrongClaim
  refine ok_iconst (q := 1) (x := 0) dX9_firstWrongClaim_0 rfl rfl (by decide) ?_
  refine ok_istore_n (q := 2) (ls' := [(1, qi 0), (0, qr a0)]) dX9_firstWrongClaim_1 rfl rfl (Nat.le_of_ble_eq_true rfl) rfl ?_
  refine ok_iconst (q := 3) (x := 0) dX9_firstWrongClaim_2 rfl rfl (by decide) ?_
  refine ok_istore_n (q := 4) (ls' := [(2, qi 0), (1, qi 0), (0, qr a0)]) dX9_firstWrongClaim_3 rfl rfl (Nat.le_of_ble_eq_true rfl) rfl ?_
  exact fun g => ok_pick [2, 1, 0] rfl (w_X9_firstWrongClaim_h4 (N := N) h0 N _ _ _ g)
theorem ct_X9_firstWrongClaim {η : am_E} {l : Launch} {N : Nat} {n : Nat} {K : am_K} {I : am_I} {F : am_F} {a0 : Nat} {r0 : Int × am_I} (h0 : (K a0).1 = 9) : X9_firstWrongClaim N K F a0 I = some r0 → am_Ct η l yX9_firstWrongClaim cX9_firstWrongClaim 4 (some .int) 6 149 0 0 [qr a0] n K I F (am_pS 1 r0 n K F) := fun g => am_Ct.of false (by decide) (by decide) (Nat.le_of_ble_eq_true rfl) (fun _ => w_X9_firstWrongClaim (N := N) h0 g)
