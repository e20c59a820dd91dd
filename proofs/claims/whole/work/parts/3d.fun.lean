def M_X4_pitToRedo : am_M := (yX4_pitToRedo.cls, cX4_pitToRedo, 1, (some .int), am_room 0 0 0 0, false)
def X4_pitToRedo_b24 (N : Nat) (K : am_K) (F : am_F) (I : am_I) (a0 : Nat) (s0 : Int) : Option Int :=
  some (s0)
theorem w_X4_pitToRedo_b24 {η : am_E} {l : Launch} {N : Nat} {n : Nat} {K : am_K} {I : am_I} {F : am_F} {a0 : Nat} {r0 : Int} {s0 : Int} (h0 : (K a0).1 = 4) : X4_pitToRedo_b24 N K F I a0 s0 = some r0 → Ok η l M_X4_pitToRedo (am_qm η (am_pS 1 (r0, I) n K F) 0 0) 24 [(0, qr a0)] [qi s0] n K I F 0 0 := by
  unfold X4_pitToRedo_b24
  exact fi_ireturnP dX4_pitToRedo_24 rfl
def X4_pitToRedo (N : Nat) (K : am_K) (F : am_F) (I : am_I) (a0 : Nat) : Option Int :=
  if (I a0 0) < (I a0 1) then (if (K (F a0 2)).1 = 100 then if (0 : Int) ≤ (I a0 0) ∧ (I a0 0) < (K (F a0 2)).2 then X4_pitToRedo_b24 N K F I a0 (I (F a0 2) (I a0 0)) else none else none) else (X4_pitToRedo_b24 N K F I a0 (-1))
theorem w_X4_pitToRedo {η : am_E} {l : Launch} {N : Nat} {n : Nat} {K : am_K} {I : am_I} {F : am_F} {a0 : Nat} {r0 : Int} (h0 : (K a0).1 = 4) : X4_pitToRedo N K F I a0 = some r0 → Ok η l M_X4_pitToRedo (am_qm η (am_pS 1 (r0, I) n K F) 0 0) 0 [(0, qr a0)] [] n K I F 0 0 := by
  unfold X4_pitToRedo
  refine ok_aload_n (q := 1) 0 dX4_pitToRedo_0 rfl rfl rfl ?_
  refine ok_getI (q := 4) (ci := 4) (k := 0) (x := I a0 0) dX4_pitToRedo_1 rfl fo_X4_18 h0 rfl ?_
  refine ok_aload_n (q := 5) 0 dX4_pitToRedo_4 rfl rfl rfl ?_
  refine ok_getI (q := 8) (ci := 4) (k := 1) (x := I a0 1) dX4_pitToRedo_5 rfl fo_X4_22 h0 rfl ?_
  refine ok_icmp_ge (q := 23) (q2 := 11) dX4_pitToRedo_8 rfl rfl ?_ ?_
  · skip
    refine ok_iconst (q := 24) (x := -1) dX4_pitToRedo_23 rfl rfl (by decide) ?_
    exact fun g => ok_pick [0] rfl (w_X4_pitToRedo_b24 (N := N) h0 g)
  · skip
    refine ok_aload_n (q := 12) 0 dX4_pitToRedo_11 rfl rfl rfl ?_
    refine ok_getR (q := 15) (ci := 4) (k := 2) (x := F a0 2) dX4_pitToRedo_12 rfl fo_X4_9 h0 rfl ?_
    refine ok_aload_n (q := 16) 0 dX4_pitToRedo_15 rfl rfl rfl ?_
    refine ok_getI (q := 19) (ci := 4) (k := 0) (x := I a0 0) dX4_pitToRedo_16 rfl fo_X4_18 h0 rfl ?_
    refine fi_chk (fun h_1 => ?_)
    refine fi_chk (fun h_2 => ?_)
    refine ok_iaload (q := 20) (v := I (F a0 2) (I a0 0)) dX4_pitToRedo_19 rfl h_1 h_2.1 h_2.2 rfl ?_
    refine ok_goto (q := 24) dX4_pitToRedo_20 rfl ?_
    exact fun g => ok_pick [0] rfl (w_X4_pitToRedo_b24 (N := N) h0 g)
theorem ct_X4_pitToRedo {η : am_E} {l : Launch} {N : Nat} {n : Nat} {K : am_K} {I : am_I} {F : am_F} {a0 : Nat} {r0 : Int} (h0 : (K a0).1 = 4) : X4_pitToRedo N K F I a0 = some r0 → am_Ct η l yX4_pitToRedo cX4_pitToRedo 1 (some .int) 0 0 0 0 [qr a0] n K I F (am_pS 1 (r0, I) n K F) := fun g => am_Ct.of false (by decide) (by decide) (Nat.le_of_ble_eq_true rfl) (fun _ => w_X4_pitToRedo (N := N) h0 g)
def M_X5_init (mc ms : Nat) : am_M := (yX5_init.cls, cX5_init, 1, none, am_room 1 20 mc ms, true)
def X5_init (N : Nat) (a0 : Nat) (n : Nat) (K : am_K) (I : am_I) (F : am_F) : Option am_A :=
  if a0 ≠ 0 then some (0, n, K, I, F, 0, 0) else none
theorem w_X5_init {η : am_E} {l : Launch} {N : Nat} {n : Nat} {K : am_K} {I : am_I} {F : am_F} {a0 : Nat} {r0 : am_A} (h0 : (K a0).1 = 5) : X5_init N a0 n K I F = some r0 → Ok η l (M_X5_init (am_ac1 r0) (am_az1 r0)) (am_qm η (am_pA 0 r0) (am_ac1 r0) (am_az1 r0)) 0 [(0, qr a0)] [] n K I F 0 0 := by
  unfold X5_init
  refine ok_aload_n (q := 1) 0 dX5_init_0 rfl rfl rfl ?_
  refine fi_chk (fun h_1 => ?_)
  refine ok_objInit (q := 4) dX5_init_1 rfl oi_X5_1 h_1 (Nat.le_of_ble_eq_true rfl) (Nat.le_of_ble_eq_true rfl) (Nat.le_of_ble_eq_true rfl) ?_
  exact fi_returnA dX5_init_4 rfl
theorem ct_X5_init {η : am_E} {l : Launch} {N : Nat} {n : Nat} {K : am_K} {I : am_I} {F : am_F} {a0 : Nat} {r0 : am_A} (h0 : (K a0).1 = 5) : X5_init N a0 n K I F = some r0 → am_Ct η l yX5_init cX5_init 1 none 1 20 (am_ac1 r0) (am_az1 r0) [qr a0] n K I F (am_pA 0 r0) := fun g => am_Ct.of true (by decide) (by decide) (Nat.le_of_ble_eq_true rfl) (fun _ => w_X5_init (N := N) h0 g)
def M_X5_become : am_M := (yX5_become.cls, cX5_become, 4, none, am_room 0 0 0 0, false)
def X5_become_b17 (N : Nat) (K : am_K) (F : am_F) (a0 : Nat) (I : am_I) (s0 : Int) (t1 : Nat) : Option (Int × am_I) :=
  if (K t1).1 = 5 then am_lt (am_u2 I t1 1 s0) (fun I_2 => some (0, I_2)) else none
theorem w_X5_become_b17 {η : am_E} {l : Launch} {N : Nat} {n : Nat} {K : am_K} {I : am_I} {F : am_F} {a0 : Nat} {r0 : Int × am_I} {s0 : Int} {t1 : Nat} (h0 : (K a0).1 = 5) : X5_become_b17 N K F a0 I s0 t1 = some r0 → Ok η l M_X5_become (am_qm η (am_pS 0 r0 n K F) 0 0) 17 [(0, qr a0)] [ql s0, qr t1] n K I F 0 0 := by
  unfold X5_become_b17
  refine fi_chk (fun h_1 => ?_)
  refine ok_putL (q := 20) (ci := 5) (k := 1) dX5_become_17 rfl fo_X5_13 h_1 ft_5_1 ff_5_1 (fun I_2 => ?_)
  exact fi_returnS dX5_become_20 rfl
def X5_become (N : Nat) (K : am_K) (F : am_F) (a0 : Nat) (I : am_I) (x1 : Int) (x2 : Int) : Option (Int × am_I) :=
  am_lt (am_u2 I a0 0 x1) (fun I_1 => if (am_cmp x2 0) = 0 then (X5_become_b17 N K F a0 I_1 1 a0) else (X5_become_b17 N K F a0 I_1 x2 a0))
theorem w_X5_become {η : am_E} {l : Launch} {N : Nat} {n : Nat} {K : am_K} {I : am_I} {F : am_F} {a0 : Nat} {r0 : Int × am_I} {x1 : Int} {x2 : Int} (h0 : (K a0).1 = 5) : X5_become N K F a0 I x1 x2 = some r0 → Ok η l M_X5_become (am_qm η (am_pS 0 r0 n K F) 0 0) 0 [(0, qr a0), (1, qi x1), (2, ql x2)] [] n K I F 0 0 := by
  unfold X5_become
  refine ok_aload_n (q := 1) 0 dX5_become_0 rfl rfl rfl ?_
  refine ok_iload_n (q := 2) 1 dX5_become_1 rfl rfl rfl ?_
  refine ok_putI (q := 5) (ci := 5) (k := 0) dX5_become_2 rfl fo_X5_7 h0 ft_5_0 ff_5_0 (fun I_1 => ?_)
  refine ok_aload_n (q := 6) 0 dX5_become_5 rfl rfl rfl ?_
  refine ok_lload_n (q := 7) 2 dX5_become_6 rfl rfl rfl ?_
  refine ok_lconst (q := 8) (x := 0) dX5_become_7 rfl rfl (by decide) ?_
  refine ok_lcmp (q := 9) dX5_become_8 rfl ?_
  refine ok_if_ne (q := 16) (q2 := 12) dX5_become_9 rfl rfl ?_ ?_
  · skip
    refine ok_lload_n (q := 17) 2 dX5_become_16 rfl rfl rfl ?_
    exact fun g => ok_pick [0] rfl (w_X5_become_b17 (N := N) h0 g)
  · skip
    refine ok_lconst (q := 13) (x := 1) dX5_become_12 rfl rfl (by decide) ?_
    refine ok_goto (q := 17) dX5_become_13 rfl ?_
    exact fun g => ok_pick [0] rfl (w_X5_become_b17 (N := N) h0 g)
theorem ct_X5_become {η : am_E} {l : Launch} {N : Nat} {n : Nat} {K : am_K} {I : am_I} {F : am_F} {a0 : Nat} {r0 : Int × am_I} {x1 : Int} {x2 : Int} (h0 : (K a0).1 = 5) : X5_become N K F a0 I x1 x2 = some r0 → am_Ct η l yX5_become cX5_become 4 none 0 0 0 0 [qr a0, qi x1, ql x2] n K I F (am_pS 0 r0 n K F) := fun g => am_Ct.of false (by decide) (by decide) (Nat.le_of_ble_eq_true rfl) (fun _ => w_X5_become (N := N) h0 g)
def M_X5_nextBelow : am_M := (yX5_nextBelow.cls, cX5_nextBelow, 2, (some .int), am_room 0 0 0 0, false)
def X5_nextBelow_b67 (N : Nat) (K : am_K) (F : am_F) (a0 : Nat) (I : am_I) (s0 : Int) : Option (Int × am_I) :=
  some (s0, I)
theorem w_X5_nextBelow_b67 {η : am_E} {l : Launch} {N : Nat} {n : Nat} {K : am_K} {I : am_I} {F : am_F} {a0 : Nat} {r0 : Int × am_I} {s0 : Int} (h0 : (K a0).1 = 5) : X5_nextBelow_b67 N K F a0 I s0 = some r0 → Ok η l M_X5_nextBelow (am_qm η (am_pS 1 r0 n K F) 0 0) 67 [(0, qr a0)] [qi s0] n K I F 0 0 := by
  unfold X5_nextBelow_b67
  exact fi_ireturnS dX5_nextBelow_67 rfl
def X5_nextBelow (N : Nat) (K : am_K) (F : am_F) (a0 : Nat) (I : am_I) (x1 : Int) : Option (Int × am_I) :=
  am_lt (am_u2 I a0 1 (am_lxor (I a0 1) (am_lshl (I a0 1) 13))) (fun I_1 => am_lt (am_u2 I_1 a0 1 (am_lxor (I_1 a0 1) (am_lushr (I_1 a0 1) 7))) (fun I_2 => am_lt (am_u2 I_2 a0 1 (am_lxor (I_2 a0 1) (am_lshl (I_2 a0 1) 17))) (fun I_3 => if x1 < 1 then (X5_nextBelow_b67 N K F a0 I_3 0) else (if x1 ≠ (0 : Int) then if am_inI (am_lrem (am_lushr (I_3 a0 1) 1) x1) then X5_nextBelow_b67 N K F a0 I_3 (am_lrem (am_lushr (I_3 a0 1) 1) x1) else none else none))))
theorem w_X5_nextBelow {η : am_E} {l : Launch} {N : Nat} {n : Nat} {K : am_K} {I : am_I} {F : am_F} {a0 : Nat} {r0 : Int × am_I} {x1 : Int} (h0 : (K a0).1 = 5) : X5_nextBelow N K F a0 I x1 = some r0 → Ok η l M_X5_nextBelow (am_qm η (am_pS 1 r0 n K F) 0 0) 0 [(0, qr a0), (1, qi x1)] [] n K I F 0 0 := by
  unfold X5_nextBelow
  refine ok_aload_n (q := 1) 0 dX5_nextBelow_0 rfl rfl rfl ?_
  refine ok_dup (q := 2) dX5_nextBelow_1 rfl rfl ?_
  refine ok_getL (q := 5) (ci := 5) (k := 1) (x := I a0 1) dX5_nextBelow_2 rfl fo_X5_13 h0 rfl ?_
  refine ok_aload_n (q := 6) 0 dX5_nextBelow_5 rfl rfl rfl ?_
  refine ok_getL (q := 9) (ci := 5) (k := 1) (x := I a0 1) dX5_nextBelow_6 rfl fo_X5_13 h0 rfl ?_
  refine ok_bipush (q := 11) (x := 13) dX5_nextBelow_9 rfl rfl (by decide) ?_
  refine ok_lshl (q := 12) (r := am_lshl (I a0 1) 13) dX5_nextBelow_11 rfl rfl ?_
  refine ok_lxor (q := 13) (r := am_lxor (I a0 1) (am_lshl (I a0 1) 13)) dX5_nextBelow_12 rfl rfl ?_
  refine ok_putL (q := 16) (ci := 5) (k := 1) dX5_nextBelow_13 rfl fo_X5_13 h0 ft_5_1 ff_5_1 (fun I_1 => ?_)
  refine ok_aload_n (q := 17) 0 dX5_nextBelow_16 rfl rfl rfl ?_
  refine ok_dup (q := 18) dX5_nextBelow_17 rfl rfl ?_
  refine ok_getL (q := 21) (ci := 5) (k := 1) (x := I_1 a0 1) dX5_nextBelow_18 rfl fo_X5_13 h0 rfl ?_
  refine ok_aload_n (q := 22) 0 dX5_nextBelow_21 rfl rfl rfl ?_
  refine ok_getL (q := 25) (ci := 5) (k := 1) (x := I_1 a0 1) dX5_nextBelow_22 rfl fo_X5_13 h0 rfl ?_
  refine ok_bipush (q := 27) (x := 7) dX5_nextBelow_25 rfl rfl (by decide) ?_
  refine ok_lushr (q := 28) (r := am_lushr (I_1 a0 1) 7) dX5_nextBelow_27 rfl rfl ?_
  refine ok_lxor (q := 29) (r := am_lxor (I_1 a0 1) (am_lushr (I_1 a0 1) 7)) dX5_nextBelow_28 rfl rfl ?_
  refine ok_putL (q := 32) (ci := 5) (k := 1) dX5_nextBelow_29 rfl fo_X5_13 h0 ft_5_1 ff_5_1 (fun I_2 => ?_)
  refine ok_aload_n (q := 33) 0 dX5_nextBelow_32 rfl rfl rfl ?_
  refine ok_dup (q := 34) dX5_nextBelow_33 rfl rfl ?_
  refine ok_getL (q := 37) (ci := 5) (k := 1) (x := I_2 a0 1) dX5_nextBelow_34 rfl fo_X5_13 h0 rfl ?_
  refine ok_aload_n (q := 38) 0 dX5_nextBelow_37 rfl rfl rfl ?_
  refine ok_getL (q := 41) (ci := 5) (k := 1) (x := I_2 a0 1) dX5_nextBelow_38 rfl fo_X5_13 h0 rfl ?_
  refine ok_bipush (q := 43) (x := 17) dX5_nextBelow_41 rfl rfl (by decide) ?_
  refine ok_lshl (q := 44) (r := am_lshl (I_2 a0 1) 17) dX5_nextBelow_43 rfl rfl ?_
  refine ok_lxor (q := 45) (r := am_lxor (I_2 a0 1) (am_lshl (I_2 a0 1) 17)) dX5_nextBelow_44 rfl rfl ?_
  refine ok_putL (q := 48) (ci := 5) (k := 1) dX5_nextBelow_45 rfl fo_X5_13 h0 ft_5_1 ff_5_1 (fun I_3 => ?_)
  refine ok_iload_n (q := 49) 1 dX5_nextBelow_48 rfl rfl rfl ?_
  refine ok_iconst (q := 50) (x := 1) dX5_nextBelow_49 rfl rfl (by decide) ?_
  refine ok_icmp_ge (q := 57) (q2 := 53) dX5_nextBelow_50 rfl rfl ?_ ?_
  · skip
    refine ok_aload_n (q := 58) 0 dX5_nextBelow_57 rfl rfl rfl ?_
    refine ok_getL (q := 61) (ci := 5) (k := 1) (x := I_3 a0 1) dX5_nextBelow_58 rfl fo_X5_13 h0 rfl ?_
    refine ok_iconst (q := 62) (x := 1) dX5_nextBelow_61 rfl rfl (by decide) ?_
    refine ok_lushr (q := 63) (r := am_lushr (I_3 a0 1) 1) dX5_nextBelow_62 rfl rfl ?_
    refine ok_iload_n (q := 64) 1 dX5_nextBelow_63 rfl rfl rfl ?_
    refine ok_i2l (q := 65) dX5_nextBelow_64 rfl ?_
    refine fi_chk (fun h_4 => ?_)
    refine ok_lrem (q := 66) (r := am_lrem (am_lushr (I_3 a0 1) 1) x1) dX5_nextBelow_65 rfl h_4 rfl ?_
    refine fi_chk (fun h_5 => ?_)
    refine ok_l2i (q := 67) dX5_nextBelow_66 rfl h_5 ?_
    exact fun g => ok_pick [0] rfl (w_X5_nextBelow_b67 (N := N) h0 g)
  · skip
    refine ok_iconst (q := 54) (x := 0) dX5_nextBelow_53 rfl rfl (by decide) ?_
    refine ok_goto (q := 67) dX5_nextBelow_54 rfl ?_
    exact fun g => ok_pick [0] rfl (w_X5_nextBelow_b67 (N := N) h0 g)
theorem ct_X5_nextBelow {η : am_E} {l : Launch} {N : Nat} {n : Nat} {K : am_K} {I : am_I} {F : am_F} {a0 : Nat} {r0 : Int × am_I} {x1 : Int} (h0 : (K a0).1 = 5) : X5_nextBelow N K F a0 I x1 = some r0 → am_Ct η l yX5_nextBelow cX5_nextBelow 2 (some .int) 0 0 0 0 [qr a0, qi x1] n K I F (am_pS 1 r0 n K F) := fun g => am_Ct.of false (by decide) (by decide) (Nat.le_of_ble_eq_true rfl) (fun _ => w_X5_nextBelow (N := N) h0 g)
def M_X6_init (mc ms : Nat) : am_M := (yX6_init.cls, cX6_init, 1, none, am_room 1 20 mc ms, true)
def X6_init (N : Nat) (a0 : Nat) (n : Nat) (K : am_K) (I : am_I) (F : am_F) : Option am_A :=
  if a0 ≠ 0 then if (0 : Int) ≤ 32 ∧ 32 ≤ (60000000 : Int) then am_nw n (100, 32) K I F (fun n_2 K_3 I_4 F_5 => am_mo (0 + 1) (0 + (32 : Int).toNat) (if (K_3 a0).1 = 6 then am_lt (am_u2 F_5 a0 0 n) (fun F_11 => if (0 : Int) ≤ 2 ∧ 2 ≤ (60000000 : Int) then am_nw n_2 (100, 2) K_3 I_4 F_11 (fun n_12 K_13 I_14 F_15 => am_mo ((0 + 1) + 1) ((0 + (32 : Int).toNat) + (2 : Int).toNat) (if (K_13 a0).1 = 6 then am_lt (am_u2 F_15 a0 1 n_2) (fun F_21 => some (0, n_12, K_13, I_14, F_21, ((0 + 1) + 1), ((0 + (32 : Int).toNat) + (2 : Int).toNat))) else none)) else none) else none)) else none else none
theorem w_X6_init {η : am_E} {l : Launch} {N : Nat} {n : Nat} {K : am_K} {I : am_I} {F : am_F} {a0 : Nat} {r0 : am_A} (h0 : (K a0).1 = 6) : X6_init N a0 n K I F = some r0 → Ok η l (M_X6_init (am_ac1 r0) (am_az1 r0)) (am_qm η (am_pA 0 r0) (am_ac1 r0) (am_az1 r0)) 0 [(0, qr a0)] [] n K I F 0 0 := by
  unfold X6_init
  refine ok_aload_n (q := 1) 0 dX6_init_0 rfl rfl rfl ?_
  refine fi_chk (fun h_1 => ?_)
  refine ok_objInit (q := 4) dX6_init_1 rfl oi_X6_3 h_1 (Nat.le_of_ble_eq_true rfl) (Nat.le_of_ble_eq_true rfl) (Nat.le_of_ble_eq_true rfl) ?_
  refine ok_aload_n (q := 5) 0 dX6_init_4 rfl rfl rfl ?_
  refine ok_bipush (q := 7) (x := 32) dX6_init_5 rfl rfl (by decide) ?_
  refine fi_chk (fun h_6 => ?_)
  refine fi_newi (q := 9) dX6_init_7 rfl h_6 na_newi (Nat.le_refl _) (Nat.le_refl _) (fun n_2 K_3 I_4 F_5 hc_8 hz_9 h_7 => ?_)
  refine fi_chk (fun h_10 => ?_)
  refine ok_putRF (q := 12) (ci := 6) (k := 0) dX6_init_9 rfl fo_X6_9 h_10 ft_6_0 rfl ff_6_0 rfl rfl (fun F_11 => ?_)
  refine ok_aload_n (q := 13) 0 dX6_init_12 rfl rfl rfl ?_
  refine ok_iconst (q := 14) (x := 2) dX6_init_13 rfl rfl (by decide) ?_
  refine fi_chk (fun h_16 => ?_)
  refine fi_newi (q := 16) dX6_init_14 rfl h_16 na_newi (Nat.le_refl _) (Nat.le_refl _) (fun n_12 K_13 I_14 F_15 hc_18 hz_19 h_17 => ?_)
  refine fi_chk (fun h_20 => ?_)
  refine ok_putRF (q := 19) (ci := 6) (k := 1) dX6_init_16 rfl fo_X6_15 h_20 ft_6_1 rfl ff_6_1 rfl rfl (fun F_21 => ?_)
  exact fi_returnA dX6_init_19 rfl
theorem ct_X6_init {η : am_E} {l : Launch} {N : Nat} {n : Nat} {K : am_K} {I : am_I} {F : am_F} {a0 : Nat} {r0 : am_A} (h0 : (K a0).1 = 6) : X6_init N a0 n K I F = some r0 → am_Ct η l yX6_init cX6_init 1 none 1 20 (am_ac1 r0) (am_az1 r0) [qr a0] n K I F (am_pA 0 r0) := fun g => am_Ct.of true (by decide) (by decide) (Nat.le_of_ble_eq_true rfl) (fun _ => w_X6_init (N := N) h0 g)
def M_X6_clear : am_M := (yX6_clear.cls, cX6_clear, 1, none, am_room 1 23 0 0, false)
def X6_clear (N : Nat) (K : am_K) (F : am_F) (a0 : Nat) (I : am_I) : Option (Int × am_I) :=
  am_cl (J7_fill_53178 N K F I (F a0 0) 0) (fun _ I_1 => am_cl (J7_fill_53178 N K F I_1 (F a0 1) 0) (fun _ I_2 => am_lt (am_u2 I_2 a0 2 0) (fun I_3 => some (0, I_3))))
theorem w_X6_clear {η : am_E} {l : Launch} {N : Nat} {n : Nat} {K : am_K} {I : am_I} {F : am_F} {a0 : Nat} {r0 : Int × am_I} (h0 : (K a0).1 = 6) : X6_clear N K F a0 I = some r0 → Ok η l M_X6_clear (am_qm η (am_pS 0 r0 n K F) 0 0) 0 [(0, qr a0)] [] n K I F 0 0 := by
  unfold X6_clear
  refine ok_aload_n (q := 1) 0 dX6_clear_0 rfl rfl rfl ?_
  refine ok_getR (q := 4) (ci := 6) (k := 0) (x := F a0 0) dX6_clear_1 rfl fo_X6_9 h0 rfl ?_
  refine ok_iconst (q := 5) (x := 0) dX6_clear_4 rfl rfl (by decide) ?_
  refine fi_callS0S (q := 8) (as := [qr (F a0 0), qi 0]) (st := []) dX6_clear_5 rfl mo_X6_18 rfl rfl (Nat.le_of_ble_eq_true rfl) (Nat.le_of_ble_eq_true rfl) (Nat.le_of_ble_eq_true rfl) (Nat.zero_le _) (Nat.zero_le _) (fun _ hr => ct_J7_fill_53178 (N := N) hr) (fun _ I_1 => ?_)
  refine ok_aload_n (q := 9) 0 dX6_clear_8 rfl rfl rfl ?_
  refine ok_getR (q := 12) (ci := 6) (k := 1) (x := F a0 1) dX6_clear_9 rfl fo_X6_15 h0 rfl ?_
  refine ok_iconst (q := 13) (x := 0) dX6_clear_12 rfl rfl (by decide) ?_
  refine fi_callS0S (q := 16) (as := [qr (F a0 1), qi 0]) (st := []) dX6_clear_13 rfl mo_X6_18 rfl rfl (Nat.le_of_ble_eq_true rfl) (Nat.le_of_ble_eq_true rfl) (Nat.le_of_ble_eq_true rfl) (Nat.zero_le _) (Nat.zero_le _) (fun _ hr => ct_J7_fill_53178 (N := N) hr) (fun _ I_2 => ?_)
  refine ok_aload_n (q := 17) 0 dX6_clear_16 rfl rfl rfl ?_
  refine ok_iconst (q := 18) (x := 0) dX6_clear_17 rfl rfl (by decide) ?_
  refine ok_putI (q := 21) (ci := 6) (k := 2) dX6_clear_18 rfl fo_X6_24 h0 ft_6_2 ff_6_2 (fun I_3 => ?_)
  exact fi_returnS dX6_clear_21 rfl
theorem ct_X6_clear {η : am_E} {l : Launch} {N : Nat} {n : Nat} {K : am_K} {I : am_I} {F : am_F} {a0 : Nat} {r0 : Int × am_I} (h0 : (K a0).1 = 6) : X6_clear N K F a0 I = some r0 → am_Ct η l yX6_clear cX6_clear 1 none 1 23 0 0 [qr a0] n K I F (am_pS 0 r0 n K F) := fun g => am_Ct.of false (by decide) (by decide) (Nat.le_of_ble_eq_true rfl) (fun _ => w_X6_clear (N := N) h0 g)
def M_X6_follow : am_M := (yX6_follow.cls, cX6_follow, 3, none, am_room 1 26 0 0, false)
def X6_follow (N : Nat) (K : am_K) (F : am_F) (a0 : Nat) (I : am_I) (a1 : Nat) (x2 : Int) : Option (Int × am_I) :=
  if (K a1).1 = 100 then if (K (F a0 0)).1 = 100 then if F a0 0 ≠ 1 then if a1 ≠ 1 then if (0 : Int) ≤ 0 ∧ (0 : Int) ≤ 0 ∧ (0 : Int) ≤ 32 ∧ 0 + 32 ≤ (K a1).2 ∧ 0 + 32 ≤ (K (F a0 0)).2 then am_lt (am_cp I a1 0 (F a0 0) 0 32) (fun I_6 => if (K (F a0 1)).1 = 100 then if (0 : Int) ≤ (I_6 a0 2) ∧ (I_6 a0 2) < (K (F a0 1)).2 then if am_inI ((I_6 (F a0 1) (I_6 a0 2)) + x2) then if F a0 1 ≠ 1 then am_lt (am_u2 I_6 (F a0 1) (I_6 a0 2) ((I_6 (F a0 1) (I_6 a0 2)) + x2)) (fun I_11 => if am_inI (1 - (I_11 a0 2)) then am_lt (am_u2 I_11 a0 2 (1 - (I_11 a0 2))) (fun I_13 => some (0, I_13)) else none) else none else none else none else none) else none else none else none else none else none
theorem w_X6_follow {η : am_E} {l : Launch} {N : Nat} {n : Nat} {K : am_K} {I : am_I} {F : am_F} {a0 : Nat} {r0 : Int × am_I} {a1 : Nat} {x2 : Int} (h0 : (K a0).1 = 6) : X6_follow N K F a0 I a1 x2 = some r0 → Ok η l M_X6_follow (am_qm η (am_pS 0 r0 n K F) 0 0) 0 [(0, qr a0), (1, qr a1), (2, qi x2)] [] n K I F 0 0 := by
  unfold X6_follow
  refine ok_aload_n (q := 1) 1 dX6_follow_0 rfl rfl rfl ?_
  refine ok_iconst (q := 2) (x := 0) dX6_follow_1 rfl rfl (by decide) ?_
  refine ok_aload_n (q := 3) 0 dX6_follow_2 rfl rfl rfl ?_
  refine ok_getR (q := 6) (ci := 6) (k := 0) (x := F a0 0) dX6_follow_3 rfl fo_X6_9 h0 rfl ?_
  refine ok_iconst (q := 7) (x := 0) dX6_follow_6 rfl rfl (by decide) ?_
  refine ok_bipush (q := 9) (x := 32) dX6_follow_7 rfl rfl (by decide) ?_
  refine fi_chk (fun h_1 => ?_)
  refine fi_chk (fun h_2 => ?_)
  refine fi_chk (fun h_3 => ?_)
  refine fi_chk (fun h_4 => ?_)
  refine fi_chk (fun h_5 => ?_)
  refine ok_arraycopy (q := 12) dX6_follow_9 rfl ac_X6_28 h_1 h_2 h_3 h_4 h_5 (Nat.le_of_ble_eq_true rfl) (Nat.le_of_ble_eq_true rfl) (Nat.le_of_ble_eq_true rfl) (fun I_6 => ?_)
  refine ok_aload_n (q := 13) 0 dX6_follow_12 rfl rfl rfl ?_
  refine ok_getR (q := 16) (ci := 6) (k := 1) (x := F a0 1) dX6_follow_13 rfl fo_X6_15 h0 rfl ?_
  refine ok_aload_n (q := 17) 0 dX6_follow_16 rfl rfl rfl ?_
  refine ok_getI (q := 20) (ci := 6) (k := 2) (x := I_6 a0 2) dX6_follow_17 rfl fo_X6_24 h0 rfl ?_
  refine ok_dup2 (q := 21) dX6_follow_20 rfl rfl rfl ?_
  refine fi_chk (fun h_7 => ?_)
  refine fi_chk (fun h_8 => ?_)
  refine ok_iaload (q := 22) (v := I_6 (F a0 1) (I_6 a0 2)) dX6_follow_21 rfl h_7 h_8.1 h_8.2 rfl ?_
  refine ok_iload_n (q := 23) 2 dX6_follow_22 rfl rfl rfl ?_
  refine fi_chk (fun h_9 => ?_)
  refine ok_iadd (q := 24) dX6_follow_23 rfl h_9 ?_
  refine fi_chk (fun h_10 => ?_)
  refine ok_iastore (q := 25) dX6_follow_24 rfl h_7 h_10 h_8.1 h_8.2 (fun I_11 => ?_)
  refine ok_aload_n (q := 26) 0 dX6_follow_25 rfl rfl rfl ?_
  refine ok_iconst (q := 27) (x := 1) dX6_follow_26 rfl rfl (by decide) ?_
  refine ok_aload_n (q := 28) 0 dX6_follow_27 rfl rfl rfl ?_
  refine ok_getI (q := 31) (ci := 6) (k := 2) (x := I_11 a0 2) dX6_follow_28 rfl fo_X6_24 h0 rfl ?_
  refine fi_chk (fun h_12 => ?_)
  refine ok_isub (q := 32) dX6_follow_31 rfl h_12 ?_
  refine ok_putI (q := 35) (ci := 6) (k := 2) dX6_follow_32 rfl fo_X6_24 h0 ft_6_2 ff_6_2 (fun I_13 => ?_)
  exact fi_returnS dX6_follow_35 rfl
theorem ct_X6_follow {η : am_E} {l : Launch} {N : Nat} {n : Nat} {K : am_K} {I : am_I} {F : am_F} {a0 : Nat} {r0 : Int × am_I} {a1 : Nat} {x2 : Int} (h0 : (K a0).1 = 6) : X6_follow N K F a0 I a1 x2 = some r0 → am_Ct η l yX6_follow cX6_follow 3 none 1 26 0 0 [qr a0, qr a1, qi x2] n K I F (am_pS 0 r0 n K F) := fun g => am_Ct.of false (by decide) (by decide) (Nat.le_of_ble_eq_true rfl) (fun _ => w_X6_follow (N := N) h0 g)
def M_X7_init (mc ms : Nat) : am_M := (yX7_init.cls, cX7_init, 2, none, am_room 1 20 mc ms, true)
def X7_init (N : Nat) (a0 : Nat) (n : Nat) (K : am_K) (I : am_I) (F : am_F) (a1 : Nat) : Option am_A :=
  if a0 ≠ 0 then if (0 : Int) ≤ 0 ∧ 0 ≤ (60000000 : Int) then am_nw n (100, 0) K I F (fun n_2 K_3 I_4 F_5 => am_mo (0 + 1) (0 + (0 : Int).toNat) (if (K_3 a0).1 = 7 then am_lt (am_u2 F_5 a0 1 n) (fun F_11 => am_nw n_2 (100, 0) K_3 I_4 F_11 (fun n_12 K_13 I_14 F_15 => am_mo ((0 + 1) + 1) ((0 + (0 : Int).toNat) + (0 : Int).toNat) (if (K_13 a0).1 = 7 then am_lt (am_u2 F_15 a0 2 n_2) (fun F_20 => am_nw n_12 (100, 0) K_13 I_14 F_20 (fun n_21 K_22 I_23 F_24 => am_mo (((0 + 1) + 1) + 1) (((0 + (0 : Int).toNat) + (0 : Int).toNat) + (0 : Int).toNat) (if (K_22 a0).1 = 7 then am_lt (am_u2 F_24 a0 3 n_12) (fun F_29 => am_nw n_21 (100, 0) K_22 I_23 F_29 (fun n_30 K_31 I_32 F_33 => am_mo ((((0 + 1) + 1) + 1) + 1) ((((0 + (0 : Int).toNat) + (0 : Int).toNat) + (0 : Int).toNat) + (0 : Int).toNat) (if (K_31 a0).1 = 7 then am_lt (am_u2 F_33 a0 4 n_21) (fun F_38 => if (0 : Int) ≤ 1 ∧ 1 ≤ (60000000 : Int) then am_nw n_30 (100, 1) K_31 I_32 F_38 (fun n_39 K_40 I_41 F_42 => am_mo (((((0 + 1) + 1) + 1) + 1) + 1) (((((0 + (0 : Int).toNat) + (0 : Int).toNat) + (0 : Int).toNat) + (0 : Int).toNat) + (1 : Int).toNat) (if (K_40 a0).1 = 7 then am_lt (am_u2 F_42 a0 5 n_30) (fun F_48 => am_nw n_39 (100, 0) K_40 I_41 F_48 (fun n_49 K_50 I_51 F_52 => am_mo ((((((0 + 1) + 1) + 1) + 1) + 1) + 1) ((((((0 + (0 : Int).toNat) + (0 : Int).toNat) + (0 : Int).toNat) + (0 : Int).toNat) + (1 : Int).toNat) + (0 : Int).toNat) (if (K_50 a0).1 = 7 then am_lt (am_u2 F_52 a0 6 n_39) (fun F_57 => am_lt (am_u2 F_57 a0 0 a1) (fun F_58 => some (0, n_49, K_50, I_51, F_58, ((((((0 + 1) + 1) + 1) + 1) + 1) + 1), ((((((0 + (0 : Int).toNat) + (0 : Int).toNat) + (0 : Int).toNat) + (0 : Int).toNat) + (1 : Int).toNat) + (0 : Int).toNat)))) else none))) else none)) else none) else none))) else none))) else none))) else none)) else none else none
theorem w_X7_init {η : am_E} {l : Launch} {N : Nat} {n : Nat} {K : am_K} {I : am_I} {F : am_F} {a0 : Nat} {r0 : am_A} {a1 : Nat} (h0 : (K a0).1 = 7) : X7_init N a0 n K I F a1 = some r0 → Ok η l (M_X7_init (am_ac1 r0) (am_az1 r0)) (am_qm η (am_pA 0 r0) (am_ac1 r0) (am_az1 r0)) 0 [(0, qr a0), (1, qr a1)] [] n K I F 0 0 := by
  unfold X7_init
  refine ok_aload_n (q := 1) 0 dX7_init_0 rfl rfl rfl ?_
  refine fi_chk (fun h_1 => ?_)
  refine ok_objInit (q := 4) dX7_init_1 rfl oi_X7_3 h_1 (Nat.le_of_ble_eq_true rfl) (Nat.le_of_ble_eq_true rfl) (Nat.le_of_ble_eq_true rfl) ?_
  refine ok_aload_n (q := 5) 0 dX7_init_4 rfl rfl rfl ?_
  refine ok_iconst (q := 6) (x := 0) dX7_init_5 rfl rfl (by decide) ?_
  refine fi_chk (fun h_6 => ?_)
  refine fi_newi (q := 8) dX7_init_6 rfl h_6 na_newi (Nat.le_refl _) (Nat.le_refl _) (fun n_2 K_3 I_4 F_5 hc_8 hz_9 h_7 => ?_)
  refine fi_chk (fun h_10 => ?_)
  refine ok_putR (q := 11) (ci := 7) (k := 1) dX7_init_8 rfl fo_X7_9 h_10 ft_7_1 rfl ff_7_1 (fun F_11 => ?_)
  refine ok_aload_n (q := 12) 0 dX7_init_11 rfl rfl rfl ?_
  refine ok_iconst (q := 13) (x := 0) dX7_init_12 rfl rfl (by decide) ?_
  refine fi_newi (q := 15) dX7_init_13 rfl h_6 na_newi (Nat.le_refl _) (Nat.le_refl _) (fun n_12 K_13 I_14 F_15 hc_17 hz_18 h_16 => ?_)
  refine fi_chk (fun h_19 => ?_)
  refine ok_putR (q := 18) (ci := 7) (k := 2) dX7_init_15 rfl fo_X7_15 h_19 ft_7_2 rfl ff_7_2 (fun F_20 => ?_)
  refine ok_aload_n (q := 19) 0 dX7_init_18 rfl rfl rfl ?_
  refine ok_iconst (q := 20) (x := 0) dX7_init_19 rfl rfl (by decide) ?_
  refine fi_newi (q := 22) dX7_init_20 rfl h_6 na_newi (Nat.le_refl _) (Nat.le_refl _) (fun n_21 K_22 I_23 F_24 hc_26 hz_27 h_25 => ?_)
  refine fi_chk (fun h_28 => ?_)
  refine ok_putR (q := 25) (ci := 7) (k := 3) dX7_init_22 rfl fo_X7_18 h_28 ft_7_3 rfl ff_7_3 (fun F_29 => ?_)
  refine ok_aload_n (q := 26) 0 dX7_init_25 rfl rfl rfl ?_
  refine ok_iconst (q := 27) (x := 0) dX7_init_26 rfl rfl (by decide) ?_
  refine fi_newi (q := 29) dX7_init_27 rfl h_6 na_newi (Nat.le_refl _) (Nat.le_refl _) (fun n_30 K_31 I_32 F_33 hc_35 hz_36 h_34 => ?_)
  refine fi_chk (fun h_37 => ?_)
  refine ok_putR (q := 32) (ci := 7) (k := 4) dX7_init_29 rfl fo_X7_21 h_37 ft_7_4 rfl ff_7_4 (fun F_38 => ?_)
  refine ok_aload_n (q := 33) 0 dX7_init_32 rfl rfl rfl ?_
  refine ok_iconst (q := 34) (x := 1) dX7_init_33 rfl rfl (by decide) ?_
  refine fi_chk (fun h_43 => ?_)
  refine fi_newi (q := 36) dX7_init_34 rfl h_43 na_newi (Nat.le_refl _) (Nat.le_refl _) (fun n_39 K_40 I_41 F_42 hc_45 hz_46 h_44 => ?_)
  refine fi_chk (fun h_47 => ?_)
  refine ok_putR (q := 39) (ci := 7) (k := 5) dX7_init_36 rfl fo_X7_24 h_47 ft_7_5 rfl ff_7_5 (fun F_48 => ?_)
  refine ok_aload_n (q := 40) 0 dX7_init_39 rfl rfl rfl ?_
  refine ok_iconst (q := 41) (x := 0) dX7_init_40 rfl rfl (by decide) ?_
  refine fi_newi (q := 43) dX7_init_41 rfl h_6 na_newi (Nat.le_refl _) (Nat.le_refl _) (fun n_49 K_50 I_51 F_52 hc_54 hz_55 h_53 => ?_)
  refine fi_chk (fun h_56 => ?_)
  refine ok_putR (q := 46) (ci := 7) (k := 6) dX7_init_43 rfl fo_X7_27 h_56 ft_7_6 rfl ff_7_6 (fun F_57 => ?_)
  refine ok_aload_n (q := 47) 0 dX7_init_46 rfl rfl rfl ?_
  refine ok_aload_n (q := 48) 1 dX7_init_47 rfl rfl rfl ?_
  refine ok_putRF (q := 51) (ci := 7) (k := 0) dX7_init_48 rfl fo_X7_30 h_56 ft_7_0 rfl ff_7_0 rfl rfl (fun F_58 => ?_)
  exact fi_returnA dX7_init_51 rfl
theorem ct_X7_init {η : am_E} {l : Launch} {N : Nat} {n : Nat} {K : am_K} {I : am_I} {F : am_F} {a0 : Nat} {r0 : am_A} {a1 : Nat} (h0 : (K a0).1 = 7) : X7_init N a0 n K I F a1 = some r0 → am_Ct η l yX7_init cX7_init 2 none 1 20 (am_ac1 r0) (am_az1 r0) [qr a0, qr a1] n K I F (am_pA 0 r0) := fun g => am_Ct.of true (by decide) (by decide) (Nat.le_of_ble_eq_true rfl) (fun _ => w_X7_init (N := N) h0 g)
def M_X7_makeRoom (mc ms : Nat) : am_M := (yX7_makeRoom.cls, cX7_makeRoom, 2, none, am_room 0 0 mc ms, false)
def X7_makeRoom (N : Nat) (a0 : Nat) (n : Nat) (K : am_K) (I : am_I) (F : am_F) (x1 : Int) : Option am_A :=
  if (0 : Int) ≤ x1 ∧ x1 ≤ (60000000 : Int) then am_nw n (100, x1) K I F (fun n_1 K_2 I_3 F_4 => am_mo (0 + 1) (0 + (x1 : Int).toNat) (if (K_2 a0).1 = 7 then am_lt (am_u2 F_4 a0 1 n) (fun F_10 => am_nw n_1 (100, x1) K_2 I_3 F_10 (fun n_11 K_12 I_13 F_14 => am_mo ((0 + 1) + 1) ((0 + (x1 : Int).toNat) + (x1 : Int).toNat) (if (K_12 a0).1 = 7 then am_lt (am_u2 F_14 a0 2 n_1) (fun F_19 => am_nw n_11 (100, x1) K_12 I_13 F_19 (fun n_20 K_21 I_22 F_23 => am_mo (((0 + 1) + 1) + 1) (((0 + (x1 : Int).toNat) + (x1 : Int).toNat) + (x1 : Int).toNat) (if (K_21 a0).1 = 7 then am_lt (am_u2 F_23 a0 3 n_11) (fun F_28 => am_nw n_20 (100, x1) K_21 I_22 F_28 (fun n_29 K_30 I_31 F_32 => am_mo ((((0 + 1) + 1) + 1) + 1) ((((0 + (x1 : Int).toNat) + (x1 : Int).toNat) + (x1 : Int).toNat) + (x1 : Int).toNat) (if (K_30 a0).1 = 7 then am_lt (am_u2 F_32 a0 4 n_20) (fun F_37 => if am_inI (x1 + 1) then if (0 : Int) ≤ (x1 + 1) ∧ (x1 + 1) ≤ (60000000 : Int) then am_nw n_29 (100, x1 + 1) K_30 I_31 F_37 (fun n_39 K_40 I_41 F_42 => am_mo (((((0 + 1) + 1) + 1) + 1) + 1) (((((0 + (x1 : Int).toNat) + (x1 : Int).toNat) + (x1 : Int).toNat) + (x1 : Int).toNat) + (x1 + 1 : Int).toNat) (if (K_40 a0).1 = 7 then am_lt (am_u2 F_42 a0 5 n_29) (fun F_48 => some (0, n_39, K_40, I_41, F_48, (((((0 + 1) + 1) + 1) + 1) + 1), (((((0 + (x1 : Int).toNat) + (x1 : Int).toNat) + (x1 : Int).toNat) + (x1 : Int).toNat) + (x1 + 1 : Int).toNat))) else none)) else none else none) else none))) else none))) else none))) else none)) else none
theorem w_X7_makeRoom {η : am_E} {l : Launch} {N : Nat} {n : Nat} {K : am_K} {I : am_I} {F : am_F} {a0 : Nat} {r0 : am_A} {x1 : Int} (h0 : (K a0).1 = 7) : X7_makeRoom N a0 n K I F x1 = some r0 → Ok η l (M_X7_makeRoom (am_ac1 r0) (am_az1 r0)) (am_qm η (am_pA 0 r0) (am_ac1 r0) (am_az1 r0)) 0 [(0, qr a0), (1, qi x1)] [] n K I F 0 0 := by
  unfold X7_makeRoom
  refine ok_aload_n (q := 1) 0 dX7_makeRoom_0 rfl rfl rfl ?_
  refine ok_iload_n (q := 2) 1 dX7_makeRoom_1 rfl rfl rfl ?_
  refine fi_chk (fun h_5 => ?_)
  refine fi_newi (q := 4) dX7_makeRoom_2 rfl h_5 na_newi (Nat.le_refl _) (Nat.le_refl _) (fun n_1 K_2 I_3 F_4 hc_7 hz_8 h_6 => ?_)
  refine fi_chk (fun h_9 => ?_)
  refine ok_putR (q := 7) (ci := 7) (k := 1) dX7_makeRoom_4 rfl fo_X7_9 h_9 ft_7_1 rfl ff_7_1 (fun F_10 => ?_)
  refine ok_aload_n (q := 8) 0 dX7_makeRoom_7 rfl rfl rfl ?_
  refine ok_iload_n (q := 9) 1 dX7_makeRoom_8 rfl rfl rfl ?_
  refine fi_newi (q := 11) dX7_makeRoom_9 rfl h_5 na_newi (Nat.le_refl _) (Nat.le_refl _) (fun n_11 K_12 I_13 F_14 hc_16 hz_17 h_15 => ?_)
  refine fi_chk (fun h_18 => ?_)
  refine ok_putR (q := 14) (ci := 7) (k := 2) dX7_makeRoom_11 rfl fo_X7_15 h_18 ft_7_2 rfl ff_7_2 (fun F_19 => ?_)
  refine ok_aload_n (q := 15) 0 dX7_makeRoom_14 rfl rfl rfl ?_
  refine ok_iload_n (q := 16) 1 dX7_makeRoom_15 rfl rfl rfl ?_
  refine fi_newi (q := 18) dX7_makeRoom_16 rfl h_5 na_newi (Nat.le_refl _) (Nat.le_refl _) (fun n_20 K_21 I_22 F_23 hc_25 hz_26 h_24 => ?_)
  refine fi_chk (fun h_27 => ?_)
  refine ok_putR (q := 21) (ci := 7) (k := 3) dX7_makeRoom_18 rfl fo_X7_18 h_27 ft_7_3 rfl ff_7_3 (fun F_28 => ?_)
  refine ok_aload_n (q := 22) 0 dX7_makeRoom_21 rfl rfl rfl ?_
  refine ok_iload_n (q := 23) 1 dX7_makeRoom_22 rfl rfl rfl ?_
  refine fi_newi (q := 25) dX7_makeRoom_23 rfl h_5 na_newi (Nat.le_refl _) (Nat.le_refl _) (fun n_29 K_30 I_31 F_32 hc_34 hz_35 h_33 => ?_)
  refine fi_chk (fun h_36 => ?_)
  refine ok_putR (q := 28) (ci := 7) (k := 4) dX7_makeRoom_25 rfl fo_X7_21 h_36 ft_7_4 rfl ff_7_4 (fun F_37 => ?_)
  refine ok_aload_n (q := 29) 0 dX7_makeRoom_28 rfl rfl rfl ?_
  refine ok_iload_n (q := 30) 1 dX7_makeRoom_29 rfl rfl rfl ?_
  refine ok_iconst (q := 31) (x := 1) dX7_makeRoom_30 rfl rfl (by decide) ?_
  refine fi_chk (fun h_38 => ?_)
  refine ok_iadd (q := 32) dX7_makeRoom_31 rfl h_38 ?_
  refine fi_chk (fun h_43 => ?_)
  refine fi_newi (q := 34) dX7_makeRoom_32 rfl h_43 na_newi (Nat.le_refl _) (Nat.le_refl _) (fun n_39 K_40 I_41 F_42 hc_45 hz_46 h_44 => ?_)
  refine fi_chk (fun h_47 => ?_)
  refine ok_putR (q := 37) (ci := 7) (k := 5) dX7_makeRoom_34 rfl fo_X7_24 h_47 ft_7_5 rfl ff_7_5 (fun F_48 => ?_)
  exact fi_returnA dX7_makeRoom_37 rfl
theorem ct_X7_makeRoom {η : am_E} {l : Launch} {N : Nat} {n : Nat} {K : am_K} {I : am_I} {F : am_F} {a0 : Nat} {r0 : am_A} {x1 : Int} (h0 : (K a0).1 = 7) : X7_makeRoom N a0 n K I F x1 = some r0 → am_Ct η l yX7_makeRoom cX7_makeRoom 2 none 0 0 (am_ac1 r0) (am_az1 r0) [qr a0, qi x1] n K I F (am_pA 0 r0) := fun g => am_Ct.of false (by decide) (by decide) (Nat.le_of_ble_eq_true rfl) (fun _ => w_X7_makeRoom (N := N) h0 g)
def M_X7_makeMoveRoom (mc ms : Nat) : am_M := (yX7_makeMoveRoom.cls, cX7_makeMoveRoom, 2, none, am_room 0 0 mc ms, false)
def X7_makeMoveRoom (N : Nat) (a0 : Nat) (n : Nat) (K : am_K) (I : am_I) (F : am_F) (x1 : Int) : Option am_A :=
  if (0 : Int) ≤ x1 ∧ x1 ≤ (60000000 : Int) then am_nw n (100, x1) K I F (fun n_1 K_2 I_3 F_4 => am_mo (0 + 1) (0 + (x1 : Int).toNat) (if (K_2 a0).1 = 7 then am_lt (am_u2 F_4 a0 6 n) (fun F_10 => some (0, n_1, K_2, I_3, F_10, (0 + 1), (0 + (x1 : Int).toNat))) else none)) else none
theorem w_X7_makeMoveRoom {η : am_E} {l : Launch} {N : Nat} {n : Nat} {K : am_K} {I : am_I} {F : am_F} {a0 : Nat} {r0 : am_A} {x1 : Int} (h0 : (K a0).1 = 7) : X7_makeMoveRoom N a0 n K I F x1 = some r0 → Ok η l (M_X7_makeMoveRoom (am_ac1 r0) (am_az1 r0)) (am_qm η (am_pA 0 r0) (am_ac1 r0) (am_az1 r0)) 0 [(0, qr a0), (1, qi x1)] [] n K I F 0 0 := by
  unfold X7_makeMoveRoom
  refine ok_aload_n (q := 1) 0 dX7_makeMoveRoom_0 rfl rfl rfl ?_
  refine ok_iload_n (q := 2) 1 dX7_makeMoveRoom_1 rfl rfl rfl ?_
  refine fi_chk (fun h_5 => ?_)
  refine fi_newi (q := 4) dX7_makeMoveRoom_2 rfl h_5 na_newi (Nat.le_refl _) (Nat.le_refl _) (fun n_1 K_2 I_3 F_4 hc_7 hz_8 h_6 => ?_)
  refine fi_chk (fun h_9 => ?_)
  refine ok_putR (q := 7) (ci := 7) (k := 6) dX7_makeMoveRoom_4 rfl fo_X7_27 h_9 ft_7_6 rfl ff_7_6 (fun F_10 => ?_)
  exact fi_returnA dX7_makeMoveRoom_7 rfl
theorem ct_X7_makeMoveRoom {η : am_E} {l : Launch} {N : Nat} {n : Nat} {K : am_K} {I : am_I} {F : am_F} {a0 : Nat} {r0 : am_A} {x1 : Int} (h0 : (K a0).1 = 7) : X7_makeMoveRoom N a0 n K I F x1 = some r0 → am_Ct η l yX7_makeMoveRoom cX7_makeMoveRoom 2 none 0 0 (am_ac1 r0) (am_az1 r0) [qr a0, qi x1] n K I F (am_pA 0 r0) := fun g => am_Ct.of false (by decide) (by decide) (Nat.le_of_ble_eq_true rfl) (fun _ => w_X7_makeMoveRoom (N := N) h0 g)
def M_X7_listLeaders : am_M := (yX7_listLeaders.cls, cX7_listLeaders, 6, none, am_room 1 20 0 0, false)
def X7_listLeaders_b191 (N : Nat) (K : am_K) (F : am_F) (a0 : Nat) (k114 : am_I → Int → Int → Int → Option (Int × am_I)) (k130 : am_I → Int → Int → Int → Int → Option (Int × am_I)) (I : am_I) (x1 : Int) (x2 : Int) (x3 : Int) (x4 : Int) : Option (Int × am_I) :=
  if am_inI (x4 + 1) then am_lt (x4 + 1) (fun x4_2 => k130 I x1 x2 x3 x4_2) else none
theorem w_X7_listLeaders_b191 {η : am_E} {l : Launch} {N : Nat} {n : Nat} {K : am_K} {I : am_I} {F : am_F} {a0 : Nat} {r0 : Int × am_I} {k114 : am_I → Int → Int → Int → Option (Int × am_I)} {k130 : am_I → Int → Int → Int → Int → Option (Int × am_I)} {x1 : Int} {x2 : Int} {x3 : Int} {x4 : Int} (h0 : (K a0).1 = 7) (H114 : ∀ (I : am_I) (x1 : Int) (x2 : Int) (x3 : Int), k114 I x1 x2 x3 = some r0 → Ok η l M_X7_listLeaders (am_qm η (am_pS 0 r0 n K F) 0 0) 114 [(0, qr a0), (1, qi x1), (2, qi x2), (3, qi x3)] [] n K I F 0 0) (H130 : ∀ (I : am_I) (x1 : Int) (x2 : Int) (x3 : Int) (x4 : Int), k130 I x1 x2 x3 x4 = some r0 → Ok η l M_X7_listLeaders (am_qm η (am_pS 0 r0 n K F) 0 0) 130 [(0, qr a0), (1, qi x1), (2, qi x2), (3, qi x3), (4, qi x4)] [] n K I F 0 0) : X7_listLeaders_b191 N K F a0 k114 k130 I x1 x2 x3 x4 = some r0 → Ok η l M_X7_listLeaders (am_qm η (am_pS 0 r0 n K F) 0 0) 191 [(0, qr a0), (1, qi x1), (2, qi x2), (3, qi x3), (4, qi x4)] [] n K I F 0 0 := by
  unfold X7_listLeaders_b191
  refine fi_chk (fun h_1 => ?_)
  refine ok_iincL (q := 194) (fun x4_2 => [(4, qi x4_2), (0, qr a0), (1, qi x1), (2, qi x2), (3, qi x3)]) 4 dX7_listLeaders_191 rfl rfl h_1 (Nat.le_of_ble_eq_true rfl) (fun _ => rfl) (fun x4_2 => ?_)
  refine ok_goto (q := 130) dX7_listLeaders_194 rfl ?_
  exact fun g => ok_pick [1, 2, 3, 4, 0] rfl (H130 _ _ _ _ _ g)
def X7_listLeaders_s130 (N : Nat) (K : am_K) (F : am_F) (a0 : Nat) (k114 : am_I → Int → Int → Int → Option (Int × am_I)) (k130 : am_I → Int → Int → Int → Int → Option (Int × am_I)) (I : am_I) (x1 : Int) (x2 : Int) (x3 : Int) (x4 : Int) : Option (Int × am_I) :=
  if (K (F a0 0)).1 = 0 then if am_inI (x3 + 1) then if (K (F (F a0 0) 1)).1 = 100 then if (0 : Int) ≤ (x3 + 1) ∧ (x3 + 1) < (K (F (F a0 0) 1)).2 then if x4 < (I (F (F a0 0) 1) (x3 + 1)) then (if (K (F (F a0 0) 2)).1 = 100 then if (0 : Int) ≤ x4 ∧ x4 < (K (F (F a0 0) 2)).2 then am_cq (X0_placeBehind N K F I (I (F (F a0 0) 2) x4)) (fun v_8 => if x1 ≤ v_8 then (if (K (F a0 5)).1 = 100 then if (0 : Int) ≤ v_8 ∧ v_8 < (K (F a0 5)).2 then if am_inI ((I (F a0 5) v_8) - 1) then if F a0 5 ≠ 1 then am_lt (am_u2 I (F a0 5) v_8 ((I (F a0 5) v_8) - 1)) (fun I_13 => if (K (F a0 6)).1 = 100 then if F a0 6 ≠ 1 then if (0 : Int) ≤ (I_13 (F a0 5) v_8) ∧ (I_13 (F a0 5) v_8) < (K (F a0 6)).2 then am_lt (am_u2 I_13 (F a0 6) (I_13 (F a0 5) v_8) x3) (fun I_17 => X7_listLeaders_b191 N K F a0 k114 k130 I_17 x1 x2 x3 x4) else none else none else none) else none else none else none else none) else (X7_listLeaders_b191 N K F a0 k114 k130 I x1 x2 x3 x4)) else none else none) else (am_lt (x3 + 1) (fun x3_5 => k114 I x1 x2 x3_5)) else none else none else none else none
theorem w_X7_listLeaders_s130 {η : am_E} {l : Launch} {N : Nat} {n : Nat} {K : am_K} {I : am_I} {F : am_F} {a0 : Nat} {r0 : Int × am_I} {k114 : am_I → Int → Int → Int → Option (Int × am_I)} {k130 : am_I → Int → Int → Int → Int → Option (Int × am_I)} {x1 : Int} {x2 : Int} {x3 : Int} {x4 : Int} (h0 : (K a0).1 = 7) (H114 : ∀ (I : am_I) (x1 : Int) (x2 : Int) (x3 : Int), k114 I x1 x2 x3 = some r0 → Ok η l M_X7_listLeaders (am_qm η (am_pS 0 r0 n K F) 0 0) 114 [(0, qr a0), (1, qi x1), (2, qi x2), (3, qi x3)] [] n K I F 0 0) (H130 : ∀ (I : am_I) (x1 : Int) (x2 : Int) (x3 : Int) (x4 : Int), k130 I x1 x2 x3 x4 = some r0 → Ok η l M_X7_listLeaders (am_qm η (am_pS 0 r0 n K F) 0 0) 130 [(0, qr a0), (1, qi x1), (2, qi x2), (3, qi x3), (4, qi x4)] [] n K I F 0 0) : X7_listLeaders_s130 N K F a0 k114 k130 I x1 x2 x3 x4 = some r0 → Ok η l M_X7_listLeaders (am_qm η (am_pS 0 r0 n K F) 0 0) 130 [(0, qr a0), (1, qi x1), (2, qi x2), (3, qi x3), (4, qi x4)] [] n K I F 0 0 := by
  unfold X7_listLeaders_s130
  refine ok_iload (q := 132) 4 dX7_listLeaders_130 rfl rfl ?_
  refine ok_aload_n (q := 133) 0 dX7_listLeaders_132 rfl rfl rfl ?_
  refine ok_getR (q := 136) (ci := 7) (k := 0) (x := F a0 0) dX7_listLeaders_133 rfl fo_X7_30 h0 rfl ?_
  refine fi_chk (fun h_1 => ?_)
  refine ok_getR (q := 139) (ci := 0) (k := 1) (x := F (F a0 0) 1) dX7_listLeaders_136 rfl fo_X7_56 h_1 rfl ?_
  refine ok_iload_n (q := 140) 3 dX7_listLeaders_139 rfl rfl rfl ?_
  refine ok_iconst (q := 141) (x := 1) dX7_listLeaders_140 rfl rfl (by decide) ?_
  refine fi_chk (fun h_2 => ?_)
  refine ok_iadd (q := 142) dX7_listLeaders_141 rfl h_2 ?_
  refine fi_chk (fun h_3 => ?_)
  refine fi_chk (fun h_4 => ?_)
  refine ok_iaload (q := 143) (v := I (F (F a0 0) 1) (x3 + 1)) dX7_listLeaders_142 rfl h_3 h_4.1 h_4.2 rfl ?_
  refine ok_icmp_ge (q := 197) (q2 := 146) dX7_listLeaders_143 rfl rfl ?_ ?_
  · skip
    refine ok_iincL (q := 200) (fun x3_5 => [(3, qi x3_5), (0, qr a0), (1, qi x1), (2, qi x2), (4, qi x4)]) 3 dX7_listLeaders_197 rfl rfl h_2 (Nat.le_of_ble_eq_true rfl) (fun _ => rfl) (fun x3_5 => ?_)
    refine ok_goto (q := 114) dX7_listLeaders_200 rfl ?_
    exact fun g => ok_pick [1, 2, 3, 0] rfl (H114 _ _ _ _ g)
  · skip
    refine ok_aload_n (q := 147) 0 dX7_listLeaders_146 rfl rfl rfl ?_
    refine ok_getR (q := 150) (ci := 7) (k := 0) (x := F a0 0) dX7_listLeaders_147 rfl fo_X7_30 h0 rfl ?_
    refine ok_getR (q := 153) (ci := 0) (k := 2) (x := F (F a0 0) 2) dX7_listLeaders_150 rfl fo_X7_59 h_1 rfl ?_
    refine ok_iload (q := 155) 4 dX7_listLeaders_153 rfl rfl ?_
    refine fi_chk (fun h_6 => ?_)
    refine fi_chk (fun h_7 => ?_)
    refine ok_iaload (q := 156) (v := I (F (F a0 0) 2) x4) dX7_listLeaders_155 rfl h_6 h_7.1 h_7.2 rfl ?_
    refine fi_callS1P (q := 159) (as := [qi (I (F (F a0 0) 2) x4)]) (st := []) dX7_listLeaders_156 rfl mo_X7_62 rfl rfl (Nat.le_of_ble_eq_true rfl) (Nat.le_of_ble_eq_true rfl) (Nat.le_of_ble_eq_true rfl) (Nat.zero_le _) (Nat.zero_le _) (fun _ hr => ct_X0_placeBehind (N := N) hr) (fun v_8 => ?_)
    refine ok_istore (q := 161) (ls' := [(5, qi v_8), (0, qr a0), (1, qi x1), (2, qi x2), (3, qi x3), (4, qi x4)]) dX7_listLeaders_159 rfl (Nat.le_of_ble_eq_true rfl) rfl ?_
    refine ok_iload (q := 163) 0 dX7_listLeaders_161 rfl rfl ?_
    refine ok_iload_n (q := 164) 2 dX7_listLeaders_163 rfl rfl rfl ?_
    refine ok_icmp_lt (q := 191) (q2 := 167) dX7_listLeaders_164 rfl rfl ?_ ?_
    · skip
      exact fun g => ok_pick [1, 2, 3, 4, 5] rfl (w_X7_listLeaders_b191 (N := N) h0 H114 H130 g)
    · skip
      refine ok_aload_n (q := 168) 1 dX7_listLeaders_167 rfl rfl rfl ?_
      refine ok_getR (q := 171) (ci := 7) (k := 5) (x := F a0 5) dX7_listLeaders_168 rfl fo_X7_24 h0 rfl ?_
      refine ok_iload (q := 173) 0 dX7_listLeaders_171 rfl rfl ?_
      refine ok_dup2 (q := 174) dX7_listLeaders_173 rfl rfl rfl ?_
      refine fi_chk (fun h_9 => ?_)
      refine fi_chk (fun h_10 => ?_)
      refine ok_iaload (q := 175) (v := I (F a0 5) v_8) dX7_listLeaders_174 rfl h_9 h_10.1 h_10.2 rfl ?_
      refine ok_iconst (q := 176) (x := 1) dX7_listLeaders_175 rfl rfl (by decide) ?_
      refine fi_chk (fun h_11 => ?_)
      refine ok_isub (q := 177) dX7_listLeaders_176 rfl h_11 ?_
      refine fi_chk (fun h_12 => ?_)
      refine ok_iastore (q := 178) dX7_listLeaders_177 rfl h_9 h_12 h_10.1 h_10.2 (fun I_13 => ?_)
      refine ok_aload_n (q := 179) 1 dX7_listLeaders_178 rfl rfl rfl ?_
      refine ok_getR (q := 182) (ci := 7) (k := 6) (x := F a0 6) dX7_listLeaders_179 rfl fo_X7_27 h0 rfl ?_
      refine ok_aload_n (q := 183) 1 dX7_listLeaders_182 rfl rfl rfl ?_
      refine ok_getR (q := 186) (ci := 7) (k := 5) (x := F a0 5) dX7_listLeaders_183 rfl fo_X7_24 h0 rfl ?_
      refine ok_iload (q := 188) 0 dX7_listLeaders_186 rfl rfl ?_
      refine ok_iaload (q := 189) (v := I_13 (F a0 5) v_8) dX7_listLeaders_188 rfl h_9 h_10.1 h_10.2 rfl ?_
      refine ok_iload_n (q := 190) 4 dX7_listLeaders_189 rfl rfl rfl ?_
      refine fi_chk (fun h_14 => ?_)
      refine fi_chk (fun h_15 => ?_)
      refine fi_chk (fun h_16 => ?_)
      refine ok_iastore (q := 191) dX7_listLeaders_190 rfl h_14 h_15 h_16.1 h_16.2 (fun I_17 => ?_)
      exact fun g => ok_pick [1, 2, 3, 4, 5] rfl (w_X7_listLeaders_b191 (N := N) h0 H114 H130 g)
def X7_listLeaders_h130 (N : Nat) (K : am_K) (F : am_F) (a0 : Nat) (k114 : am_I → Int → Int → Int → Option (Int × am_I)) : Nat → am_I → Int → Int → Int → Int → Option (Int × am_I) := am_it (fun kh => X7_listLeaders_s130 N K F a0 k114 kh) (fun _ _ _ _ _ => none)
theorem w_X7_listLeaders_h130 {η : am_E} {l : Launch} {N : Nat} {n : Nat} {K : am_K} {F : am_F} {a0 : Nat} {r0 : Int × am_I} {k114 : am_I → Int → Int → Int → Option (Int × am_I)} (h0 : (K a0).1 = 7) (H114 : ∀ (I : am_I) (x1 : Int) (x2 : Int) (x3 : Int), k114 I x1 x2 x3 = some r0 → Ok η l M_X7_listLeaders (am_qm η (am_pS 0 r0 n K F) 0 0) 114 [(0, qr a0), (1, qi x1), (2, qi x2), (3, qi x3)] [] n K I F 0 0) (f : Nat) : ∀ (I : am_I) (x1 : Int) (x2 : Int) (x3 : Int) (x4 : Int), X7_listLeaders_h130 N K F a0 k114 f I x1 x2 x3 x4 = some r0 → Ok η l M_X7_listLeaders (am_qm η (am_pS 0 r0 n K F) 0 0) 130 [(0, qr a0), (1, qi x1), (2, qi x2), (3, qi x3), (4, qi x4)] [] n K I F 0 0 := by
  induction f with
  | zero => intro I x1 x2 x3 x4 g; exact fi_none g
  | succ f ih => intro I x1 x2 x3 x4 g; exact w_X7_listLeaders_s130 (N := N) h0 H114 ih g
def X7_listLeaders_s114 (N : Nat) (K : am_K) (F : am_F) (a0 : Nat) (k114 : am_I → Int → Int → Int → Option (Int × am_I)) (I : am_I) (x1 : Int) (x2 : Int) (x3 : Int) : Option (Int × am_I) :=
  if x3 < x2 then (if (K (F a0 0)).1 = 0 then if (K (F (F a0 0) 1)).1 = 100 then if (0 : Int) ≤ x3 ∧ x3 < (K (F (F a0 0) 1)).2 then am_lt (I (F (F a0 0) 1) x3) (fun x4_4 => X7_listLeaders_h130 N K F a0 k114 N I x1 x2 x3 x4_4) else none else none else none) else (some (0, I))
theorem w_X7_listLeaders_s114 {η : am_E} {l : Launch} {N : Nat} {n : Nat} {K : am_K} {I : am_I} {F : am_F} {a0 : Nat} {r0 : Int × am_I} {k114 : am_I → Int → Int → Int → Option (Int × am_I)} {x1 : Int} {x2 : Int} {x3 : Int} (h0 : (K a0).1 = 7) (H114 : ∀ (I : am_I) (x1 : Int) (x2 : Int) (x3 : Int), k114 I x1 x2 x3 = some r0 → Ok η l M_X7_listLeaders (am_qm η (am_pS 0 r0 n K F) 0 0) 114 [(0, qr a0), (1, qi x1), (2, qi x2), (3, qi x3)] [] n K I F 0 0) : X7_listLeaders_s114 N K F a0 k114 I x1 x2 x3 = some r0 → Ok η l M_X7_listLeaders (am_qm η (am_pS 0 r0 n K F) 0 0) 114 [(0, qr a0), (1, qi x1), (2, qi x2), (3, qi x3)] [] n K I F 0 0 := by
  unfold X7_listLeaders_s114
  refine ok_iload_n (q := 115) 3 dX7_listLeaders_114 rfl rfl rfl ?_
  refine ok_iload_n (q := 116) 2 dX7_listLeaders_115 rfl rfl rfl ?_
  refine ok_icmp_ge (q := 203) (q2 := 119) dX7_listLeaders_116 rfl rfl ?_ ?_
  · skip
    exact fi_returnS dX7_listLeaders_203 rfl
  · skip
    refine ok_aload_n (q := 120) 0 dX7_listLeaders_119 rfl rfl rfl ?_
    refine ok_getR (q := 123) (ci := 7) (k := 0) (x := F a0 0) dX7_listLeaders_120 rfl fo_X7_30 h0 rfl ?_
    refine fi_chk (fun h_1 => ?_)
    refine ok_getR (q := 126) (ci := 0) (k := 1) (x := F (F a0 0) 1) dX7_listLeaders_123 rfl fo_X7_56 h_1 rfl ?_
    refine ok_iload_n (q := 127) 3 dX7_listLeaders_126 rfl rfl rfl ?_
    refine fi_chk (fun h_2 => ?_)
    refine fi_chk (fun h_3 => ?_)
    refine ok_iaload (q := 128) (v := I (F (F a0 0) 1) x3) dX7_listLeaders_127 rfl h_2 h_3.1 h_3.2 rfl ?_
    refine ok_istoreL (q := 130) (fun x4_4 => [(4, qi x4_4), (0, qr a0), (1, qi x1), (2, qi x2), (3, qi x3)]) dX7_listLeaders_128 rfl (Nat.le_of_ble_eq_true rfl) (fun _ => rfl) (fun x4_4 => ?_)
    exact fun g => ok_pick [1, 2, 3, 4, 0] rfl (w_X7_listLeaders_h130 (N := N) h0 H114 N _ _ _ _ _ g)
def X7_listLeaders_h114 (N : Nat) (K : am_K) (F : am_F) (a0 : Nat) : Nat → am_I → Int → Int → Int → Option (Int × am_I) := am_it (fun kh => X7_listLeaders_s114 N K F a0 kh) (fun _ _ _ _ => none)
theorem w_X7_listLeaders_h114 {η : am_E} {l : Launch} {N : Nat} {n : Nat} {K : am_K} {F : am_F} {a0 : Nat} {r0 : Int × am_I} (h0 : (K a0).1 = 7) (f : Nat) : ∀ (I : am_I) (x1 : Int) (x2 : Int) (x3 : Int), X7_listLeaders_h114 N K F a0 f I x1 x2 x3 = some r0 → Ok η l M_X7_listLeaders (am_qm η (am_pS 0 r0 n K F) 0 0) 114 [(0, qr a0), (1, qi x1), (2, qi x2), (3, qi x3)] [] n K I F 0 0 := by
  induction f with
  | zero => intro I x1 x2 x3 g; exact fi_none g
  | succ f ih => intro I x1 x2 x3 g; exact w_X7_listLeaders_s114 (N := N) h0 ih g
def X7_listLeaders_s84 (N : Nat) (K : am_K) (F : am_F) (a0 : Nat) (k84 : am_I → Int → Int → Int → Option (Int × am_I)) (I : am_I) (x1 : Int) (x2 : Int) (x3 : Int) : Option (Int × am_I) :=
  if x3 ≤ x2 then (if (K (F a0 5)).1 = 100 then if (0 : Int) ≤ x3 ∧ x3 < (K (F a0 5)).2 then if am_inI (x3 - 1) then if (0 : Int) ≤ (x3 - 1) ∧ (x3 - 1) < (K (F a0 5)).2 then if am_inI ((I (F a0 5) x3) + (I (F a0 5) (x3 - 1))) then if F a0 5 ≠ 1 then am_lt (am_u2 I (F a0 5) x3 ((I (F a0 5) x3) + (I (F a0 5) (x3 - 1)))) (fun I_7 => if am_inI (x3 + 1) then am_lt (x3 + 1) (fun x3_9 => k84 I_7 x1 x2 x3_9) else none) else none else none else none else none else none else none) else (X7_listLeaders_h114 N K F a0 N I x1 x2 x1)
theorem w_X7_listLeaders_s84 {η : am_E} {l : Launch} {N : Nat} {n : Nat} {K : am_K} {I : am_I} {F : am_F} {a0 : Nat} {r0 : Int × am_I} {k84 : am_I → Int → Int → Int → Option (Int × am_I)} {x1 : Int} {x2 : Int} {x3 : Int} (h0 : (K a0).1 = 7) (H84 : ∀ (I : am_I) (x1 : Int) (x2 : Int) (x3 : Int), k84 I x1 x2 x3 = some r0 → Ok η l M_X7_listLeaders (am_qm η (am_pS 0 r0 n K F) 0 0) 84 [(0, qr a0), (1, qi x1), (2, qi x2), (3, qi x3)] [] n K I F 0 0) : X7_listLeaders_s84 N K F a0 k84 I x1 x2 x3 = some r0 → Ok η l M_X7_listLeaders (am_qm η (am_pS 0 r0 n K F) 0 0) 84 [(0, qr a0), (1, qi x1), (2, qi x2), (3, qi x3)] [] n K I F 0 0 := by
  unfold X7_listLeaders_s84
  refine ok_iload_n (q := 85) 3 dX7_listLeaders_84 rfl rfl rfl ?_
  refine ok_iload_n (q := 86) 2 dX7_listLeaders_85 rfl rfl rfl ?_
  refine ok_icmp_gt (q := 112) (q2 := 89) dX7_listLeaders_86 rfl rfl ?_ ?_
  · skip
    refine ok_iload_n (q := 113) 1 dX7_listLeaders_112 rfl rfl rfl ?_
    refine ok_istore_n (q := 114) (ls' := [(3, qi x1), (0, qr a0), (1, qi x1), (2, qi x2)]) dX7_listLeaders_113 rfl rfl (Nat.le_of_ble_eq_true rfl) rfl ?_
    exact fun g => ok_pick [1, 2, 3, 0] rfl (w_X7_listLeaders_h114 (N := N) h0 N _ _ _ _ g)
  · skip
    refine ok_aload_n (q := 90) 0 dX7_listLeaders_89 rfl rfl rfl ?_
    refine ok_getR (q := 93) (ci := 7) (k := 5) (x := F a0 5) dX7_listLeaders_90 rfl fo_X7_24 h0 rfl ?_
    refine ok_iload_n (q := 94) 3 dX7_listLeaders_93 rfl rfl rfl ?_
    refine ok_dup2 (q := 95) dX7_listLeaders_94 rfl rfl rfl ?_
    refine fi_chk (fun h_1 => ?_)
    refine fi_chk (fun h_2 => ?_)
    refine ok_iaload (q := 96) (v := I (F a0 5) x3) dX7_listLeaders_95 rfl h_1 h_2.1 h_2.2 rfl ?_
    refine ok_aload_n (q := 97) 0 dX7_listLeaders_96 rfl rfl rfl ?_
    refine ok_getR (q := 100) (ci := 7) (k := 5) (x := F a0 5) dX7_listLeaders_97 rfl fo_X7_24 h0 rfl ?_
    refine ok_iload_n (q := 101) 3 dX7_listLeaders_100 rfl rfl rfl ?_
    refine ok_iconst (q := 102) (x := 1) dX7_listLeaders_101 rfl rfl (by decide) ?_
    refine fi_chk (fun h_3 => ?_)
    refine ok_isub (q := 103) dX7_listLeaders_102 rfl h_3 ?_
    refine fi_chk (fun h_4 => ?_)
    refine ok_iaload (q := 104) (v := I (F a0 5) (x3 - 1)) dX7_listLeaders_103 rfl h_1 h_4.1 h_4.2 rfl ?_
    refine fi_chk (fun h_5 => ?_)
    refine ok_iadd (q := 105) dX7_listLeaders_104 rfl h_5 ?_
    refine fi_chk (fun h_6 => ?_)
    refine ok_iastore (q := 106) dX7_listLeaders_105 rfl h_1 h_6 h_2.1 h_2.2 (fun I_7 => ?_)
    refine fi_chk (fun h_8 => ?_)
    refine ok_iincL (q := 109) (fun x3_9 => [(3, qi x3_9), (0, qr a0), (1, qi x1), (2, qi x2)]) 3 dX7_listLeaders_106 rfl rfl h_8 (Nat.le_of_ble_eq_true rfl) (fun _ => rfl) (fun x3_9 => ?_)
    refine ok_goto (q := 84) dX7_listLeaders_109 rfl ?_
    exact fun g => ok_pick [1, 2, 3, 0] rfl (H84 _ _ _ _ g)
def X7_listLeaders_h84 (N : Nat) (K : am_K) (F : am_F) (a0 : Nat) : Nat → am_I → Int → Int → Int → Option (Int × am_I) := am_it (fun kh => X7_listLeaders_s84 N K F a0 kh) (fun _ _ _ _ => none)
theorem w_X7_listLeaders_h84 {η : am_E} {l : Launch} {N : Nat} {n : Nat} {K : am_K} {F : am_F} {a0 : Nat} {r0 : Int × am_I} (h0 : (K a0).1 = 7) (f : Nat) : ∀ (I : am_I) (x1 : Int) (x2 : Int) (x3 : Int), X7_listLeaders_h84 N K F a0 f I x1 x2 x3 = some r0 → Ok η l M_X7_listLeaders (am_qm η (am_pS 0 r0 n K F) 0 0) 84 [(0, qr a0), (1, qi x1), (2, qi x2), (3, qi x3)] [] n K I F 0 0 := by
  induction f with
  | zero => intro I x1 x2 x3 g; exact fi_none g
  | succ f ih => intro I x1 x2 x3 g; exact w_X7_listLeaders_s84 (N := N) h0 ih g
def X7_listLeaders_b74 (N : Nat) (K : am_K) (F : am_F) (a0 : Nat) (k30 : am_I → Int → Int → Int → Option (Int × am_I)) (I : am_I) (x1 : Int) (x2 : Int) (x3 : Int) : Option (Int × am_I) :=
  if am_inI (x3 + 1) then am_lt (x3 + 1) (fun x3_2 => k30 I x1 x2 x3_2) else none
theorem w_X7_listLeaders_b74 {η : am_E} {l : Launch} {N : Nat} {n : Nat} {K : am_K} {I : am_I} {F : am_F} {a0 : Nat} {r0 : Int × am_I} {k30 : am_I → Int → Int → Int → Option (Int × am_I)} {x1 : Int} {x2 : Int} {x3 : Int} (h0 : (K a0).1 = 7) (H30 : ∀ (I : am_I) (x1 : Int) (x2 : Int) (x3 : Int), k30 I x1 x2 x3 = some r0 → Ok η l M_X7_listLeaders (am_qm η (am_pS 0 r0 n K F) 0 0) 30 [(0, qr a0), (1, qi x1), (2, qi x2), (3, qi x3)] [] n K I F 0 0) : X7_listLeaders_b74 N K F a0 k30 I x1 x2 x3 = some r0 → Ok η l M_X7_listLeaders (am_qm η (am_pS 0 r0 n K F) 0 0) 74 [(0, qr a0), (1, qi x1), (2, qi x2), (3, qi x3)] [] n K I F 0 0 := by
  unfold X7_listLeaders_b74
  refine fi_chk (fun h_1 => ?_)
  refine ok_iincL (q := 77) (fun x3_2 => [(3, qi x3_2), (0, qr a0), (1, qi x1), (2, qi x2)]) 3 dX7_listLeaders_74 rfl rfl h_1 (Nat.le_of_ble_eq_true rfl) (fun _ => rfl) (fun x3_2 => ?_)
  refine ok_goto (q := 30) dX7_listLeaders_77 rfl ?_
  exact fun g => ok_pick [1, 2, 3, 0] rfl (H30 _ _ _ _ g)
def X7_listLeaders_s30 (N : Nat) (K : am_K) (F : am_F) (a0 : Nat) (k30 : am_I → Int → Int → Int → Option (Int × am_I)) (I : am_I) (x1 : Int) (x2 : Int) (x3 : Int) : Option (Int × am_I) :=
  if (K (F a0 0)).1 = 0 then if (K (F (F a0 0) 1)).1 = 100 then if (0 : Int) ≤ x2 ∧ x2 < (K (F (F a0 0) 1)).2 then if x3 < (I (F (F a0 0) 1) x2) then (if (K (F (F a0 0) 2)).1 = 100 then if (0 : Int) ≤ x3 ∧ x3 < (K (F (F a0 0) 2)).2 then am_cq (X0_placeBehind N K F I (I (F (F a0 0) 2) x3)) (fun v_8 => if x1 ≤ v_8 then (if (K (F a0 5)).1 = 100 then if (0 : Int) ≤ v_8 ∧ v_8 < (K (F a0 5)).2 then if am_inI ((I (F a0 5) v_8) + 1) then if F a0 5 ≠ 1 then am_lt (am_u2 I (F a0 5) v_8 ((I (F a0 5) v_8) + 1)) (fun I_13 => X7_listLeaders_b74 N K F a0 k30 I_13 x1 x2 x3) else none else none else none else none) else (X7_listLeaders_b74 N K F a0 k30 I x1 x2 x3)) else none else none) else (if am_inI (x1 + 1) then am_lt (x1 + 1) (fun x3_5 => X7_listLeaders_h84 N K F a0 N I x1 x2 x3_5) else none) else none else none else none
theorem w_X7_listLeaders_s30 {η : am_E} {l : Launch} {N : Nat} {n : Nat} {K : am_K} {I : am_I} {F : am_F} {a0 : Nat} {r0 : Int × am_I} {k30 : am_I → Int → Int → Int → Option (Int × am_I)} {x1 : Int} {x2 : Int} {x3 : Int} (h0 : (K a0).1 = 7) (H30 : ∀ (I : am_I) (x1 : Int) (x2 : Int) (x3 : Int), k30 I x1 x2 x3 = some r0 → Ok η l M_X7_listLeaders (am_qm η (am_pS 0 r0 n K F) 0 0) 30 [(0, qr a0), (1, qi x1), (2, qi x2), (3, qi x3)] [] n K I F 0 0) : X7_listLeaders_s30 N K F a0 k30 I x1 x2 x3 = some r0 → Ok η l M_X7_listLeaders (am_qm η (am_pS 0 r0 n K F) 0 0) 30 [(0, qr a0), (1, qi x1), (2, qi x2), (3, qi x3)] [] n K I F 0 0 := by
  unfold X7_listLeaders_s30
  refine ok_iload_n (q := 31) 3 dX7_listLeaders_30 rfl rfl rfl ?_
  refine ok_aload_n (q := 32) 0 dX7_listLeaders_31 rfl rfl rfl ?_
  refine ok_getR (q := 35) (ci := 7) (k := 0) (x := F a0 0) dX7_listLeaders_32 rfl fo_X7_30 h0 rfl ?_
  refine fi_chk (fun h_1 => ?_)
  refine ok_getR (q := 38) (ci := 0) (k := 1) (x := F (F a0 0) 1) dX7_listLeaders_35 rfl fo_X7_56 h_1 rfl ?_
  refine ok_iload_n (q := 39) 2 dX7_listLeaders_38 rfl rfl rfl ?_
  refine fi_chk (fun h_2 => ?_)
  refine fi_chk (fun h_3 => ?_)
  refine ok_iaload (q := 40) (v := I (F (F a0 0) 1) x2) dX7_listLeaders_39 rfl h_2 h_3.1 h_3.2 rfl ?_
  refine ok_icmp_ge (q := 80) (q2 := 43) dX7_listLeaders_40 rfl rfl ?_ ?_
  · skip
    refine ok_iload_n (q := 81) 1 dX7_listLeaders_80 rfl rfl rfl ?_
    refine ok_iconst (q := 82) (x := 1) dX7_listLeaders_81 rfl rfl (by decide) ?_
    refine fi_chk (fun h_4 => ?_)
    refine ok_iadd (q := 83) dX7_listLeaders_82 rfl h_4 ?_
    refine ok_istore_nL (q := 84) (fun x3_5 => [(3, qi x3_5), (0, qr a0), (1, qi x1), (2, qi x2)]) dX7_listLeaders_83 rfl rfl (Nat.le_of_ble_eq_true rfl) (fun _ => rfl) (fun x3_5 => ?_)
    exact fun g => ok_pick [1, 2, 3, 0] rfl (w_X7_listLeaders_h84 (N := N) h0 N _ _ _ _ g)
  · skip
    refine ok_aload_n (q := 44) 0 dX7_listLeaders_43 rfl rfl rfl ?_
    refine ok_getR (q := 47) (ci := 7) (k := 0) (x := F a0 0) dX7_listLeaders_44 rfl fo_X7_30 h0 rfl ?_
    refine ok_getR (q := 50) (ci := 0) (k := 2) (x := F (F a0 0) 2) dX7_listLeaders_47 rfl fo_X7_59 h_1 rfl ?_
    refine ok_iload_n (q := 51) 3 dX7_listLeaders_50 rfl rfl rfl ?_
    refine fi_chk (fun h_6 => ?_)
    refine fi_chk (fun h_7 => ?_)
    refine ok_iaload (q := 52) (v := I (F (F a0 0) 2) x3) dX7_listLeaders_51 rfl h_6 h_7.1 h_7.2 rfl ?_
    refine fi_callS1P (q := 55) (as := [qi (I (F (F a0 0) 2) x3)]) (st := []) dX7_listLeaders_52 rfl mo_X7_62 rfl rfl (Nat.le_of_ble_eq_true rfl) (Nat.le_of_ble_eq_true rfl) (Nat.le_of_ble_eq_true rfl) (Nat.zero_le _) (Nat.zero_le _) (fun _ hr => ct_X0_placeBehind (N := N) hr) (fun v_8 => ?_)
    refine ok_istore (q := 57) (ls' := [(4, qi v_8), (0, qr a0), (1, qi x1), (2, qi x2), (3, qi x3)]) dX7_listLeaders_55 rfl (Nat.le_of_ble_eq_true rfl) rfl ?_
    refine ok_iload (q := 59) 0 dX7_listLeaders_57 rfl rfl ?_
    refine ok_iload_n (q := 60) 2 dX7_listLeaders_59 rfl rfl rfl ?_
    refine ok_icmp_lt (q := 74) (q2 := 63) dX7_listLeaders_60 rfl rfl ?_ ?_
    · skip
      exact fun g => ok_pick [1, 2, 3, 4] rfl (w_X7_listLeaders_b74 (N := N) h0 H30 g)
    · skip
      refine ok_aload_n (q := 64) 1 dX7_listLeaders_63 rfl rfl rfl ?_
      refine ok_getR (q := 67) (ci := 7) (k := 5) (x := F a0 5) dX7_listLeaders_64 rfl fo_X7_24 h0 rfl ?_
      refine ok_iload (q := 69) 0 dX7_listLeaders_67 rfl rfl ?_
      refine ok_dup2 (q := 70) dX7_listLeaders_69 rfl rfl rfl ?_
      refine fi_chk (fun h_9 => ?_)
      refine fi_chk (fun h_10 => ?_)
      refine ok_iaload (q := 71) (v := I (F a0 5) v_8) dX7_listLeaders_70 rfl h_9 h_10.1 h_10.2 rfl ?_
      refine ok_iconst (q := 72) (x := 1) dX7_listLeaders_71 rfl rfl (by decide) ?_
      refine fi_chk (fun h_11 => ?_)
      refine ok_iadd (q := 73) dX7_listLeaders_72 rfl h_11 ?_
      refine fi_chk (fun h_12 => ?_)
      refine ok_iastore (q := 74) dX7_listLeaders_73 rfl h_9 h_12 h_10.1 h_10.2 (fun I_13 => ?_)
      exact fun g => ok_pick [1, 2, 3, 4] rfl (w_X7_listLeaders_b74 (N := N) h0 H30 g)
def X7_listLeaders_h30 (N : Nat) (K : am_K) (F : am_F) (a0 : Nat) : Nat → am_I → Int → Int → Int → Option (Int × am_I) := am_it (fun kh => X7_listLeaders_s30 N K F a0 kh) (fun _ _ _ _ => none)
theorem w_X7_listLeaders_h30 {η : am_E} {l : Launch} {N : Nat} {n : Nat} {K : am_K} {F : am_F} {a0 : Nat} {r0 : Int × am_I} (h0 : (K a0).1 = 7) (f : Nat) : ∀ (I : am_I) (x1 : Int) (x2 : Int) (x3 : Int), X7_listLeaders_h30 N K F a0 f I x1 x2 x3 = some r0 → Ok η l M_X7_listLeaders (am_qm η (am_pS 0 r0 n K F) 0 0) 30 [(0, qr a0), (1, qi x1), (2, qi x2), (3, qi x3)] [] n K I F 0 0 := by
  induction f with
  | zero => intro I x1 x2 x3 g; exact fi_none g
  | succ f ih => intro I x1 x2 x3 g; exact w_X7_listLeaders_s30 (N := N) h0 ih g
def X7_listLeaders_s2 (N : Nat) (K : am_K) (F : am_F) (a0 : Nat) (k2 : am_I → Int → Int → Int → Option (Int × am_I)) (I : am_I) (x1 : Int) (x2 : Int) (x3 : Int) : Option (Int × am_I) :=
  if x3 ≤ x2 then (if (K (F a0 5)).1 = 100 then if F a0 5 ≠ 1 then if (0 : Int) ≤ x3 ∧ x3 < (K (F a0 5)).2 then am_lt (am_u2 I (F a0 5) x3 0) (fun I_8 => if am_inI (x3 + 1) then am_lt (x3 + 1) (fun x3_10 => k2 I_8 x1 x2 x3_10) else none) else none else none else none) else (if (K (F a0 0)).1 = 0 then if (K (F (F a0 0) 1)).1 = 100 then if (0 : Int) ≤ x1 ∧ x1 < (K (F (F a0 0) 1)).2 then am_lt (I (F (F a0 0) 1) x1) (fun x3_4 => X7_listLeaders_h30 N K F a0 N I x1 x2 x3_4) else none else none else none)
theorem w_X7_listLeaders_s2 {η : am_E} {l : Launch} {N : Nat} {n : Nat} {K : am_K} {I : am_I} {F : am_F} {a0 : Nat} {r0 : Int × am_I} {k2 : am_I → Int → Int → Int → Option (Int × am_I)} {x1 : Int} {x2 : Int} {x3 : Int} (h0 : (K a0).1 = 7) (H2 : ∀ (I : am_I) (x1 : Int) (x2 : Int) (x3 : Int), k2 I x1 x2 x3 = some r0 → Ok η l M_X7_listLeaders (am_qm η (am_pS 0 r0 n K F) 0 0) 2 [(0, qr a0), (1, qi x1), (2, qi x2), (3, qi x3)] [] n K I F 0 0) : X7_listLeaders_s2 N K F a0 k2 I x1 x2 x3 = some r0 → Ok η l M_X7_listLeaders (am_qm η (am_pS 0 r0 n K F) 0 0) 2 [(0, qr a0), (1, qi x1), (2, qi x2), (3, qi x3)] [] n K I F 0 0 := by
  unfold X7_listLeaders_s2
  refine ok_iload_n (q := 3) 3 dX7_listLeaders_2 rfl rfl rfl ?_
  refine ok_iload_n (q := 4) 2 dX7_listLeaders_3 rfl rfl rfl ?_
  refine ok_icmp_gt (q := 20) (q2 := 7) dX7_listLeaders_4 rfl rfl ?_ ?_
  · skip
    refine ok_aload_n (q := 21) 0 dX7_listLeaders_20 rfl rfl rfl ?_
    refine ok_getR (q := 24) (ci := 7) (k := 0) (x := F a0 0) dX7_listLeaders_21 rfl fo_X7_30 h0 rfl ?_
    refine fi_chk (fun h_1 => ?_)
    refine ok_getR (q := 27) (ci := 0) (k := 1) (x := F (F a0 0) 1) dX7_listLeaders_24 rfl fo_X7_56 h_1 rfl ?_
    refine ok_iload_n (q := 28) 1 dX7_listLeaders_27 rfl rfl rfl ?_
    refine fi_chk (fun h_2 => ?_)
    refine fi_chk (fun h_3 => ?_)
    refine ok_iaload (q := 29) (v := I (F (F a0 0) 1) x1) dX7_listLeaders_28 rfl h_2 h_3.1 h_3.2 rfl ?_
    refine ok_istore_nL (q := 30) (fun x3_4 => [(3, qi x3_4), (0, qr a0), (1, qi x1), (2, qi x2)]) dX7_listLeaders_29 rfl rfl (Nat.le_of_ble_eq_true rfl) (fun _ => rfl) (fun x3_4 => ?_)
    exact fun g => ok_pick [1, 2, 3, 0] rfl (w_X7_listLeaders_h30 (N := N) h0 N _ _ _ _ g)
  · skip
    refine ok_aload_n (q := 8) 0 dX7_listLeaders_7 rfl rfl rfl ?_
    refine ok_getR (q := 11) (ci := 7) (k := 5) (x := F a0 5) dX7_listLeaders_8 rfl fo_X7_24 h0 rfl ?_
    refine ok_iload_n (q := 12) 3 dX7_listLeaders_11 rfl rfl rfl ?_
    refine ok_iconst (q := 13) (x := 0) dX7_listLeaders_12 rfl rfl (by decide) ?_
    refine fi_chk (fun h_5 => ?_)
    refine fi_chk (fun h_6 => ?_)
    refine fi_chk (fun h_7 => ?_)
    refine ok_iastore (q := 14) dX7_listLeaders_13 rfl h_5 h_6 h_7.1 h_7.2 (fun I_8 => ?_)
    refine fi_chk (fun h_9 => ?_)
    refine ok_iincL (q := 17) (fun x3_10 => [(3, qi x3_10), (0, qr a0), (1, qi x1), (2, qi x2)]) 3 dX7_listLeaders_14 rfl rfl h_9 (Nat.le_of_ble_eq_true rfl) (fun _ => rfl) (fun x3_10 => ?_)
    refine ok_goto (q := 2) dX7_listLeaders_17 rfl ?_
    exact fun g => ok_pick [1, 2, 3, 0] rfl (H2 _ _ _ _ g)
def X7_listLeaders_h2 (N : Nat) (K : am_K) (F : am_F) (a0 : Nat) : Nat → am_I → Int → Int → Int → Option (Int × am_I) := am_it (fun kh => X7_listLeaders_s2 N K F a0 kh) (fun _ _ _ _ => none)
theorem w_X7_listLeaders_h2 {η : am_E} {l : Launch} {N : Nat} {n : Nat} {K : am_K} {F : am_F} {a0 : Nat} {r0 : Int × am_I} (h0 : (K a0).1 = 7) (f : Nat) : ∀ (I : am_I) (x1 : Int) (x2 : Int) (x3 : Int), X7_listLeaders_h2 N K F a0 f I x1 x2 x3 = some r0 → Ok η l M_X7_listLeaders (am_qm η (am_pS 0 r0 n K F) 0 0) 2 [(0, qr a0), (1, qi x1), (2, qi x2), (3, qi x3)] [] n K I F 0 0 := by
  induction f with
  | zero => intro I x1 x2 x3 g; exact fi_none g
  | succ f ih => intro I x1 x2 x3 g; exact w_X7_listLeaders_s2 (N := N) h0 ih g
def X7_listLeaders (N : Nat) (K : am_K) (F : am_F) (a0 : Nat) (I : am_I) (x1 : Int) (x2 : Int) : Option (Int × am_I) :=
  X7_listLeaders_h2 N K F a0 N I x1 x2 x1
theorem w_X7_listLeaders {η : am_E} {l : Launch} {N : Nat} {n : Nat} {K : am_K} {I : am_I} {F : am_F} {a0 : Nat} {r0 : Int × am_I} {x1 : Int} {x2 : Int} (h0 : (K a0).1 = 7) : X7_listLeaders N K F a0 I x1 x2 = some r0 → Ok η l M_X7_listLeaders (am_qm η (am_pS 0 r0 n K F) 0 0) 0 [(0, qr a0), (1, qi x1), (2, qi x2)] [] n K I F 0 0 := by
  unfold X7_listLeaders
  refine ok_iload_n (q := 1) 1 dX7_listLeaders_0 rfl rfl rfl ?_
  refine ok_istore_n (q := 2) (ls' := [(3, qi x1), (0, qr a0), (1, qi x1), (2, qi x2)]) dX7_listLeaders_1 rfl rfl (Nat.le_of_ble_eq_true rfl) rfl ?_
  exact fun g => ok_pick [1, 2, 3, 0] rfl (w_X7_listLeaders_h2 (N := N) h0 N _ _ _ _ g)
theorem ct_X7_listLeaders {η : am_E} {l : Launch} {N : Nat} {n : Nat} {K : am_K} {I : am_I} {F : am_F} {a0 : Nat} {r0 : Int × am_I} {x1 : Int} {x2 : Int} (h0 : (K a0).1 = 7) : X7_listLeaders N K F a0 I x1 x2 = some r0 → am_Ct η l yX7_listLeaders cX7_listLeaders 6 none 1 20 0 0 [qr a0, qi x1, qi x2] n K I F (am_pS 0 r0 n K F) := fun g => am_Ct.of false (by decide) (by decide) (Nat.le_of_ble_eq_true rfl) (fun _ => w_X7_listLeaders (N := N) h0 g)
def M_X7_weigh : am_M := (yX7_weigh.cls, cX7_weigh, 8, none, am_room 1 21 0 0, false)
def X7_weigh_s31 (N : Nat) (K : am_K) (F : am_F) (a0 : Nat) (k2 : am_I → Int → Nat → Int → Option (Int × am_I)) (k31 : am_I → Int → Nat → Int → Int → Int → Int → Option (Int × am_I)) (I : am_I) (x1 : Int) (a2 : Nat) (x3 : Int) (x4 : Int) (x5 : Int) (x6 : Int) : Option (Int × am_I) :=
  if (K (F a0 0)).1 = 0 then if am_inI (x4 + 1) then if (K (F (F a0 0) 1)).1 = 100 then if (0 : Int) ≤ (x4 + 1) ∧ (x4 + 1) < (K (F (F a0 0) 1)).2 then if x6 < (I (F (F a0 0) 1) (x4 + 1)) then (if (K (F (F a0 0) 2)).1 = 100 then if (0 : Int) ≤ x6 ∧ x6 < (K (F (F a0 0) 2)).2 then am_lt (I (F (F a0 0) 2) x6) (fun x7_13 => am_cq (X0_takenBy N K F I x7_13) (fun v_14 => am_cq (X0_placeBehind N K F I x7_13) (fun v_15 => if (K a2).1 = 100 then if (0 : Int) ≤ v_15 ∧ v_15 < (K a2).2 then if am_inI (v_14 - (I a2 v_15)) then am_lt (am_max x5 (v_14 - (I a2 v_15))) (fun x5_19 => if am_inI (x6 + 1) then am_lt (x6 + 1) (fun x6_21 => k31 I x1 a2 x3 x4 x5_19 x6_21) else none) else none else none else none))) else none else none) else (if (K (F a0 2)).1 = 100 then if F a0 2 ≠ 1 then if (0 : Int) ≤ x3 ∧ x3 < (K (F a0 2)).2 then am_lt (am_u2 I (F a0 2) x3 x5) (fun I_8 => if am_inI (x3 + 1) then am_lt (x3 + 1) (fun x3_10 => k2 I_8 x1 a2 x3_10) else none) else none else none else none) else none else none else none else none
theorem w_X7_weigh_s31 {η : am_E} {l : Launch} {N : Nat} {n : Nat} {K : am_K} {I : am_I} {F : am_F} {a0 : Nat} {r0 : Int × am_I} {k2 : am_I → Int → Nat → Int → Option (Int × am_I)} {k31 : am_I → Int → Nat → Int → Int → Int → Int → Option (Int × am_I)} {x1 : Int} {a2 : Nat} {x3 : Int} {x4 : Int} {x5 : Int} {x6 : Int} (h0 : (K a0).1 = 7) (H2 : ∀ (I : am_I) (x1 : Int) (a2 : Nat) (x3 : Int), k2 I x1 a2 x3 = some r0 → Ok η l M_X7_weigh (am_qm η (am_pS 0 r0 n K F) 0 0) 2 [(0, qr a0), (1, qi x1), (2, qr a2), (3, qi x3)] [] n K I F 0 0) (H31 : ∀ (I : am_I) (x1 : Int) (a2 : Nat) (x3 : Int) (x4 : Int) (x5 : Int) (x6 : Int), k31 I x1 a2 x3 x4 x5 x6 = some r0 → Ok η l M_X7_weigh (am_qm η (am_pS 0 r0 n K F) 0 0) 31 [(0, qr a0), (1, qi x1), (2, qr a2), (3, qi x3), (4, qi x4), (5, qi x5), (6, qi x6)] [] n K I F 0 0) : X7_weigh_s31 N K F a0 k2 k31 I x1 a2 x3 x4 x5 x6 = some r0 → Ok η l M_X7_weigh (am_qm η (am_pS 0 r0 n K F) 0 0) 31 [(0, qr a0), (1, qi x1), (2, qr a2), (3, qi x3), (4, qi x4), (5, qi x5), (6, qi x6)] [] n K I F 0 0 := by
  unfold X7_weigh_s31
  refine ok_iload (q := 33) 6 dX7_weigh_31 rfl rfl ?_
  refine ok_aload_n (q := 34) 0 dX7_weigh_33 rfl rfl rfl ?_
  refine ok_getR (q := 37) (ci := 7) (k := 0) (x := F a0 0) dX7_weigh_34 rfl fo_X7_30 h0 rfl ?_
  refine fi_chk (fun h_1 => ?_)
  refine ok_getR (q := 40) (ci := 0) (k := 1) (x := F (F a0 0) 1) dX7_weigh_37 rfl fo_X7_56 h_1 rfl ?_
  refine ok_iload (q := 42) 4 dX7_weigh_40 rfl rfl ?_
  refine ok_iconst (q := 43) (x := 1) dX7_weigh_42 rfl rfl (by decide) ?_
  refine fi_chk (fun h_2 => ?_)
  refine ok_iadd (q := 44) dX7_weigh_43 rfl h_2 ?_
  refine fi_chk (fun h_3 => ?_)
  refine fi_chk (fun h_4 => ?_)
  refine ok_iaload (q := 45) (v := I (F (F a0 0) 1) (x4 + 1)) dX7_weigh_44 rfl h_3 h_4.1 h_4.2 rfl ?_
  refine ok_icmp_ge (q := 86) (q2 := 48) dX7_weigh_45 rfl rfl ?_ ?_
  · skip
    refine ok_aload_n (q := 87) 0 dX7_weigh_86 rfl rfl rfl ?_
    refine ok_getR (q := 90) (ci := 7) (k := 2) (x := F a0 2) dX7_weigh_87 rfl fo_X7_15 h0 rfl ?_
    refine ok_iload_n (q := 91) 3 dX7_weigh_90 rfl rfl rfl ?_
    refine ok_iload (q := 93) 5 dX7_weigh_91 rfl rfl ?_
    refine fi_chk (fun h_5 => ?_)
    refine fi_chk (fun h_6 => ?_)
    refine fi_chk (fun h_7 => ?_)
    refine ok_iastore (q := 94) dX7_weigh_93 rfl h_5 h_6 h_7.1 h_7.2 (fun I_8 => ?_)
    refine fi_chk (fun h_9 => ?_)
    refine ok_iincL (q := 97) (fun x3_10 => [(3, qi x3_10), (0, qr a0), (1, qi x1), (2, qr a2), (4, qi x4), (5, qi x5), (6, qi x6)]) 3 dX7_weigh_94 rfl rfl h_9 (Nat.le_of_ble_eq_true rfl) (fun _ => rfl) (fun x3_10 => ?_)
    refine ok_goto (q := 2) dX7_weigh_97 rfl ?_
    exact fun g => ok_pick [1, 2, 3, 0] rfl (H2 _ _ _ _ g)
  · skip
    refine ok_aload_n (q := 49) 0 dX7_weigh_48 rfl rfl rfl ?_
    refine ok_getR (q := 52) (ci := 7) (k := 0) (x := F a0 0) dX7_weigh_49 rfl fo_X7_30 h0 rfl ?_
    refine ok_getR (q := 55) (ci := 0) (k := 2) (x := F (F a0 0) 2) dX7_weigh_52 rfl fo_X7_59 h_1 rfl ?_
    refine ok_iload (q := 57) 6 dX7_weigh_55 rfl rfl ?_
    refine fi_chk (fun h_11 => ?_)
    refine fi_chk (fun h_12 => ?_)
    refine ok_iaload (q := 58) (v := I (F (F a0 0) 2) x6) dX7_weigh_57 rfl h_11 h_12.1 h_12.2 rfl ?_
    refine ok_istoreL (q := 60) (fun x7_13 => [(7, qi x7_13), (0, qr a0), (1, qi x1), (2, qr a2), (3, qi x3), (4, qi x4), (5, qi x5), (6, qi x6)]) dX7_weigh_58 rfl (Nat.le_of_ble_eq_true rfl) (fun _ => rfl) (fun x7_13 => ?_)
    refine ok_iload (q := 62) 6 dX7_weigh_60 rfl rfl ?_
    refine ok_iload (q := 64) 0 dX7_weigh_62 rfl rfl ?_
    refine fi_callS1P (q := 67) (as := [qi x7_13]) (st := [qi x5]) dX7_weigh_64 rfl mo_X7_66 rfl rfl (Nat.le_of_ble_eq_true rfl) (Nat.le_of_ble_eq_true rfl) (Nat.le_of_ble_eq_true rfl) (Nat.zero_le _) (Nat.zero_le _) (fun _ hr => ct_X0_takenBy (N := N) hr) (fun v_14 => ?_)
    refine ok_aload_n (q := 68) 3 dX7_weigh_67 rfl rfl rfl ?_
    refine ok_iload (q := 70) 0 dX7_weigh_68 rfl rfl ?_
    refine fi_callS1P (q := 73) (as := [qi x7_13]) (st := [qr a2, qi v_14, qi x5]) dX7_weigh_70 rfl mo_X7_62 rfl rfl (Nat.le_of_ble_eq_true rfl) (Nat.le_of_ble_eq_true rfl) (Nat.le_of_ble_eq_true rfl) (Nat.zero_le _) (Nat.zero_le _) (fun _ hr => ct_X0_placeBehind (N := N) hr) (fun v_15 => ?_)
    refine fi_chk (fun h_16 => ?_)
    refine fi_chk (fun h_17 => ?_)
    refine ok_iaload (q := 74) (v := I a2 v_15) dX7_weigh_73 rfl h_16 h_17.1 h_17.2 rfl ?_
    refine fi_chk (fun h_18 => ?_)
    refine ok_isub (q := 75) dX7_weigh_74 rfl h_18 ?_
    refine ok_mmax (q := 78) dX7_weigh_75 rfl mm_X7_69 (Nat.le_of_ble_eq_true rfl) (Nat.le_of_ble_eq_true rfl) (Nat.le_of_ble_eq_true rfl) (Nat.zero_le _) (Nat.zero_le _) ?_
    refine ok_istoreL (q := 80) (fun x5_19 => [(5, qi x5_19), (7, qi x7_13), (0, qr a0), (1, qi x1), (2, qr a2), (3, qi x3), (4, qi x4), (6, qi x6)]) dX7_weigh_78 rfl (Nat.le_of_ble_eq_true rfl) (fun _ => rfl) (fun x5_19 => ?_)
    refine fi_chk (fun h_20 => ?_)
    refine ok_iincL (q := 83) (fun x6_21 => [(6, qi x6_21), (5, qi x5_19), (7, qi x7_13), (0, qr a0), (1, qi x1), (2, qr a2), (3, qi x3), (4, qi x4)]) 7 dX7_weigh_80 rfl rfl h_20 (Nat.le_of_ble_eq_true rfl) (fun _ => rfl) (fun x6_21 => ?_)
    refine ok_goto (q := 31) dX7_weigh_83 rfl ?_
    exact fun g => ok_pick [3, 4, 5, 6, 7, 1, 0] rfl (H31 _ _ _ _ _ _ _ g)
def X7_weigh_h31 (N : Nat) (K : am_K) (F : am_F) (a0 : Nat) (k2 : am_I → Int → Nat → Int → Option (Int × am_I)) : Nat → am_I → Int → Nat → Int → Int → Int → Int → Option (Int × am_I) := am_it (fun kh => X7_weigh_s31 N K F a0 k2 kh) (fun _ _ _ _ _ _ _ => none)
theorem w_X7_weigh_h31 {η : am_E} {l : Launch} {N : Nat} {n : Nat} {K : am_K} {F : am_F} {a0 : Nat} {r0 : Int × am_I} {k2 : am_I → Int → Nat → Int → Option (Int × am_I)} (h0 : (K a0).1 = 7) (H2 : ∀ (I : am_I) (x1 : Int) (a2 : Nat) (x3 : Int), k2 I x1 a2 x3 = some r0 → Ok η l M_X7_weigh (am_qm η (am_pS 0 r0 n K F) 0 0) 2 [(0, qr a0), (1, qi x1), (2, qr a2), (3, qi x3)] [] n K I F 0 0) (f : Nat) : ∀ (I : am_I) (x1 : Int) (a2 : Nat) (x3 : Int) (x4 : Int) (x5 : Int) (x6 : Int), X7_weigh_h31 N K F a0 k2 f I x1 a2 x3 x4 x5 x6 = some r0 → Ok η l M_X7_weigh (am_qm η (am_pS 0 r0 n K F) 0 0) 31 [(0, qr a0), (1, qi x1), (2, qr a2), (3, qi x3), (4, qi x4), (5, qi x5), (6, qi x6)] [] n K I F 0 0 := by
  induction f with
  | zero => intro I x1 a2 x3 x4 x5 x6 g; exact fi_none g
  | succ f ih => intro I x1 a2 x3 x4 x5 x6 g; exact w_X7_weigh_s31 (N := N) h0 H2 ih g
def X7_weigh_s2 (N : Nat) (K : am_K) (F : am_F) (a0 : Nat) (k2 : am_I → Int → Nat → Int → Option (Int × am_I)) (I : am_I) (x1 : Int) (a2 : Nat) (x3 : Int) : Option (Int × am_I) :=
  if x3 < x1 then (if (K (F a0 1)).1 = 100 then if (0 : Int) ≤ x3 ∧ x3 < (K (F a0 1)).2 then am_lt (I (F a0 1) x3) (fun x4_3 => if (K (F a0 0)).1 = 0 then if (K (F (F a0 0) 1)).1 = 100 then if (0 : Int) ≤ x4_3 ∧ x4_3 < (K (F (F a0 0) 1)).2 then am_lt (I (F (F a0 0) 1) x4_3) (fun x6_7 => X7_weigh_h31 N K F a0 k2 N I x1 a2 x3 x4_3 (-60) x6_7) else none else none else none) else none else none) else (some (0, I))
theorem w_X7_weigh_s2 {η : am_E} {l : Launch} {N : Nat} {n : Nat} {K : am_K} {I : am_I} {F : am_F} {a0 : Nat} {r0 : Int × am_I} {k2 : am_I → Int → Nat → Int → Option (Int × am_I)} {x1 : Int} {a2 : Nat} {x3 : Int} (h0 : (K a0).1 = 7) (H2 : ∀ (I : am_I) (x1 : Int) (a2 : Nat) (x3 : Int), k2 I x1 a2 x3 = some r0 → Ok η l M_X7_weigh (am_qm η (am_pS 0 r0 n K F) 0 0) 2 [(0, qr a0), (1, qi x1), (2, qr a2), (3, qi x3)] [] n K I F 0 0) : X7_weigh_s2 N K F a0 k2 I x1 a2 x3 = some r0 → Ok η l M_X7_weigh (am_qm η (am_pS 0 r0 n K F) 0 0) 2 [(0, qr a0), (1, qi x1), (2, qr a2), (3, qi x3)] [] n K I F 0 0 := by
  unfold X7_weigh_s2
  refine ok_iload_n (q := 3) 3 dX7_weigh_2 rfl rfl rfl ?_
  refine ok_iload_n (q := 4) 1 dX7_weigh_3 rfl rfl rfl ?_
  refine ok_icmp_ge (q := 100) (q2 := 7) dX7_weigh_4 rfl rfl ?_ ?_
  · skip
    exact fi_returnS dX7_weigh_100 rfl
  · skip
    refine ok_aload_n (q := 8) 0 dX7_weigh_7 rfl rfl rfl ?_
    refine ok_getR (q := 11) (ci := 7) (k := 1) (x := F a0 1) dX7_weigh_8 rfl fo_X7_9 h0 rfl ?_
    refine ok_iload_n (q := 12) 3 dX7_weigh_11 rfl rfl rfl ?_
    refine fi_chk (fun h_1 => ?_)
    refine fi_chk (fun h_2 => ?_)
    refine ok_iaload (q := 13) (v := I (F a0 1) x3) dX7_weigh_12 rfl h_1 h_2.1 h_2.2 rfl ?_
    refine ok_istoreL (q := 15) (fun x4_3 => [(4, qi x4_3), (0, qr a0), (1, qi x1), (2, qr a2), (3, qi x3)]) dX7_weigh_13 rfl (Nat.le_of_ble_eq_true rfl) (fun _ => rfl) (fun x4_3 => ?_)
    refine ok_bipush (q := 17) (x := -60) dX7_weigh_15 rfl rfl (by decide) ?_
    refine ok_istore (q := 19) (ls' := [(5, qi (-60)), (4, qi x4_3), (0, qr a0), (1, qi x1), (2, qr a2), (3, qi x3)]) dX7_weigh_17 rfl (Nat.le_of_ble_eq_true rfl) rfl ?_
    refine ok_aload_n (q := 20) 2 dX7_weigh_19 rfl rfl rfl ?_
    refine ok_getR (q := 23) (ci := 7) (k := 0) (x := F a0 0) dX7_weigh_20 rfl fo_X7_30 h0 rfl ?_
    refine fi_chk (fun h_4 => ?_)
    refine ok_getR (q := 26) (ci := 0) (k := 1) (x := F (F a0 0) 1) dX7_weigh_23 rfl fo_X7_56 h_4 rfl ?_
    refine ok_iload (q := 28) 1 dX7_weigh_26 rfl rfl ?_
    refine fi_chk (fun h_5 => ?_)
    refine fi_chk (fun h_6 => ?_)
    refine ok_iaload (q := 29) (v := I (F (F a0 0) 1) x4_3) dX7_weigh_28 rfl h_5 h_6.1 h_6.2 rfl ?_
    refine ok_istoreL (q := 31) (fun x6_7 => [(6, qi x6_7), (5, qi (-60)), (4, qi x4_3), (0, qr a0), (1, qi x1), (2, qr a2), (3, qi x3)]) dX7_weigh_29 rfl (Nat.le_of_ble_eq_true rfl) (fun _ => rfl) (fun x6_7 => ?_)
    exact fun g => ok_pick [3, 4, 5, 6, 2, 1, 0] rfl (w_X7_weigh_h31 (N := N) h0 H2 N _ _ _ _ _ _ _ g)
def X7_weigh_h2 (N : Nat) (K : am_K) (F : am_F) (a0 : Nat) : Nat → am_I → Int → Nat → Int → Option (Int × am_I) := am_it (fun kh => X7_weigh_s2 N K F a0 kh) (fun _ _ _ _ => none)
theorem w_X7_weigh_h2 {η : am_E} {l : Launch} {N : Nat} {n : Nat} {K : am_K} {F : am_F} {a0 : Nat} {r0 : Int × am_I} (h0 : (K a0).1 = 7) (f : Nat) : ∀ (I : am_I) (x1 : Int) (a2 : Nat) (x3 : Int), X7_weigh_h2 N K F a0 f I x1 a2 x3 = some r0 → Ok η l M_X7_weigh (am_qm η (am_pS 0 r0 n K F) 0 0) 2 [(0, qr a0), (1, qi x1), (2, qr a2), (3, qi x3)] [] n K I F 0 0 := by
  induction f with
  | zero => intro I x1 a2 x3 g; exact fi_none g
  | succ f ih => intro I x1 a2 x3 g; exact w_X7_weigh_s2 (N := N) h0 ih g
def X7_weigh (N : Nat) (K : am_K) (F : am_F) (a0 : Nat) (I : am_I) (x1 : Int) (a2 : Nat) : Option (Int × am_I) :=
  X7_weigh_h2 N K F a0 N I x1 a2 0
theorem w_X7_weigh {η : am_E} {l : Launch} {N : Nat} {n : Nat} {K : am_K} {I : am_I} {F : am_F} {a0 : Nat} {r0 : Int × am_I} {x1 : Int} {a2 : Nat} (h0 : (K a0).1 = 7) : X7_weigh N K F a0 I x1 a2 = some r0 → Ok η l M_X7_weigh (am_qm η (am_pS 0 r0 n K F) 0 0) 0 [(0, qr a0), (1, qi x1), (2, qr a2)] [] n K I F 0 0 := by
  unfold X7_weigh
  refine ok_iconst (q := 1) (x := 0) dX7_weigh_0 rfl rfl (by decide) ?_
  refine ok_istore_n (q := 2) (ls' := [(3, qi 0), (0, qr a0), (1, qi x1), (2, qr a2)]) dX7_weigh_1 rfl rfl (Nat.le_of_ble_eq_true rfl) rfl ?_
  exact fun g => ok_pick [1, 2, 3, 0] rfl (w_X7_weigh_h2 (N := N) h0 N _ _ _ _ g)
theorem ct_X7_weigh {η : am_E} {l : Launch} {N : Nat} {n : Nat} {K : am_K} {I : am_I} {F : am_F} {a0 : Nat} {r0 : Int × am_I} {x1 : Int} {a2 : Nat} (h0 : (K a0).1 = 7) : X7_weigh N K F a0 I x1 a2 = some r0 → am_Ct η l yX7_weigh cX7_weigh 8 none 1 21 0 0 [qr a0, qi x1, qr a2] n K I F (am_pS 0 r0 n K F) := fun g => am_Ct.of false (by decide) (by decide) (Nat.le_of_ble_eq_true rfl) (fun _ => w_X7_weigh (N := N) h0 g)
def M_X7_settle (mc ms : Nat) : am_M := (yX7_settle.cls, cX7_settle, 9, (some .int), am_room 0 0 mc ms, false)
def X7_settle_b127 (N : Nat) (a0 : Nat) (k6 : Nat → am_K → am_I → am_F → Nat → Nat → Int → Int → Nat → Nat → Int → Int → Option am_A) (n : Nat) (K : am_K) (I : am_I) (F : am_F) (c z : Nat) (x1 : Int) (x2 : Int) (a3 : Nat) (a4 : Nat) (x5 : Int) (x6 : Int) : Option am_A :=
  am_mo c z (if am_inI (x6 + 1) then am_lt (x6 + 1) (fun x6_4 => k6 n K I F c z x1 x2 a3 a4 x5 x6_4) else none)
theorem w_X7_settle_b127 {η : am_E} {l : Launch} {N : Nat} {n : Nat} {K : am_K} {I : am_I} {F : am_F} {c z : Nat} {a0 : Nat} {r0 : am_A} {k6 : Nat → am_K → am_I → am_F → Nat → Nat → Int → Int → Nat → Nat → Int → Int → Option am_A} {x1 : Int} {x2 : Int} {a3 : Nat} {a4 : Nat} {x5 : Int} {x6 : Int} (H6 : ∀ (n : Nat) (K : am_K) (I : am_I) (F : am_F) (c : Nat) (z : Nat) (x1 : Int) (x2 : Int) (a3 : Nat) (a4 : Nat) (x5 : Int) (x6 : Int), k6 n K I F c z x1 x2 a3 a4 x5 x6 = some r0 → Ok η l (M_X7_settle (am_ac1 r0) (am_az1 r0)) (am_qm η (am_pA 1 r0) (am_ac1 r0) (am_az1 r0)) 6 [(0, qr a0), (1, qi x1), (2, qi x2), (3, qr a3), (4, qr a4), (5, qi x5), (6, qi x6)] [] n K I F c z) : X7_settle_b127 N a0 k6 n K I F c z x1 x2 a3 a4 x5 x6 = some r0 → Ok η l (M_X7_settle (am_ac1 r0) (am_az1 r0)) (am_qm η (am_pA 1 r0) (am_ac1 r0) (am_az1 r0)) 127 [(0, qr a0), (1, qi x1), (2, qi x2), (3, qr a3), (4, qr a4), (5, qi x5), (6, qi x6)] [] n K I F c z := by
  unfold X7_settle_b127
  refine fi_mo (fun hc_1 hz_2 => ?_)
  refine fi_chk (fun h_3 => ?_)
  refine ok_iincL (q := 130) (fun x6_4 => [(6, qi x6_4), (0, qr a0), (1, qi x1), (2, qi x2), (3, qr a3), (4, qr a4), (5, qi x5)]) 6 dX7_settle_127 rfl rfl h_3 (Nat.le_of_ble_eq_true rfl) (fun _ => rfl) (fun x6_4 => ?_)
  refine ok_goto (q := 6) dX7_settle_130 rfl ?_
  exact fun g => ok_pick [1, 2, 3, 4, 5, 6, 0] rfl (H6 _ _ _ _ _ _ _ _ _ _ _ _ g)
def X7_settle_b121 (N : Nat) (a0 : Nat) (k6 : Nat → am_K → am_I → am_F → Nat → Nat → Int → Int → Nat → Nat → Int → Int → Option am_A) (k61 : Nat → am_K → am_I → am_F → Nat → Nat → Int → Int → Nat → Nat → Int → Int → Int → Int → Option am_A) (n : Nat) (K : am_K) (I : am_I) (F : am_F) (c z : Nat) (x1 : Int) (x2 : Int) (a3 : Nat) (a4 : Nat) (x5 : Int) (x6 : Int) (x7 : Int) (x8 : Int) : Option am_A :=
  am_mo c z (if am_inI (x8 + 1) then am_lt (x8 + 1) (fun x8_4 => k61 n K I F c z x1 x2 a3 a4 x5 x6 x7 x8_4) else none)
theorem w_X7_settle_b121 {η : am_E} {l : Launch} {N : Nat} {n : Nat} {K : am_K} {I : am_I} {F : am_F} {c z : Nat} {a0 : Nat} {r0 : am_A} {k6 : Nat → am_K → am_I → am_F → Nat → Nat → Int → Int → Nat → Nat → Int → Int → Option am_A} {k61 : Nat → am_K → am_I → am_F → Nat → Nat → Int → Int → Nat → Nat → Int → Int → Int → Int → Option am_A} {x1 : Int} {x2 : Int} {a3 : Nat} {a4 : Nat} {x5 : Int} {x6 : Int} {x7 : Int} {x8 : Int} (H6 : ∀ (n : Nat) (K : am_K) (I : am_I) (F : am_F) (c : Nat) (z : Nat) (x1 : Int) (x2 : Int) (a3 : Nat) (a4 : Nat) (x5 : Int) (x6 : Int), k6 n K I F c z x1 x2 a3 a4 x5 x6 = some r0 → Ok η l (M_X7_settle (am_ac1 r0) (am_az1 r0)) (am_qm η (am_pA 1 r0) (am_ac1 r0) (am_az1 r0)) 6 [(0, qr a0), (1, qi x1), (2, qi x2), (3, qr a3), (4, qr a4), (5, qi x5), (6, qi x6)] [] n K I F c z) (H61 : ∀ (n : Nat) (K : am_K) (I : am_I) (F : am_F) (c : Nat) (z : Nat) (x1 : Int) (x2 : Int) (a3 : Nat) (a4 : Nat) (x5 : Int) (x6 : Int) (x7 : Int) (x8 : Int), k61 n K I F c z x1 x2 a3 a4 x5 x6 x7 x8 = some r0 → Ok η l (M_X7_settle (am_ac1 r0) (am_az1 r0)) (am_qm η (am_pA 1 r0) (am_ac1 r0) (am_az1 r0)) 61 [(0, qr a0), (1, qi x1), (2, qi x2), (3, qr a3), (4, qr a4), (5, qi x5), (6, qi x6), (7, qi x7), (8, qi x8)] [] n K I F c z) : X7_settle_b121 N a0 k6 k61 n K I F c z x1 x2 a3 a4 x5 x6 x7 x8 = some r0 → Ok η l (M_X7_settle (am_ac1 r0) (am_az1 r0)) (am_qm η (am_pA 1 r0) (am_ac1 r0) (am_az1 r0)) 121 [(0, qr a0), (1, qi x1), (2, qi x2), (3, qr a3), (4, qr a4), (5, qi x5), (6, qi x6), (7, qi x7), (8, qi x8)] [] n K I F c z := by
  unfold X7_settle_b121
  refine fi_mo (fun hc_1 hz_2 => ?_)
  refine fi_chk (fun h_3 => ?_)
  refine ok_iincL (q := 124) (fun x8_4 => [(8, qi x8_4), (0, qr a0), (1, qi x1), (2, qi x2), (3, qr a3), (4, qr a4), (5, qi x5), (6, qi x6), (7, qi x7)]) 8 dX7_settle_121 rfl rfl h_3 (Nat.le_of_ble_eq_true rfl) (fun _ => rfl) (fun x8_4 => ?_)
  refine ok_goto (q := 61) dX7_settle_124 rfl ?_
  exact fun g => ok_pick [1, 2, 3, 4, 5, 6, 7, 8, 0] rfl (H61 _ _ _ _ _ _ _ _ _ _ _ _ _ _ g)
def X7_settle_s61 (N : Nat) (a0 : Nat) (k6 : Nat → am_K → am_I → am_F → Nat → Nat → Int → Int → Nat → Nat → Int → Int → Option am_A) (k61 : Nat → am_K → am_I → am_F → Nat → Nat → Int → Int → Nat → Nat → Int → Int → Int → Int → Option am_A) (n : Nat) (K : am_K) (I : am_I) (F : am_F) (c z : Nat) (x1 : Int) (x2 : Int) (a3 : Nat) (a4 : Nat) (x5 : Int) (x6 : Int) (x7 : Int) (x8 : Int) : Option am_A :=
  am_mo c z (if (K a0).1 = 7 then if am_inI (x7 + 1) then if (K (F a0 5)).1 = 100 then if (0 : Int) ≤ (x7 + 1) ∧ (x7 + 1) < (K (F a0 5)).2 then if x8 < (I (F a0 5) (x7 + 1)) then (if (K (F a0 6)).1 = 100 then if (0 : Int) ≤ x8 ∧ x8 < (K (F a0 6)).2 then if (K (F a0 4)).1 = 100 then if (0 : Int) ≤ (I (F a0 6) x8) ∧ (I (F a0 6) x8) < (K (F a0 4)).2 then if (I (F a0 4) (I (F a0 6) x8)) = x2 then (X7_settle_b121 N a0 k6 k61 n K I F c z x1 x2 a3 a4 x5 x6 x7 x8) else (if F a0 4 ≠ 1 then am_lt (am_u2 I (F a0 4) (I (F a0 6) x8) x2) (fun I_12 => if (K (F a0 3)).1 = 100 then if F a0 3 ≠ 1 then if (0 : Int) ≤ x5 ∧ x5 < (K (F a0 3)).2 then am_lt (am_u2 I_12 (F a0 3) x5 (I_12 (F a0 6) x8)) (fun I_16 => if am_inI (x5 + 1) then am_lt (x5 + 1) (fun x5_18 => X7_settle_b121 N a0 k6 k61 n K I_16 F c z x1 x2 a3 a4 x5_18 x6 x7 x8) else none) else none else none else none) else none) else none else none else none else none) else (X7_settle_b127 N a0 k6 n K I F c z x1 x2 a3 a4 x5 x6) else none else none else none else none)
theorem w_X7_settle_s61 {η : am_E} {l : Launch} {N : Nat} {n : Nat} {K : am_K} {I : am_I} {F : am_F} {c z : Nat} {a0 : Nat} {r0 : am_A} {k6 : Nat → am_K → am_I → am_F → Nat → Nat → Int → Int → Nat → Nat → Int → Int → Option am_A} {k61 : Nat → am_K → am_I → am_F → Nat → Nat → Int → Int → Nat → Nat → Int → Int → Int → Int → Option am_A} {x1 : Int} {x2 : Int} {a3 : Nat} {a4 : Nat} {x5 : Int} {x6 : Int} {x7 : Int} {x8 : Int} (H6 : ∀ (n : Nat) (K : am_K) (I : am_I) (F : am_F) (c : Nat) (z : Nat) (x1 : Int) (x2 : Int) (a3 : Nat) (a4 : Nat) (x5 : Int) (x6 : Int), k6 n K I F c z x1 x2 a3 a4 x5 x6 = some r0 → Ok η l (M_X7_settle (am_ac1 r0) (am_az1 r0)) (am_qm η (am_pA 1 r0) (am_ac1 r0) (am_az1 r0)) 6 [(0, qr a0), (1, qi x1), (2, qi x2), (3, qr a3), (4, qr a4), (5, qi x5), (6, qi x6)] [] n K I F c z) (H61 : ∀ (n : Nat) (K : am_K) (I : am_I) (F : am_F) (c : Nat) (z : Nat) (x1 : Int) (x2 : Int) (a3 : Nat) (a4 : Nat) (x5 : Int) (x6 : Int) (x7 : Int) (x8 : Int), k61 n K I F c z x1 x2 a3 a4 x5 x6 x7 x8 = some r0 → Ok η l (M_X7_settle (am_ac1 r0) (am_az1 r0)) (am_qm η (am_pA 1 r0) (am_ac1 r0) (am_az1 r0)) 61 [(0, qr a0), (1, qi x1), (2, qi x2), (3, qr a3), (4, qr a4), (5, qi x5), (6, qi x6), (7, qi x7), (8, qi x8)] [] n K I F c z) : X7_settle_s61 N a0 k6 k61 n K I F c z x1 x2 a3 a4 x5 x6 x7 x8 = some r0 → Ok η l (M_X7_settle (am_ac1 r0) (am_az1 r0)) (am_qm η (am_pA 1 r0) (am_ac1 r0) (am_az1 r0)) 61 [(0, qr a0), (1, qi x1), (2, qi x2), (3, qr a3), (4, qr a4), (5, qi x5), (6, qi x6), (7, qi x7), (8, qi x8)] [] n K I F c z := by
  unfold X7_settle_s61
  refine fi_mo (fun hc_1 hz_2 => ?_)
  refine ok_iload (q := 63) 8 dX7_settle_61 rfl rfl ?_
  refine ok_aload_n (q := 64) 0 dX7_settle_63 rfl rfl rfl ?_
  refine fi_chk (fun h_3 => ?_)
  refine ok_getR (q := 67) (ci := 7) (k := 5) (x := F a0 5) dX7_settle_64 rfl fo_X7_24 h_3 rfl ?_
  refine ok_iload (q := 69) 7 dX7_settle_67 rfl rfl ?_
  refine ok_iconst (q := 70) (x := 1) dX7_settle_69 rfl rfl (by decide) ?_
  refine fi_chk (fun h_4 => ?_)
  refine ok_iadd (q := 71) dX7_settle_70 rfl h_4 ?_
  refine fi_chk (fun h_5 => ?_)
  refine fi_chk (fun h_6 => ?_)
  refine ok_iaload (q := 72) (v := I (F a0 5) (x7 + 1)) dX7_settle_71 rfl h_5 h_6.1 h_6.2 rfl ?_
  refine ok_icmp_ge (q := 127) (q2 := 75) dX7_settle_72 rfl rfl ?_ ?_
  · skip
    exact fun g => ok_pick [0, 1, 2, 3, 4, 5, 6] rfl (w_X7_settle_b127 (N := N) H6 g)
  · skip
    refine ok_aload_n (q := 76) 0 dX7_settle_75 rfl rfl rfl ?_
    refine ok_getR (q := 79) (ci := 7) (k := 4) (x := F a0 4) dX7_settle_76 rfl fo_X7_21 h_3 rfl ?_
    refine ok_aload_n (q := 80) 0 dX7_settle_79 rfl rfl rfl ?_
    refine ok_getR (q := 83) (ci := 7) (k := 6) (x := F a0 6) dX7_settle_80 rfl fo_X7_27 h_3 rfl ?_
    refine ok_iload (q := 85) 8 dX7_settle_83 rfl rfl ?_
    refine fi_chk (fun h_7 => ?_)
    refine fi_chk (fun h_8 => ?_)
    refine ok_iaload (q := 86) (v := I (F a0 6) x8) dX7_settle_85 rfl h_7 h_8.1 h_8.2 rfl ?_
    refine fi_chk (fun h_9 => ?_)
    refine fi_chk (fun h_10 => ?_)
    refine ok_iaload (q := 87) (v := I (F a0 4) (I (F a0 6) x8)) dX7_settle_86 rfl h_9 h_10.1 h_10.2 rfl ?_
    refine ok_iload_n (q := 88) 2 dX7_settle_87 rfl rfl rfl ?_
    refine ok_icmp_eq (q := 121) (q2 := 91) dX7_settle_88 rfl rfl ?_ ?_
    · skip
      exact fun g => ok_pick [0, 1, 2, 3, 4, 5, 6, 7, 8] rfl (w_X7_settle_b121 (N := N) H6 H61 g)
    · skip
      refine ok_aload_n (q := 92) 0 dX7_settle_91 rfl rfl rfl ?_
      refine ok_getR (q := 95) (ci := 7) (k := 4) (x := F a0 4) dX7_settle_92 rfl fo_X7_21 h_3 rfl ?_
      refine ok_aload_n (q := 96) 0 dX7_settle_95 rfl rfl rfl ?_
      refine ok_getR (q := 99) (ci := 7) (k := 6) (x := F a0 6) dX7_settle_96 rfl fo_X7_27 h_3 rfl ?_
      refine ok_iload (q := 101) 8 dX7_settle_99 rfl rfl ?_
      refine ok_iaload (q := 102) (v := I (F a0 6) x8) dX7_settle_101 rfl h_7 h_8.1 h_8.2 rfl ?_
      refine ok_iload_n (q := 103) 2 dX7_settle_102 rfl rfl rfl ?_
      refine fi_chk (fun h_11 => ?_)
      refine ok_iastore (q := 104) dX7_settle_103 rfl h_9 h_11 h_10.1 h_10.2 (fun I_12 => ?_)
      refine ok_aload_n (q := 105) 0 dX7_settle_104 rfl rfl rfl ?_
      refine ok_getR (q := 108) (ci := 7) (k := 3) (x := F a0 3) dX7_settle_105 rfl fo_X7_18 h_3 rfl ?_
      refine ok_iload (q := 110) 5 dX7_settle_108 rfl rfl ?_
      refine ok_aload_n (q := 111) 0 dX7_settle_110 rfl rfl rfl ?_
      refine ok_getR (q := 114) (ci := 7) (k := 6) (x := F a0 6) dX7_settle_111 rfl fo_X7_27 h_3 rfl ?_
      refine ok_iload (q := 116) 8 dX7_settle_114 rfl rfl ?_
      refine ok_iaload (q := 117) (v := I_12 (F a0 6) x8) dX7_settle_116 rfl h_7 h_8.1 h_8.2 rfl ?_
      refine fi_chk (fun h_13 => ?_)
      refine fi_chk (fun h_14 => ?_)
      refine fi_chk (fun h_15 => ?_)
      refine ok_iastore (q := 118) dX7_settle_117 rfl h_13 h_14 h_15.1 h_15.2 (fun I_16 => ?_)
      refine fi_chk (fun h_17 => ?_)
      refine ok_iincL (q := 121) (fun x5_18 => [(5, qi x5_18), (0, qr a0), (1, qi x1), (2, qi x2), (3, qr a3), (4, qr a4), (6, qi x6), (7, qi x7), (8, qi x8)]) 5 dX7_settle_118 rfl rfl h_17 (Nat.le_of_ble_eq_true rfl) (fun _ => rfl) (fun x5_18 => ?_)
      exact fun g => ok_pick [1, 2, 3, 4, 5, 0, 6, 7, 8] rfl (w_X7_settle_b121 (N := N) H6 H61 g)
def X7_settle_h61 (N : Nat) (a0 : Nat) (k6 : Nat → am_K → am_I → am_F → Nat → Nat → Int → Int → Nat → Nat → Int → Int → Option am_A) : Nat → Nat → am_K → am_I → am_F → Nat → Nat → Int → Int → Nat → Nat → Int → Int → Int → Int → Option am_A := am_it (fun kh => X7_settle_s61 N a0 k6 kh) (fun _ _ _ _ _ _ _ _ _ _ _ _ _ _ => none)
theorem w_X7_settle_h61 {η : am_E} {l : Launch} {N : Nat}  {a0 : Nat} {r0 : am_A} {k6 : Nat → am_K → am_I → am_F → Nat → Nat → Int → Int → Nat → Nat → Int → Int → Option am_A} (H6 : ∀ (n : Nat) (K : am_K) (I : am_I) (F : am_F) (c : Nat) (z : Nat) (x1 : Int) (x2 : Int) (a3 : Nat) (a4 : Nat) (x5 : Int) (x6 : Int), k6 n K I F c z x1 x2 a3 a4 x5 x6 = some r0 → Ok η l (M_X7_settle (am_ac1 r0) (am_az1 r0)) (am_qm η (am_pA 1 r0) (am_ac1 r0) (am_az1 r0)) 6 [(0, qr a0), (1, qi x1), (2, qi x2), (3, qr a3), (4, qr a4), (5, qi x5), (6, qi x6)] [] n K I F c z) (f : Nat) : ∀ (n : Nat) (K : am_K) (I : am_I) (F : am_F) (c : Nat) (z : Nat) (x1 : Int) (x2 : Int) (a3 : Nat) (a4 : Nat) (x5 : Int) (x6 : Int) (x7 : Int) (x8 : Int), X7_settle_h61 N a0 k6 f n K I F c z x1 x2 a3 a4 x5 x6 x7 x8 = some r0 → Ok η l (M_X7_settle (am_ac1 r0) (am_az1 r0)) (am_qm η (am_pA 1 r0) (am_ac1 r0) (am_az1 r0)) 61 [(0, qr a0), (1, qi x1), (2, qi x2), (3, qr a3), (4, qr a4), (5, qi x5), (6, qi x6), (7, qi x7), (8, qi x8)] [] n K I F c z := by
  induction f with
  | zero => intro n K I F c z x1 x2 a3 a4 x5 x6 x7 x8 g; exact fi_none g
  | succ f ih => intro n K I F c z x1 x2 a3 a4 x5 x6 x7 x8 g; exact w_X7_settle_s61 (N := N) H6 ih g
def X7_settle_s6 (N : Nat) (a0 : Nat) (k6 : Nat → am_K → am_I → am_F → Nat → Nat → Int → Int → Nat → Nat → Int → Int → Option am_A) (n : Nat) (K : am_K) (I : am_I) (F : am_F) (c z : Nat) (x1 : Int) (x2 : Int) (a3 : Nat) (a4 : Nat) (x5 : Int) (x6 : Int) : Option am_A :=
  am_mo c z (if x6 < x1 then (if (K a0).1 = 7 then if (K (F a0 1)).1 = 100 then if (0 : Int) ≤ x6 ∧ x6 < (K (F a0 1)).2 then am_lt (I (F a0 1) x6) (fun x7_10 => if (K (F a0 2)).1 = 100 then if (0 : Int) ≤ x6 ∧ x6 < (K (F a0 2)).2 then if (K a3).1 = 100 then if (0 : Int) ≤ x7_10 ∧ x7_10 < (K a3).2 then if (I (F a0 2) x6) = (I a3 x7_10) then (X7_settle_b127 N a0 k6 n K I F c z x1 x2 a3 a4 x5 x6) else (if a3 ≠ 1 then am_lt (am_u2 I a3 x7_10 (I (F a0 2) x6)) (fun I_16 => if (K a4).1 = 100 then if a4 ≠ 1 then if (0 : Int) ≤ x7_10 ∧ x7_10 < (K a4).2 then am_lt (am_u2 I_16 a4 x7_10 x2) (fun I_20 => if (K (F a0 5)).1 = 100 then if (0 : Int) ≤ x7_10 ∧ x7_10 < (K (F a0 5)).2 then am_lt (I_20 (F a0 5) x7_10) (fun x8_23 => X7_settle_h61 N a0 k6 N n K I_20 F c z x1 x2 a3 a4 x5 x6 x7_10 x8_23) else none else none) else none else none else none) else none) else none else none else none else none) else none else none else none) else (if (K a0).1 = 7 then am_lt (F a0 1) (fun a6_4 => am_lt (am_u2 F a0 1 (F a0 3)) (fun F_5 => am_lt (am_u2 F_5 a0 3 a6_4) (fun F_6 => some (x5, n, K, I, F_6, c, z)))) else none))
theorem w_X7_settle_s6 {η : am_E} {l : Launch} {N : Nat} {n : Nat} {K : am_K} {I : am_I} {F : am_F} {c z : Nat} {a0 : Nat} {r0 : am_A} {k6 : Nat → am_K → am_I → am_F → Nat → Nat → Int → Int → Nat → Nat → Int → Int → Option am_A} {x1 : Int} {x2 : Int} {a3 : Nat} {a4 : Nat} {x5 : Int} {x6 : Int} (H6 : ∀ (n : Nat) (K : am_K) (I : am_I) (F : am_F) (c : Nat) (z : Nat) (x1 : Int) (x2 : Int) (a3 : Nat) (a4 : Nat) (x5 : Int) (x6 : Int), k6 n K I F c z x1 x2 a3 a4 x5 x6 = some r0 → Ok η l (M_X7_settle (am_ac1 r0) (am_az1 r0)) (am_qm η (am_pA 1 r0) (am_ac1 r0) (am_az1 r0)) 6 [(0, qr a0), (1, qi x1), (2, qi x2), (3, qr a3), (4, qr a4), (5, qi x5), (6, qi x6)] [] n K I F c z) : X7_settle_s6 N a0 k6 n K I F c z x1 x2 a3 a4 x5 x6 = some r0 → Ok η l (M_X7_settle (am_ac1 r0) (am_az1 r0)) (am_qm η (am_pA 1 r0) (am_ac1 r0) (am_az1 r0)) 6 [(0, qr a0), (1, qi x1), (2, qi x2), (3, qr a3), (4, qr a4), (5, qi x5), (6, qi x6)] [] n K I F c z := by
  unfold X7_settle_s6
  refine fi_mo (fun hc_1 hz_2 => ?_)
  refine ok_iload (q := 8) 6 dX7_settle_6 rfl rfl ?_
  refine ok_iload_n (q := 9) 1 dX7_settle_8 rfl rfl rfl ?_
  refine ok_icmp_ge (q := 133) (q2 := 12) dX7_settle_9 rfl rfl ?_ ?_
  · skip
    refine ok_aload_n (q := 134) 0 dX7_settle_133 rfl rfl rfl ?_
    refine fi_chk (fun h_3 => ?_)
    refine ok_getR (q := 137) (ci := 7) (k := 1) (x := F a0 1) dX7_settle_134 rfl fo_X7_9 h_3 rfl ?_
    refine ok_astoreL (q := 139) (fun a6_4 => [(6, qr a6_4), (0, qr a0), (1, qi x1), (2, qi x2), (3, qr a3), (4, qr a4), (5, qi x5)]) dX7_settle_137 rfl (Nat.le_of_ble_eq_true rfl) (fun _ => rfl) (fun a6_4 => ?_)
    refine ok_aload_n (q := 140) 1 dX7_settle_139 rfl rfl rfl ?_
    refine ok_aload_n (q := 141) 1 dX7_settle_140 rfl rfl rfl ?_
    refine ok_getR (q := 144) (ci := 7) (k := 3) (x := F a0 3) dX7_settle_141 rfl fo_X7_18 h_3 rfl ?_
    refine ok_putR (q := 147) (ci := 7) (k := 1) dX7_settle_144 rfl fo_X7_9 h_3 ft_7_1 rfl ff_7_1 (fun F_5 => ?_)
    refine ok_aload_n (q := 148) 1 dX7_settle_147 rfl rfl rfl ?_
    refine ok_aload (q := 150) 0 dX7_settle_148 rfl rfl ?_
    refine ok_putR (q := 153) (ci := 7) (k := 3) dX7_settle_150 rfl fo_X7_18 h_3 ft_7_3 rfl ff_7_3 (fun F_6 => ?_)
    refine ok_iload (q := 155) 6 dX7_settle_153 rfl rfl ?_
    exact fi_ireturnA dX7_settle_155 rfl
  · skip
    refine ok_aload_n (q := 13) 0 dX7_settle_12 rfl rfl rfl ?_
    refine fi_chk (fun h_7 => ?_)
    refine ok_getR (q := 16) (ci := 7) (k := 1) (x := F a0 1) dX7_settle_13 rfl fo_X7_9 h_7 rfl ?_
    refine ok_iload (q := 18) 6 dX7_settle_16 rfl rfl ?_
    refine fi_chk (fun h_8 => ?_)
    refine fi_chk (fun h_9 => ?_)
    refine ok_iaload (q := 19) (v := I (F a0 1) x6) dX7_settle_18 rfl h_8 h_9.1 h_9.2 rfl ?_
    refine ok_istoreL (q := 21) (fun x7_10 => [(7, qi x7_10), (0, qr a0), (1, qi x1), (2, qi x2), (3, qr a3), (4, qr a4), (5, qi x5), (6, qi x6)]) dX7_settle_19 rfl (Nat.le_of_ble_eq_true rfl) (fun _ => rfl) (fun x7_10 => ?_)
    refine ok_aload_n (q := 22) 1 dX7_settle_21 rfl rfl rfl ?_
    refine ok_getR (q := 25) (ci := 7) (k := 2) (x := F a0 2) dX7_settle_22 rfl fo_X7_15 h_7 rfl ?_
    refine ok_iload (q := 27) 7 dX7_settle_25 rfl rfl ?_
    refine fi_chk (fun h_11 => ?_)
    refine fi_chk (fun h_12 => ?_)
    refine ok_iaload (q := 28) (v := I (F a0 2) x6) dX7_settle_27 rfl h_11 h_12.1 h_12.2 rfl ?_
    refine ok_aload_n (q := 29) 4 dX7_settle_28 rfl rfl rfl ?_
    refine ok_iload (q := 31) 0 dX7_settle_29 rfl rfl ?_
    refine fi_chk (fun h_13 => ?_)
    refine fi_chk (fun h_14 => ?_)
    refine ok_iaload (q := 32) (v := I a3 x7_10) dX7_settle_31 rfl h_13 h_14.1 h_14.2 rfl ?_
    refine ok_icmp_eq (q := 127) (q2 := 35) dX7_settle_32 rfl rfl ?_ ?_
    · skip
      exact fun g => ok_pick [1, 2, 3, 4, 5, 6, 7] rfl (w_X7_settle_b127 (N := N) H6 g)
    · skip
      refine ok_aload_n (q := 36) 4 dX7_settle_35 rfl rfl rfl ?_
      refine ok_iload (q := 38) 0 dX7_settle_36 rfl rfl ?_
      refine ok_aload_n (q := 39) 1 dX7_settle_38 rfl rfl rfl ?_
      refine ok_getR (q := 42) (ci := 7) (k := 2) (x := F a0 2) dX7_settle_39 rfl fo_X7_15 h_7 rfl ?_
      refine ok_iload (q := 44) 7 dX7_settle_42 rfl rfl ?_
      refine ok_iaload (q := 45) (v := I (F a0 2) x6) dX7_settle_44 rfl h_11 h_12.1 h_12.2 rfl ?_
      refine fi_chk (fun h_15 => ?_)
      refine ok_iastore (q := 46) dX7_settle_45 rfl h_13 h_15 h_14.1 h_14.2 (fun I_16 => ?_)
      refine ok_aload (q := 48) 5 dX7_settle_46 rfl rfl ?_
      refine ok_iload (q := 50) 0 dX7_settle_48 rfl rfl ?_
      refine ok_iload_n (q := 51) 3 dX7_settle_50 rfl rfl rfl ?_
      refine fi_chk (fun h_17 => ?_)
      refine fi_chk (fun h_18 => ?_)
      refine fi_chk (fun h_19 => ?_)
      refine ok_iastore (q := 52) dX7_settle_51 rfl h_17 h_18 h_19.1 h_19.2 (fun I_20 => ?_)
      refine ok_aload_n (q := 53) 1 dX7_settle_52 rfl rfl rfl ?_
      refine ok_getR (q := 56) (ci := 7) (k := 5) (x := F a0 5) dX7_settle_53 rfl fo_X7_24 h_7 rfl ?_
      refine ok_iload (q := 58) 0 dX7_settle_56 rfl rfl ?_
      refine fi_chk (fun h_21 => ?_)
      refine fi_chk (fun h_22 => ?_)
      refine ok_iaload (q := 59) (v := I_20 (F a0 5) x7_10) dX7_settle_58 rfl h_21 h_22.1 h_22.2 rfl ?_
      refine ok_istoreL (q := 61) (fun x8_23 => [(8, qi x8_23), (7, qi x7_10), (0, qr a0), (1, qi x1), (2, qi x2), (3, qr a3), (4, qr a4), (5, qi x5), (6, qi x6)]) dX7_settle_59 rfl (Nat.le_of_ble_eq_true rfl) (fun _ => rfl) (fun x8_23 => ?_)
      exact fun g => ok_pick [2, 3, 4, 5, 6, 7, 8, 1, 0] rfl (w_X7_settle_h61 (N := N) H6 N _ _ _ _ _ _ _ _ _ _ _ _ _ _ g)
def X7_settle_h6 (N : Nat) (a0 : Nat) : Nat → Nat → am_K → am_I → am_F → Nat → Nat → Int → Int → Nat → Nat → Int → Int → Option am_A := am_it (fun kh => X7_settle_s6 N a0 kh) (fun _ _ _ _ _ _ _ _ _ _ _ _ => none)
theorem w_X7_settle_h6 {η : am_E} {l : Launch} {N : Nat}  {a0 : Nat} {r0 : am_A} (f : Nat) : ∀ (n : Nat) (K : am_K) (I : am_I) (F : am_F) (c : Nat) (z : Nat) (x1 : Int) (x2 : Int) (a3 : Nat) (a4 : Nat) (x5 : Int) (x6 : Int), X7_settle_h6 N a0 f n K I F c z x1 x2 a3 a4 x5 x6 = some r0 → Ok η l (M_X7_settle (am_ac1 r0) (am_az1 r0)) (am_qm η (am_pA 1 r0) (am_ac1 r0) (am_az1 r0)) 6 [(0, qr a0), (1, qi x1), (2, qi x2), (3, qr a3), (4, qr a4), (5, qi x5), (6, qi x6)] [] n K I F c z := by
  induction f with
  | zero => intro n K I F c z x1 x2 a3 a4 x5 x6 g; exact fi_none g
  | succ f ih => intro n K I F c z x1 x2 a3 a4 x5 x6 g; exact w_X7_settle_s6 (N := N) ih g
def X7_settle (N : Nat) (a0 : Nat) (n : Nat) (K : am_K) (I : am_I) (F : am_F) (x1 : Int) (x2 : Int) (a3 : Nat) (a4 : Nat) : Option am_A :=
  X7_settle_h6 N a0 N n K I F 0 0 x1 x2 a3 a4 0 0
theorem w_X7_settle {η : am_E} {l : Launch} {N : Nat} {n : Nat} {K : am_K} {I : am_I} {F : am_F} {a0 : Nat} {r0 : am_A} {x1 : Int} {x2 : Int} {a3 : Nat} {a4 : Nat} (h0 : (K a0).1 = 7) : X7_settle N a0 n K I F x1 x2 a3 a4 = some r0 → Ok η l (M_X7_settle (am_ac1 r0) (am_az1 r0)) (am_qm η (am_pA 1 r0) (am_ac1 r0) (am_az1 r0)) 0 [(0, qr a0), (1, qi x1), (2, qi x2), (3, qr a3), (4, qr a4)] [] n K I F 0 0 := by
  unfold X7_settle
  refine ok_iconst (q := 1) (x := 0) dX7_settle_0 rfl rfl (by decide) ?_
  refine ok_istore (q := 3) (ls' := [(5, qi 0), (0, qr a0), (1, qi x1), (2, qi x2), (3, qr a3), (4, qr a4)]) dX7_settle_1 rfl (Nat.le_of_ble_eq_true rfl) rfl ?_
  refine ok_iconst (q := 4) (x := 0) dX7_settle_3 rfl rfl (by decide) ?_
  refine ok_istore (q := 6) (ls' := [(6, qi 0), (5, qi 0), (0, qr a0), (1, qi x1), (2, qi x2), (3, qr a3), (4, qr a4)]) dX7_settle_4 rfl (Nat.le_of_ble_eq_true rfl) rfl ?_
  exact fun g => ok_pick [2, 3, 4, 5, 6, 1, 0] rfl (w_X7_settle_h6 (N := N) N _ _ _ _ _ _ _ _ _ _ _ _ g)
theorem ct_X7_settle {η : am_E} {l : Launch} {N : Nat} {n : Nat} {K : am_K} {I : am_I} {F : am_F} {a0 : Nat} {r0 : am_A} {x1 : Int} {x2 : Int} {a3 : Nat} {a4 : Nat} (h0 : (K a0).1 = 7) : X7_settle N a0 n K I F x1 x2 a3 a4 = some r0 → am_Ct η l yX7_settle cX7_settle 9 (some .int) 0 0 (am_ac1 r0) (am_az1 r0) [qr a0, qi x1, qi x2, qr a3, qr a4] n K I F (am_pA 1 r0) := fun g => am_Ct.of false (by decide) (by decide) (Nat.le_of_ble_eq_true rfl) (fun _ => w_X7_settle (N := N) h0 g)
def M_X7_solveLayer (mc ms : Nat) : am_M := (yX7_solveLayer.cls, cX7_solveLayer, 7, none, am_room 2 48 mc ms, false)
def X7_solveLayer_b125 (N : Nat) (a0 : Nat) (n : Nat) (K : am_K) (I : am_I) (F : am_F) (c z : Nat) : Option am_A :=
  am_mo c z (some (0, n, K, I, F, c, z))
theorem w_X7_solveLayer_b125 {η : am_E} {l : Launch} {N : Nat} {n : Nat} {K : am_K} {I : am_I} {F : am_F} {c z : Nat} {a0 : Nat} {r0 : am_A} : X7_solveLayer_b125 N a0 n K I F c z = some r0 → Ok η l (M_X7_solveLayer (am_ac1 r0) (am_az1 r0)) (am_qm η (am_pA 0 r0) (am_ac1 r0) (am_az1 r0)) 125 [(0, qr a0)] [] n K I F c z := by
  unfold X7_solveLayer_b125
  refine fi_mo (fun hc_1 hz_2 => ?_)
  exact fi_returnA dX7_solveLayer_125 rfl
def X7_solveLayer_s87 (N : Nat) (a0 : Nat) (k87 : Nat → am_K → am_I → am_F → Nat → Nat → Nat → Nat → Int → Int → Option am_A) (n : Nat) (K : am_K) (I : am_I) (F : am_F) (c z : Nat) (a3 : Nat) (a4 : Nat) (x5 : Int) (x6 : Int) : Option am_A :=
  am_mo c z (if 0 < x5 then (if x6 < 1000000 then (if (K a0).1 = 7 then am_cl (X7_weigh N K F a0 I x5 a3) (fun _ I_4 => am_ca (X7_settle N a0 n K I_4 F x5 x6 a3 a4) (fun v_5 n_6 K_7 I_8 F_9 c_10 z_11 => am_mo (c + c_10) (z + z_11) (if am_inI (x6 + 1) then am_lt (x6 + 1) (fun x6_15 => k87 n_6 K_7 I_8 F_9 (c + c_10) (z + z_11) a3 a4 v_5 x6_15) else none))) else none) else (X7_solveLayer_b125 N a0 n K I F c z)) else (X7_solveLayer_b125 N a0 n K I F c z))
theorem w_X7_solveLayer_s87 {η : am_E} {l : Launch} {N : Nat} {n : Nat} {K : am_K} {I : am_I} {F : am_F} {c z : Nat} {a0 : Nat} {r0 : am_A} {k87 : Nat → am_K → am_I → am_F → Nat → Nat → Nat → Nat → Int → Int → Option am_A} {a3 : Nat} {a4 : Nat} {x5 : Int} {x6 : Int} (H87 : ∀ (n : Nat) (K : am_K) (I : am_I) (F : am_F) (c : Nat) (z : Nat) (a3 : Nat) (a4 : Nat) (x5 : Int) (x6 : Int), k87 n K I F c z a3 a4 x5 x6 = some r0 → Ok η l (M_X7_solveLayer (am_ac1 r0) (am_az1 r0)) (am_qm η (am_pA 0 r0) (am_ac1 r0) (am_az1 r0)) 87 [(0, qr a0), (3, qr a3), (4, qr a4), (5, qi x5), (6, qi x6)] [] n K I F c z) : X7_solveLayer_s87 N a0 k87 n K I F c z a3 a4 x5 x6 = some r0 → Ok η l (M_X7_solveLayer (am_ac1 r0) (am_az1 r0)) (am_qm η (am_pA 0 r0) (am_ac1 r0) (am_az1 r0)) 87 [(0, qr a0), (3, qr a3), (4, qr a4), (5, qi x5), (6, qi x6)] [] n K I F c z := by
  unfold X7_solveLayer_s87
  refine fi_mo (fun hc_1 hz_2 => ?_)
  refine ok_iload (q := 89) 3 dX7_solveLayer_87 rfl rfl ?_
  refine ok_if_le (q := 125) (q2 := 92) dX7_solveLayer_89 rfl rfl ?_ ?_
  · skip
    exact fun g => ok_pick [0] rfl (w_X7_solveLayer_b125 (N := N) g)
  · skip
    refine ok_iload (q := 94) 4 dX7_solveLayer_92 rfl rfl ?_
    refine ok_ldc (q := 96) (x := 1000000) (v := 1000000) dX7_solveLayer_94 rfl kc_X7_47 rfl (by decide) ?_
    refine ok_icmp_ge (q := 125) (q2 := 99) dX7_solveLayer_96 rfl rfl ?_ ?_
    · skip
      exact fun g => ok_pick [0] rfl (w_X7_solveLayer_b125 (N := N) g)
    · skip
      refine ok_aload_n (q := 100) 0 dX7_solveLayer_99 rfl rfl rfl ?_
      refine ok_iload (q := 102) 3 dX7_solveLayer_100 rfl rfl ?_
      refine ok_aload_n (q := 103) 1 dX7_solveLayer_102 rfl rfl rfl ?_
      refine fi_chk (fun h_3 => ?_)
      refine fi_callV0S (q := 106) (as := [qi x5, qr a3]) (st := []) dX7_solveLayer_103 rfl mo_X7_48 h_3 rfl (Nat.le_of_ble_eq_true rfl) rfl rfl (Nat.le_of_ble_eq_true rfl) (Nat.le_of_ble_eq_true rfl) (Nat.le_of_ble_eq_true rfl) hc_1 hz_2 (fun _ hr => ct_X7_weigh (N := N) h_3 hr) (fun _ I_4 => ?_)
      refine ok_aload_n (q := 107) 0 dX7_solveLayer_106 rfl rfl rfl ?_
      refine ok_iload (q := 109) 3 dX7_solveLayer_107 rfl rfl ?_
      refine ok_iload (q := 111) 4 dX7_solveLayer_109 rfl rfl ?_
      refine ok_aload_n (q := 112) 1 dX7_solveLayer_111 rfl rfl rfl ?_
      refine ok_aload (q := 114) 2 dX7_solveLayer_112 rfl rfl ?_
      refine fi_callV1A (q := 117) (as := [qi x5, qi x6, qr a3, qr a4]) (st := []) dX7_solveLayer_114 rfl mo_X7_52 h_3 rfl (Nat.le_of_ble_eq_true rfl) rfl rfl (Nat.le_of_ble_eq_true rfl) (Nat.le_of_ble_eq_true rfl) (Nat.le_of_ble_eq_true rfl) (Nat.le_refl _) (Nat.le_refl _) (fun _ hr => ct_X7_settle (N := N) h_3 hr) (fun v_5 n_6 K_7 I_8 F_9 c_10 z_11 hc_12 hz_13 => ?_)
      refine ok_istore (q := 119) (ls' := [(5, qi v_5), (0, qr a0), (3, qr a3), (4, qr a4), (6, qi x6)]) dX7_solveLayer_117 rfl (Nat.le_of_ble_eq_true rfl) rfl ?_
      refine fi_chk (fun h_14 => ?_)
      refine ok_iincL (q := 122) (fun x6_15 => [(6, qi x6_15), (5, qi v_5), (0, qr a0), (3, qr a3), (4, qr a4)]) 4 dX7_solveLayer_119 rfl rfl h_14 (Nat.le_of_ble_eq_true rfl) (fun _ => rfl) (fun x6_15 => ?_)
      refine ok_goto (q := 87) dX7_solveLayer_122 rfl ?_
      exact fun g => ok_pick [2, 3, 4, 1, 0] rfl (H87 _ _ _ _ _ _ _ _ _ _ g)
def X7_solveLayer_h87 (N : Nat) (a0 : Nat) : Nat → Nat → am_K → am_I → am_F → Nat → Nat → Nat → Nat → Int → Int → Option am_A := am_it (fun kh => X7_solveLayer_s87 N a0 kh) (fun _ _ _ _ _ _ _ _ _ _ => none)
theorem w_X7_solveLayer_h87 {η : am_E} {l : Launch} {N : Nat}  {a0 : Nat} {r0 : am_A} (f : Nat) : ∀ (n : Nat) (K : am_K) (I : am_I) (F : am_F) (c : Nat) (z : Nat) (a3 : Nat) (a4 : Nat) (x5 : Int) (x6 : Int), X7_solveLayer_h87 N a0 f n K I F c z a3 a4 x5 x6 = some r0 → Ok η l (M_X7_solveLayer (am_ac1 r0) (am_az1 r0)) (am_qm η (am_pA 0 r0) (am_ac1 r0) (am_az1 r0)) 87 [(0, qr a0), (3, qr a3), (4, qr a4), (5, qi x5), (6, qi x6)] [] n K I F c z := by
  induction f with
  | zero => intro n K I F c z a3 a4 x5 x6 g; exact fi_none g
  | succ f ih => intro n K I F c z a3 a4 x5 x6 g; exact w_X7_solveLayer_s87 (N := N) ih g
def X7_solveLayer_b78 (N : Nat) (a0 : Nat) (k12 : Nat → am_K → am_I → am_F → Nat → Nat → Int → Nat → Nat → Int → Int → Option am_A) (n : Nat) (K : am_K) (I : am_I) (F : am_F) (c z : Nat) (x2 : Int) (a3 : Nat) (a4 : Nat) (x5 : Int) (x6 : Int) : Option am_A :=
  am_mo c z (if am_inI (x6 + 1) then am_lt (x6 + 1) (fun x6_4 => k12 n K I F c z x2 a3 a4 x5 x6_4) else none)
theorem w_X7_solveLayer_b78 {η : am_E} {l : Launch} {N : Nat} {n : Nat} {K : am_K} {I : am_I} {F : am_F} {c z : Nat} {a0 : Nat} {r0 : am_A} {k12 : Nat → am_K → am_I → am_F → Nat → Nat → Int → Nat → Nat → Int → Int → Option am_A} {x2 : Int} {a3 : Nat} {a4 : Nat} {x5 : Int} {x6 : Int} (H12 : ∀ (n : Nat) (K : am_K) (I : am_I) (F : am_F) (c : Nat) (z : Nat) (x2 : Int) (a3 : Nat) (a4 : Nat) (x5 : Int) (x6 : Int), k12 n K I F c z x2 a3 a4 x5 x6 = some r0 → Ok η l (M_X7_solveLayer (am_ac1 r0) (am_az1 r0)) (am_qm η (am_pA 0 r0) (am_ac1 r0) (am_az1 r0)) 12 [(0, qr a0), (2, qi x2), (3, qr a3), (4, qr a4), (5, qi x5), (6, qi x6)] [] n K I F c z) : X7_solveLayer_b78 N a0 k12 n K I F c z x2 a3 a4 x5 x6 = some r0 → Ok η l (M_X7_solveLayer (am_ac1 r0) (am_az1 r0)) (am_qm η (am_pA 0 r0) (am_ac1 r0) (am_az1 r0)) 78 [(0, qr a0), (2, qi x2), (3, qr a3), (4, qr a4), (5, qi x5), (6, qi x6)] [] n K I F c z := by
  unfold X7_solveLayer_b78
  refine fi_mo (fun hc_1 hz_2 => ?_)
  refine fi_chk (fun h_3 => ?_)
  refine ok_iincL (q := 81) (fun x6_4 => [(6, qi x6_4), (0, qr a0), (2, qi x2), (3, qr a3), (4, qr a4), (5, qi x5)]) 5 dX7_solveLayer_78 rfl rfl h_3 (Nat.le_of_ble_eq_true rfl) (fun _ => rfl) (fun x6_4 => ?_)
  refine ok_goto (q := 12) dX7_solveLayer_81 rfl ?_
  exact fun g => ok_pick [1, 2, 3, 4, 5, 0] rfl (H12 _ _ _ _ _ _ _ _ _ _ _ g)
def X7_solveLayer_s12 (N : Nat) (a0 : Nat) (k12 : Nat → am_K → am_I → am_F → Nat → Nat → Int → Nat → Nat → Int → Int → Option am_A) (n : Nat) (K : am_K) (I : am_I) (F : am_F) (c z : Nat) (x2 : Int) (a3 : Nat) (a4 : Nat) (x5 : Int) (x6 : Int) : Option am_A :=
  am_mo c z (if x6 < x2 then (if (K a4).1 = 100 then if a4 ≠ 1 then if (0 : Int) ≤ x6 ∧ x6 < (K a4).2 then am_lt (am_u2 I a4 x6 0) (fun I_6 => if (K a0).1 = 7 then if (K (F a0 4)).1 = 100 then if F a0 4 ≠ 1 then if (0 : Int) ≤ x6 ∧ x6 < (K (F a0 4)).2 then am_lt (am_u2 I_6 (F a0 4) x6 0) (fun I_11 => if (K a3).1 = 100 then if a3 ≠ 1 then if (0 : Int) ≤ x6 ∧ x6 < (K a3).2 then am_lt (am_u2 I_11 a3 x6 0) (fun I_15 => if (K (F a0 0)).1 = 0 then am_cq (X0_hasMove N K F I_15 (F a0 0) x6) (fun v_17 => if v_17 = 0 then (if (K (F (F a0 0) 0)).1 = 100 then if (0 : Int) ≤ x6 ∧ x6 < (K (F (F a0 0) 0)).2 then am_lt (am_u2 I_15 a3 x6 (I_15 (F (F a0 0) 0) x6)) (fun I_20 => X7_solveLayer_b78 N a0 k12 n K I_20 F c z x2 a3 a4 x5 x6) else none else none) else (if (K (F a0 1)).1 = 100 then if F a0 1 ≠ 1 then if (0 : Int) ≤ x5 ∧ x5 < (K (F a0 1)).2 then am_lt (am_u2 I_15 (F a0 1) x5 x6) (fun I_24 => if am_inI (x5 + 1) then am_lt (x5 + 1) (fun x5_26 => X7_solveLayer_b78 N a0 k12 n K I_24 F c z x2 a3 a4 x5_26 x6) else none) else none else none else none)) else none) else none else none else none) else none else none else none else none) else none else none else none) else (X7_solveLayer_h87 N a0 N n K I F c z a3 a4 x5 1))
theorem w_X7_solveLayer_s12 {η : am_E} {l : Launch} {N : Nat} {n : Nat} {K : am_K} {I : am_I} {F : am_F} {c z : Nat} {a0 : Nat} {r0 : am_A} {k12 : Nat → am_K → am_I → am_F → Nat → Nat → Int → Nat → Nat → Int → Int → Option am_A} {x2 : Int} {a3 : Nat} {a4 : Nat} {x5 : Int} {x6 : Int} (H12 : ∀ (n : Nat) (K : am_K) (I : am_I) (F : am_F) (c : Nat) (z : Nat) (x2 : Int) (a3 : Nat) (a4 : Nat) (x5 : Int) (x6 : Int), k12 n K I F c z x2 a3 a4 x5 x6 = some r0 → Ok η l (M_X7_solveLayer (am_ac1 r0) (am_az1 r0)) (am_qm η (am_pA 0 r0) (am_ac1 r0) (am_az1 r0)) 12 [(0, qr a0), (2, qi x2), (3, qr a3), (4, qr a4), (5, qi x5), (6, qi x6)] [] n K I F c z) : X7_solveLayer_s12 N a0 k12 n K I F c z x2 a3 a4 x5 x6 = some r0 → Ok η l (M_X7_solveLayer (am_ac1 r0) (am_az1 r0)) (am_qm η (am_pA 0 r0) (am_ac1 r0) (am_az1 r0)) 12 [(0, qr a0), (2, qi x2), (3, qr a3), (4, qr a4), (5, qi x5), (6, qi x6)] [] n K I F c z := by
  unfold X7_solveLayer_s12
  refine fi_mo (fun hc_1 hz_2 => ?_)
  refine ok_iload (q := 14) 5 dX7_solveLayer_12 rfl rfl ?_
  refine ok_iload_n (q := 15) 1 dX7_solveLayer_14 rfl rfl rfl ?_
  refine ok_icmp_ge (q := 84) (q2 := 18) dX7_solveLayer_15 rfl rfl ?_ ?_
  · skip
    refine ok_iconst (q := 85) (x := 1) dX7_solveLayer_84 rfl rfl (by decide) ?_
    refine ok_istore (q := 87) (ls' := [(6, qi 1), (0, qr a0), (2, qi x2), (3, qr a3), (4, qr a4), (5, qi x5)]) dX7_solveLayer_85 rfl (Nat.le_of_ble_eq_true rfl) rfl ?_
    exact fun g => ok_pick [1, 3, 4, 5, 0] rfl (w_X7_solveLayer_h87 (N := N) N _ _ _ _ _ _ _ _ _ _ g)
  · skip
    refine ok_aload (q := 20) 3 dX7_solveLayer_18 rfl rfl ?_
    refine ok_iload (q := 22) 5 dX7_solveLayer_20 rfl rfl ?_
    refine ok_iconst (q := 23) (x := 0) dX7_solveLayer_22 rfl rfl (by decide) ?_
    refine fi_chk (fun h_3 => ?_)
    refine fi_chk (fun h_4 => ?_)
    refine fi_chk (fun h_5 => ?_)
    refine ok_iastore (q := 24) dX7_solveLayer_23 rfl h_3 h_4 h_5.1 h_5.2 (fun I_6 => ?_)
    refine ok_aload_n (q := 25) 0 dX7_solveLayer_24 rfl rfl rfl ?_
    refine fi_chk (fun h_7 => ?_)
    refine ok_getR (q := 28) (ci := 7) (k := 4) (x := F a0 4) dX7_solveLayer_25 rfl fo_X7_21 h_7 rfl ?_
    refine ok_iload (q := 30) 5 dX7_solveLayer_28 rfl rfl ?_
    refine ok_iconst (q := 31) (x := 0) dX7_solveLayer_30 rfl rfl (by decide) ?_
    refine fi_chk (fun h_8 => ?_)
    refine fi_chk (fun h_9 => ?_)
    refine fi_chk (fun h_10 => ?_)
    refine ok_iastore (q := 32) dX7_solveLayer_31 rfl h_8 h_9 h_10.1 h_10.2 (fun I_11 => ?_)
    refine ok_aload_n (q := 33) 2 dX7_solveLayer_32 rfl rfl rfl ?_
    refine ok_iload (q := 35) 5 dX7_solveLayer_33 rfl rfl ?_
    refine ok_iconst (q := 36) (x := 0) dX7_solveLayer_35 rfl rfl (by decide) ?_
    refine fi_chk (fun h_12 => ?_)
    refine fi_chk (fun h_13 => ?_)
    refine fi_chk (fun h_14 => ?_)
    refine ok_iastore (q := 37) dX7_solveLayer_36 rfl h_12 h_13 h_14.1 h_14.2 (fun I_15 => ?_)
    refine ok_aload_n (q := 38) 0 dX7_solveLayer_37 rfl rfl rfl ?_
    refine ok_getR (q := 41) (ci := 7) (k := 0) (x := F a0 0) dX7_solveLayer_38 rfl fo_X7_30 h_7 rfl ?_
    refine ok_iload (q := 43) 5 dX7_solveLayer_41 rfl rfl ?_
    refine fi_chk (fun h_16 => ?_)
    refine fi_callV1P (q := 46) (as := [qi x6]) (st := []) dX7_solveLayer_43 rfl mo_X7_38 h_16 rfl (Nat.le_of_ble_eq_true rfl) rfl rfl (Nat.le_of_ble_eq_true rfl) (Nat.le_of_ble_eq_true rfl) (Nat.le_of_ble_eq_true rfl) hc_1 hz_2 (fun _ hr => ct_X0_hasMove (N := N) h_16 hr) (fun v_17 => ?_)
    refine ok_if_eq (q := 64) (q2 := 49) dX7_solveLayer_46 rfl rfl ?_ ?_
    · skip
      refine ok_aload_n (q := 65) 2 dX7_solveLayer_64 rfl rfl rfl ?_
      refine ok_iload (q := 67) 5 dX7_solveLayer_65 rfl rfl ?_
      refine ok_aload_n (q := 68) 0 dX7_solveLayer_67 rfl rfl rfl ?_
      refine ok_getR (q := 71) (ci := 7) (k := 0) (x := F a0 0) dX7_solveLayer_68 rfl fo_X7_30 h_7 rfl ?_
      refine ok_getR (q := 74) (ci := 0) (k := 0) (x := F (F a0 0) 0) dX7_solveLayer_71 rfl fo_X7_44 h_16 rfl ?_
      refine ok_iload (q := 76) 5 dX7_solveLayer_74 rfl rfl ?_
      refine fi_chk (fun h_18 => ?_)
      refine fi_chk (fun h_19 => ?_)
      refine ok_iaload (q := 77) (v := I_15 (F (F a0 0) 0) x6) dX7_solveLayer_76 rfl h_18 h_19.1 h_19.2 rfl ?_
      refine ok_iastore (q := 78) dX7_solveLayer_77 rfl h_12 h_13 h_14.1 h_14.2 (fun I_20 => ?_)
      exact fun g => ok_pick [0, 1, 2, 3, 4, 5] rfl (w_X7_solveLayer_b78 (N := N) H12 g)
    · skip
      refine ok_aload_n (q := 50) 0 dX7_solveLayer_49 rfl rfl rfl ?_
      refine ok_getR (q := 53) (ci := 7) (k := 1) (x := F a0 1) dX7_solveLayer_50 rfl fo_X7_9 h_7 rfl ?_
      refine ok_iload (q := 55) 4 dX7_solveLayer_53 rfl rfl ?_
      refine ok_iload (q := 57) 5 dX7_solveLayer_55 rfl rfl ?_
      refine fi_chk (fun h_21 => ?_)
      refine fi_chk (fun h_22 => ?_)
      refine fi_chk (fun h_23 => ?_)
      refine ok_iastore (q := 58) dX7_solveLayer_57 rfl h_21 h_22 h_23.1 h_23.2 (fun I_24 => ?_)
      refine fi_chk (fun h_25 => ?_)
      refine ok_iincL (q := 61) (fun x5_26 => [(5, qi x5_26), (0, qr a0), (2, qi x2), (3, qr a3), (4, qr a4), (6, qi x6)]) 4 dX7_solveLayer_58 rfl rfl h_25 (Nat.le_of_ble_eq_true rfl) (fun _ => rfl) (fun x5_26 => ?_)
      refine ok_goto (q := 78) dX7_solveLayer_61 rfl ?_
      exact fun g => ok_pick [1, 2, 3, 4, 0, 5] rfl (w_X7_solveLayer_b78 (N := N) H12 g)
def X7_solveLayer_h12 (N : Nat) (a0 : Nat) : Nat → Nat → am_K → am_I → am_F → Nat → Nat → Int → Nat → Nat → Int → Int → Option am_A := am_it (fun kh => X7_solveLayer_s12 N a0 kh) (fun _ _ _ _ _ _ _ _ _ _ _ => none)
theorem w_X7_solveLayer_h12 {η : am_E} {l : Launch} {N : Nat}  {a0 : Nat} {r0 : am_A} (f : Nat) : ∀ (n : Nat) (K : am_K) (I : am_I) (F : am_F) (c : Nat) (z : Nat) (x2 : Int) (a3 : Nat) (a4 : Nat) (x5 : Int) (x6 : Int), X7_solveLayer_h12 N a0 f n K I F c z x2 a3 a4 x5 x6 = some r0 → Ok η l (M_X7_solveLayer (am_ac1 r0) (am_az1 r0)) (am_qm η (am_pA 0 r0) (am_ac1 r0) (am_az1 r0)) 12 [(0, qr a0), (2, qi x2), (3, qr a3), (4, qr a4), (5, qi x5), (6, qi x6)] [] n K I F c z := by
  induction f with
  | zero => intro n K I F c z x2 a3 a4 x5 x6 g; exact fi_none g
  | succ f ih => intro n K I F c z x2 a3 a4 x5 x6 g; exact w_X7_solveLayer_s12 (N := N) ih g
def X7_solveLayer (N : Nat) (a0 : Nat) (n : Nat) (K : am_K) (I : am_I) (F : am_F) (x1 : Int) (x2 : Int) (a3 : Nat) (a4 : Nat) : Option am_A :=
  am_cl (X7_listLeaders N K F a0 I x1 x2) (fun _ I_1 => X7_solveLayer_h12 N a0 N n K I_1 F 0 0 x2 a3 a4 0 x1)
theorem w_X7_solveLayer {η : am_E} {l : Launch} {N : Nat} {n : Nat} {K : am_K} {I : am_I} {F : am_F} {a0 : Nat} {r0 : am_A} {x1 : Int} {x2 : Int} {a3 : Nat} {a4 : Nat} (h0 : (K a0).1 = 7) : X7_solveLayer N a0 n K I F x1 x2 a3 a4 = some r0 → Ok η l (M_X7_solveLayer (am_ac1 r0) (am_az1 r0)) (am_qm η (am_pA 0 r0) (am_ac1 r0) (am_az1 r0)) 0 [(0, qr a0), (1, qi x1), (2, qi x2), (3, qr a3), (4, qr a4)] [] n K I F 0 0 := by
  unfold X7_solveLayer
  refine ok_aload_n (q := 1) 0 dX7_solveLayer_0 rfl rfl rfl ?_
  refine ok_iload_n (q := 2) 1 dX7_solveLayer_1 rfl rfl rfl ?_
  refine ok_iload_n (q := 3) 2 dX7_solveLayer_2 rfl rfl rfl ?_
  refine fi_callV0S (q := 6) (as := [qi x1, qi x2]) (st := []) dX7_solveLayer_3 rfl mo_X7_34 h0 rfl (Nat.le_of_ble_eq_true rfl) rfl rfl (Nat.le_of_ble_eq_true rfl) (Nat.le_of_ble_eq_true rfl) (Nat.le_of_ble_eq_true rfl) (Nat.zero_le _) (Nat.zero_le _) (fun _ hr => ct_X7_listLeaders (N := N) h0 hr) (fun _ I_1 => ?_)
  refine ok_iconst (q := 7) (x := 0) dX7_solveLayer_6 rfl rfl (by decide) ?_
  refine ok_istore (q := 9) (ls' := [(5, qi 0), (0, qr a0), (1, qi x1), (2, qi x2), (3, qr a3), (4, qr a4)]) dX7_solveLayer_7 rfl (Nat.le_of_ble_eq_true rfl) rfl ?_
  refine ok_iload_n (q := 10) 2 dX7_solveLayer_9 rfl rfl rfl ?_
  refine ok_istore (q := 12) (ls' := [(6, qi x1), (5, qi 0), (0, qr a0), (1, qi x1), (2, qi x2), (3, qr a3), (4, qr a4)]) dX7_solveLayer_10 rfl (Nat.le_of_ble_eq_true rfl) rfl ?_
  exact fun g => ok_pick [2, 4, 5, 6, 1, 0] rfl (w_X7_solveLayer_h12 (N := N) N _ _ _ _ _ _ _ _ _ _ _ g)
theorem ct_X7_solveLayer {η : am_E} {l : Launch} {N : Nat} {n : Nat} {K : am_K} {I : am_I} {F : am_F} {a0 : Nat} {r0 : am_A} {x1 : Int} {x2 : Int} {a3 : Nat} {a4 : Nat} (h0 : (K a0).1 = 7) : X7_solveLayer N a0 n K I F x1 x2 a3 a4 = some r0 → am_Ct η l yX7_solveLayer cX7_solveLayer 7 none 2 48 (am_ac1 r0) (am_az1 r0) [qr a0, qi x1, qi x2, qr a3, qr a4] n K I F (am_pA 0 r0) := fun g => am_Ct.of false (by decide) (by decide) (Nat.le_of_ble_eq_true rfl) (fun _ => w_X7_solveLayer (N := N) h0 g)
