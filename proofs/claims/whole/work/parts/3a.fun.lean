def M_X0_init (mc ms : Nat) : am_M := (yX0_init.cls, cX0_init, 5, none, am_room 1 20 mc ms, true)
def X0_init (N : Nat) (a0 : Nat) (n : Nat) (K : am_K) (I : am_I) (F : am_F) (a1 : Nat) (a2 : Nat) (a3 : Nat) (a4 : Nat) : Option am_A :=
  if a0 ≠ 0 then if (0 : Int) ≤ 0 ∧ 0 ≤ (60000000 : Int) then am_nw n (100, 0) K I F (fun n_2 K_3 I_4 F_5 => am_mo (0 + 1) (0 + (0 : Int).toNat) (if (K_3 a0).1 = 0 then am_lt (am_u2 F_5 a0 0 n) (fun F_11 => if (0 : Int) ≤ 1 ∧ 1 ≤ (60000000 : Int) then am_nw n_2 (100, 1) K_3 I_4 F_11 (fun n_12 K_13 I_14 F_15 => am_mo ((0 + 1) + 1) ((0 + (0 : Int).toNat) + (1 : Int).toNat) (if (K_13 a0).1 = 0 then am_lt (am_u2 F_15 a0 1 n_2) (fun F_21 => am_nw n_12 (100, 0) K_13 I_14 F_21 (fun n_22 K_23 I_24 F_25 => am_mo (((0 + 1) + 1) + 1) (((0 + (0 : Int).toNat) + (1 : Int).toNat) + (0 : Int).toNat) (if (K_23 a0).1 = 0 then am_lt (am_u2 F_25 a0 2 n_12) (fun F_30 => if (0 : Int) ≤ 32 ∧ 32 ≤ (60000000 : Int) then am_nw n_22 (100, 32) K_23 I_24 F_30 (fun n_31 K_32 I_33 F_34 => am_mo ((((0 + 1) + 1) + 1) + 1) ((((0 + (0 : Int).toNat) + (1 : Int).toNat) + (0 : Int).toNat) + (32 : Int).toNat) (if (K_32 a0).1 = 0 then am_lt (am_u2 F_34 a0 4 n_22) (fun F_40 => am_lt (am_u2 F_40 a0 5 a1) (fun F_41 => am_lt (am_u2 F_41 a0 6 a2) (fun F_42 => am_lt (am_u2 F_42 a0 7 a3) (fun F_43 => am_lt (am_u2 F_43 a0 8 a4) (fun F_44 => some (0, n_31, K_32, I_33, F_44, ((((0 + 1) + 1) + 1) + 1), ((((0 + (0 : Int).toNat) + (1 : Int).toNat) + (0 : Int).toNat) + (32 : Int).toNat))))))) else none)) else none) else none))) else none)) else none) else none)) else none else none
theorem w_X0_init {η : am_E} {l : Launch} {N : Nat} {n : Nat} {K : am_K} {I : am_I} {F : am_F} {a0 : Nat} {r0 : am_A} {a1 : Nat} {a2 : Nat} {a3 : Nat} {a4 : Nat} (h0 : (K a0).1 = 0) : X0_init N a0 n K I F a1 a2 a3 a4 = some r0 → Ok η l (M_X0_init (am_ac1 r0) (am_az1 r0)) (am_qm η (am_pA 0 r0) (am_ac1 r0) (am_az1 r0)) 0 [(0, qr a0), (1, qr a1), (2, qr a2), (3, qr a3), (4, qr a4)] [] n K I F 0 0 := by
  unfold X0_init
  refine ok_aload_n (q := 1) 0 dX0_init_0 rfl rfl rfl ?_
  refine fi_chk (fun h_1 => ?_)
  refine ok_objInit (q := 4) dX0_init_1 rfl oi_X0_3 h_1 (Nat.le_of_ble_eq_true rfl) (Nat.le_of_ble_eq_true rfl) (Nat.le_of_ble_eq_true rfl) ?_
  refine ok_aload_n (q := 5) 0 dX0_init_4 rfl rfl rfl ?_
  refine ok_iconst (q := 6) (x := 0) dX0_init_5 rfl rfl (by decide) ?_
  refine fi_chk (fun h_6 => ?_)
  refine fi_newi (q := 8) dX0_init_6 rfl h_6 na_newi (Nat.le_refl _) (Nat.le_refl _) (fun n_2 K_3 I_4 F_5 hc_8 hz_9 h_7 => ?_)
  refine fi_chk (fun h_10 => ?_)
  refine ok_putR (q := 11) (ci := 0) (k := 0) dX0_init_8 rfl fo_X0_9 h_10 ft_0_0 rfl ff_0_0 (fun F_11 => ?_)
  refine ok_aload_n (q := 12) 0 dX0_init_11 rfl rfl rfl ?_
  refine ok_iconst (q := 13) (x := 1) dX0_init_12 rfl rfl (by decide) ?_
  refine fi_chk (fun h_16 => ?_)
  refine fi_newi (q := 15) dX0_init_13 rfl h_16 na_newi (Nat.le_refl _) (Nat.le_refl _) (fun n_12 K_13 I_14 F_15 hc_18 hz_19 h_17 => ?_)
  refine fi_chk (fun h_20 => ?_)
  refine ok_putR (q := 18) (ci := 0) (k := 1) dX0_init_15 rfl fo_X0_15 h_20 ft_0_1 rfl ff_0_1 (fun F_21 => ?_)
  refine ok_aload_n (q := 19) 0 dX0_init_18 rfl rfl rfl ?_
  refine ok_iconst (q := 20) (x := 0) dX0_init_19 rfl rfl (by decide) ?_
  refine fi_newi (q := 22) dX0_init_20 rfl h_6 na_newi (Nat.le_refl _) (Nat.le_refl _) (fun n_22 K_23 I_24 F_25 hc_27 hz_28 h_26 => ?_)
  refine fi_chk (fun h_29 => ?_)
  refine ok_putR (q := 25) (ci := 0) (k := 2) dX0_init_22 rfl fo_X0_18 h_29 ft_0_2 rfl ff_0_2 (fun F_30 => ?_)
  refine ok_aload_n (q := 26) 0 dX0_init_25 rfl rfl rfl ?_
  refine ok_bipush (q := 28) (x := 32) dX0_init_26 rfl rfl (by decide) ?_
  refine fi_chk (fun h_35 => ?_)
  refine fi_newi (q := 30) dX0_init_28 rfl h_35 na_newi (Nat.le_refl _) (Nat.le_refl _) (fun n_31 K_32 I_33 F_34 hc_37 hz_38 h_36 => ?_)
  refine fi_chk (fun h_39 => ?_)
  refine ok_putRF (q := 33) (ci := 0) (k := 4) dX0_init_30 rfl fo_X0_21 h_39 ft_0_4 rfl ff_0_4 rfl rfl (fun F_40 => ?_)
  refine ok_aload_n (q := 34) 0 dX0_init_33 rfl rfl rfl ?_
  refine ok_aload_n (q := 35) 1 dX0_init_34 rfl rfl rfl ?_
  refine ok_putRF (q := 38) (ci := 0) (k := 5) dX0_init_35 rfl fo_X0_24 h_39 ft_0_5 rfl ff_0_5 rfl rfl (fun F_41 => ?_)
  refine ok_aload_n (q := 39) 0 dX0_init_38 rfl rfl rfl ?_
  refine ok_aload_n (q := 40) 2 dX0_init_39 rfl rfl rfl ?_
  refine ok_putRF (q := 43) (ci := 0) (k := 6) dX0_init_40 rfl fo_X0_28 h_39 ft_0_6 rfl ff_0_6 rfl rfl (fun F_42 => ?_)
  refine ok_aload_n (q := 44) 0 dX0_init_43 rfl rfl rfl ?_
  refine ok_aload_n (q := 45) 3 dX0_init_44 rfl rfl rfl ?_
  refine ok_putRF (q := 48) (ci := 0) (k := 7) dX0_init_45 rfl fo_X0_32 h_39 ft_0_7 rfl ff_0_7 rfl rfl (fun F_43 => ?_)
  refine ok_aload_n (q := 49) 0 dX0_init_48 rfl rfl rfl ?_
  refine ok_aload (q := 51) 4 dX0_init_49 rfl rfl ?_
  refine ok_putRF (q := 54) (ci := 0) (k := 8) dX0_init_51 rfl fo_X0_36 h_39 ft_0_8 rfl ff_0_8 rfl rfl (fun F_44 => ?_)
  exact fi_returnA dX0_init_54 rfl
theorem ct_X0_init {η : am_E} {l : Launch} {N : Nat} {n : Nat} {K : am_K} {I : am_I} {F : am_F} {a0 : Nat} {r0 : am_A} {a1 : Nat} {a2 : Nat} {a3 : Nat} {a4 : Nat} (h0 : (K a0).1 = 0) : X0_init N a0 n K I F a1 a2 a3 a4 = some r0 → am_Ct η l yX0_init cX0_init 5 none 1 20 (am_ac1 r0) (am_az1 r0) [qr a0, qr a1, qr a2, qr a3, qr a4] n K I F (am_pA 0 r0) := fun g => am_Ct.of true (by decide) (by decide) (Nat.le_of_ble_eq_true rfl) (fun _ => w_X0_init (N := N) h0 g)
def M_X0_pitOf : am_M := (yX0_pitOf.cls, cX0_pitOf, 1, (some .int), am_room 0 0 0 0, false)
def X0_pitOf (N : Nat) (K : am_K) (F : am_F) (I : am_I) (x0 : Int) : Option Int :=
  some (am_ishr x0 20)
theorem w_X0_pitOf {η : am_E} {l : Launch} {N : Nat} {n : Nat} {K : am_K} {I : am_I} {F : am_F} {r0 : Int} {x0 : Int} : X0_pitOf N K F I x0 = some r0 → Ok η l M_X0_pitOf (am_qm η (am_pS 1 (r0, I) n K F) 0 0) 0 [(0, qi x0)] [] n K I F 0 0 := by
  unfold X0_pitOf
  refine ok_iload_n (q := 1) 0 dX0_pitOf_0 rfl rfl rfl ?_
  refine ok_bipush (q := 3) (x := 20) dX0_pitOf_1 rfl rfl (by decide) ?_
  refine ok_ishr (q := 4) (r := am_ishr x0 20) dX0_pitOf_3 rfl rfl ?_
  exact fi_ireturnP dX0_pitOf_4 rfl
theorem ct_X0_pitOf {η : am_E} {l : Launch} {N : Nat} {n : Nat} {K : am_K} {I : am_I} {F : am_F} {r0 : Int} {x0 : Int} : X0_pitOf N K F I x0 = some r0 → am_Ct η l yX0_pitOf cX0_pitOf 1 (some .int) 0 0 0 0 [qi x0] n K I F (am_pS 1 (r0, I) n K F) := fun g => am_Ct.of false (by decide) (by decide) (Nat.le_of_ble_eq_true rfl) (fun _ => w_X0_pitOf (N := N) g)
def M_X0_takenBy : am_M := (yX0_takenBy.cls, cX0_takenBy, 1, (some .int), am_room 0 0 0 0, false)
def X0_takenBy (N : Nat) (K : am_K) (F : am_F) (I : am_I) (x0 : Int) : Option Int :=
  some (am_iand (am_ishr x0 16) 15)
theorem w_X0_takenBy {η : am_E} {l : Launch} {N : Nat} {n : Nat} {K : am_K} {I : am_I} {F : am_F} {r0 : Int} {x0 : Int} : X0_takenBy N K F I x0 = some r0 → Ok η l M_X0_takenBy (am_qm η (am_pS 1 (r0, I) n K F) 0 0) 0 [(0, qi x0)] [] n K I F 0 0 := by
  unfold X0_takenBy
  refine ok_iload_n (q := 1) 0 dX0_takenBy_0 rfl rfl rfl ?_
  refine ok_bipush (q := 3) (x := 16) dX0_takenBy_1 rfl rfl (by decide) ?_
  refine ok_ishr (q := 4) (r := am_ishr x0 16) dX0_takenBy_3 rfl rfl ?_
  refine ok_bipush (q := 6) (x := 15) dX0_takenBy_4 rfl rfl (by decide) ?_
  refine ok_iand (q := 7) (r := am_iand (am_ishr x0 16) 15) dX0_takenBy_6 rfl rfl ?_
  exact fi_ireturnP dX0_takenBy_7 rfl
theorem ct_X0_takenBy {η : am_E} {l : Launch} {N : Nat} {n : Nat} {K : am_K} {I : am_I} {F : am_F} {r0 : Int} {x0 : Int} : X0_takenBy N K F I x0 = some r0 → am_Ct η l yX0_takenBy cX0_takenBy 1 (some .int) 0 0 0 0 [qi x0] n K I F (am_pS 1 (r0, I) n K F) := fun g => am_Ct.of false (by decide) (by decide) (Nat.le_of_ble_eq_true rfl) (fun _ => w_X0_takenBy (N := N) g)
def M_X0_placeBehind : am_M := (yX0_placeBehind.cls, cX0_placeBehind, 1, (some .int), am_room 0 0 0 0, false)
def X0_placeBehind (N : Nat) (K : am_K) (F : am_F) (I : am_I) (x0 : Int) : Option Int :=
  some (am_iand x0 65535)
theorem w_X0_placeBehind {η : am_E} {l : Launch} {N : Nat} {n : Nat} {K : am_K} {I : am_I} {F : am_F} {r0 : Int} {x0 : Int} : X0_placeBehind N K F I x0 = some r0 → Ok η l M_X0_placeBehind (am_qm η (am_pS 1 (r0, I) n K F) 0 0) 0 [(0, qi x0)] [] n K I F 0 0 := by
  unfold X0_placeBehind
  refine ok_iload_n (q := 1) 0 dX0_placeBehind_0 rfl rfl rfl ?_
  refine ok_ldc (q := 3) (x := 65535) (v := 65535) dX0_placeBehind_1 rfl kc_X0_40 rfl (by decide) ?_
  refine ok_iand (q := 4) (r := am_iand x0 65535) dX0_placeBehind_3 rfl rfl ?_
  exact fi_ireturnP dX0_placeBehind_4 rfl
theorem ct_X0_placeBehind {η : am_E} {l : Launch} {N : Nat} {n : Nat} {K : am_K} {I : am_I} {F : am_F} {r0 : Int} {x0 : Int} : X0_placeBehind N K F I x0 = some r0 → am_Ct η l yX0_placeBehind cX0_placeBehind 1 (some .int) 0 0 0 0 [qi x0] n K I F (am_pS 1 (r0, I) n K F) := fun g => am_Ct.of false (by decide) (by decide) (Nat.le_of_ble_eq_true rfl) (fun _ => w_X0_placeBehind (N := N) g)
def M_X0_clear : am_M := (yX0_clear.cls, cX0_clear, 1, none, am_room 0 0 0 0, false)
def X0_clear (N : Nat) (K : am_K) (F : am_F) (a0 : Nat) (I : am_I) : Option (Int × am_I) :=
  am_lt (am_u2 I a0 3 0) (fun I_1 => some (0, I_1))
theorem w_X0_clear {η : am_E} {l : Launch} {N : Nat} {n : Nat} {K : am_K} {I : am_I} {F : am_F} {a0 : Nat} {r0 : Int × am_I} (h0 : (K a0).1 = 0) : X0_clear N K F a0 I = some r0 → Ok η l M_X0_clear (am_qm η (am_pS 0 r0 n K F) 0 0) 0 [(0, qr a0)] [] n K I F 0 0 := by
  unfold X0_clear
  refine ok_aload_n (q := 1) 0 dX0_clear_0 rfl rfl rfl ?_
  refine ok_iconst (q := 2) (x := 0) dX0_clear_1 rfl rfl (by decide) ?_
  refine ok_putI (q := 5) (ci := 0) (k := 3) dX0_clear_2 rfl fo_X0_41 h0 ft_0_3 ff_0_3 (fun I_1 => ?_)
  exact fi_returnS dX0_clear_5 rfl
theorem ct_X0_clear {η : am_E} {l : Launch} {N : Nat} {n : Nat} {K : am_K} {I : am_I} {F : am_F} {a0 : Nat} {r0 : Int × am_I} (h0 : (K a0).1 = 0) : X0_clear N K F a0 I = some r0 → am_Ct η l yX0_clear cX0_clear 1 none 0 0 0 0 [qr a0] n K I F (am_pS 0 r0 n K F) := fun g => am_Ct.of false (by decide) (by decide) (Nat.le_of_ble_eq_true rfl) (fun _ => w_X0_clear (N := N) h0 g)
def M_X0_hasMove : am_M := (yX0_hasMove.cls, cX0_hasMove, 2, (some .boolean), am_room 0 0 0 0, false)
def X0_hasMove_b22 (N : Nat) (K : am_K) (F : am_F) (I : am_I) (a0 : Nat) (s0 : Int) : Option Int :=
  if s0 = 0 ∨ s0 = 1 then some (s0) else none
theorem w_X0_hasMove_b22 {η : am_E} {l : Launch} {N : Nat} {n : Nat} {K : am_K} {I : am_I} {F : am_F} {a0 : Nat} {r0 : Int} {s0 : Int} (h0 : (K a0).1 = 0) : X0_hasMove_b22 N K F I a0 s0 = some r0 → Ok η l M_X0_hasMove (am_qm η (am_pS 1 (r0, I) n K F) 0 0) 22 [(0, qr a0)] [qi s0] n K I F 0 0 := by
  unfold X0_hasMove_b22
  refine fi_chk (fun h_1 => ?_)
  exact fi_zreturnP dX0_hasMove_22 rfl h_1
def X0_hasMove (N : Nat) (K : am_K) (F : am_F) (I : am_I) (a0 : Nat) (x1 : Int) : Option Int :=
  if (K (F a0 1)).1 = 100 then if (0 : Int) ≤ x1 ∧ x1 < (K (F a0 1)).2 then if am_inI (x1 + 1) then if (0 : Int) ≤ (x1 + 1) ∧ (x1 + 1) < (K (F a0 1)).2 then if (I (F a0 1) x1) < (I (F a0 1) (x1 + 1)) then (X0_hasMove_b22 N K F I a0 1) else (X0_hasMove_b22 N K F I a0 0) else none else none else none else none
theorem w_X0_hasMove {η : am_E} {l : Launch} {N : Nat} {n : Nat} {K : am_K} {I : am_I} {F : am_F} {a0 : Nat} {r0 : Int} {x1 : Int} (h0 : (K a0).1 = 0) : X0_hasMove N K F I a0 x1 = some r0 → Ok η l M_X0_hasMove (am_qm η (am_pS 1 (r0, I) n K F) 0 0) 0 [(0, qr a0), (1, qi x1)] [] n K I F 0 0 := by
  unfold X0_hasMove
  refine ok_aload_n (q := 1) 0 dX0_hasMove_0 rfl rfl rfl ?_
  refine ok_getR (q := 4) (ci := 0) (k := 1) (x := F a0 1) dX0_hasMove_1 rfl fo_X0_15 h0 rfl ?_
  refine ok_iload_n (q := 5) 1 dX0_hasMove_4 rfl rfl rfl ?_
  refine fi_chk (fun h_1 => ?_)
  refine fi_chk (fun h_2 => ?_)
  refine ok_iaload (q := 6) (v := I (F a0 1) x1) dX0_hasMove_5 rfl h_1 h_2.1 h_2.2 rfl ?_
  refine ok_aload_n (q := 7) 0 dX0_hasMove_6 rfl rfl rfl ?_
  refine ok_getR (q := 10) (ci := 0) (k := 1) (x := F a0 1) dX0_hasMove_7 rfl fo_X0_15 h0 rfl ?_
  refine ok_iload_n (q := 11) 1 dX0_hasMove_10 rfl rfl rfl ?_
  refine ok_iconst (q := 12) (x := 1) dX0_hasMove_11 rfl rfl (by decide) ?_
  refine fi_chk (fun h_3 => ?_)
  refine ok_iadd (q := 13) dX0_hasMove_12 rfl h_3 ?_
  refine fi_chk (fun h_4 => ?_)
  refine ok_iaload (q := 14) (v := I (F a0 1) (x1 + 1)) dX0_hasMove_13 rfl h_1 h_4.1 h_4.2 rfl ?_
  refine ok_icmp_ge (q := 21) (q2 := 17) dX0_hasMove_14 rfl rfl ?_ ?_
  · skip
    refine ok_iconst (q := 22) (x := 0) dX0_hasMove_21 rfl rfl (by decide) ?_
    exact fun g => ok_pick [0] rfl (w_X0_hasMove_b22 (N := N) h0 g)
  · skip
    refine ok_iconst (q := 18) (x := 1) dX0_hasMove_17 rfl rfl (by decide) ?_
    refine ok_goto (q := 22) dX0_hasMove_18 rfl ?_
    exact fun g => ok_pick [0] rfl (w_X0_hasMove_b22 (N := N) h0 g)
theorem ct_X0_hasMove {η : am_E} {l : Launch} {N : Nat} {n : Nat} {K : am_K} {I : am_I} {F : am_F} {a0 : Nat} {r0 : Int} {x1 : Int} (h0 : (K a0).1 = 0) : X0_hasMove N K F I a0 x1 = some r0 → am_Ct η l yX0_hasMove cX0_hasMove 2 (some .boolean) 0 0 0 0 [qr a0, qi x1] n K I F (am_pS 1 (r0, I) n K F) := fun g => am_Ct.of false (by decide) (by decide) (Nat.le_of_ble_eq_true rfl) (fun _ => w_X0_hasMove (N := N) h0 g)
def M_J7_copyOf_59c91 (mc ms : Nat) : am_M := (yJ7_copyOf_59c91.cls, cJ7_copyOf_59c91, 3, (Option.some (Jvm.ClassFile.FieldType.array Jvm.ClassFile.FieldType.int)), am_room 1 26 mc ms, false)
def J7_copyOf_59c91 (N : Nat) (n : Nat) (K : am_K) (I : am_I) (F : am_F) (a0 : Nat) (x1 : Int) : Option am_A :=
  if (K a0).1 = 100 then if am_inI (K a0).2 then if x1 = ((K a0).2) then (none) else (if (0 : Int) ≤ x1 ∧ x1 ≤ (60000000 : Int) then am_nw n (100, x1) K I F (fun n_3 K_4 I_5 F_6 => am_mo (0 + 1) (0 + (x1 : Int).toNat) (if (K_4 a0).1 = 100 then if am_inI (K_4 a0).2 then if n ≠ 1 then if a0 ≠ 1 then if (0 : Int) ≤ 0 ∧ (0 : Int) ≤ 0 ∧ (0 : Int) ≤ (am_min ((K_4 a0).2) x1) ∧ 0 + (am_min ((K_4 a0).2) x1) ≤ (K_4 a0).2 ∧ 0 + (am_min ((K_4 a0).2) x1) ≤ (K_4 n).2 then am_lt (am_cp I_5 a0 0 n 0 (am_min ((K_4 a0).2) x1)) (fun I_16 => some ((n : Int), n_3, K_4, I_16, F_6, (0 + 1), (0 + (x1 : Int).toNat))) else none else none else none else none else none)) else none) else none else none
theorem w_J7_copyOf_59c91 {η : am_E} {l : Launch} {N : Nat} {n : Nat} {K : am_K} {I : am_I} {F : am_F} {r0 : am_A} {a0 : Nat} {x1 : Int} : J7_copyOf_59c91 N n K I F a0 x1 = some r0 → Ok η l (M_J7_copyOf_59c91 (am_ac1 r0) (am_az1 r0)) (am_qm η (am_pA 3 r0) (am_ac1 r0) (am_az1 r0)) 0 [(0, qr a0), (1, qi x1)] [] n K I F 0 0 := by
  unfold J7_copyOf_59c91
  refine ok_iload_n (q := 1) 1 dJ7_copyOf_59c91_0 rfl rfl rfl ?_
  refine ok_aload_n (q := 2) 0 dJ7_copyOf_59c91_1 rfl rfl rfl ?_
  refine fi_chk (fun h_1 => ?_)
  refine fi_chk (fun h_2 => ?_)
  refine ok_arraylength (q := 3) (i := 0) dJ7_copyOf_59c91_2 rfl h_1 (by decide) rfl rfl h_2 ?_
  refine ok_icmp_ne (q := 14) (q2 := 6) dJ7_copyOf_59c91_3 rfl rfl ?_ ?_
  · skip
    refine ok_iload_n (q := 15) 1 dJ7_copyOf_59c91_14 rfl rfl rfl ?_
    refine fi_chk (fun h_7 => ?_)
    refine fi_newi (q := 17) dJ7_copyOf_59c91_15 rfl h_7 na_newi (Nat.le_refl _) (Nat.le_refl _) (fun n_3 K_4 I_5 F_6 hc_9 hz_10 h_8 => ?_)
    refine ok_astore_n (q := 18) (ls' := [(2, qr n), (0, qr a0), (1, qi x1)]) dJ7_copyOf_59c91_17 rfl rfl (Nat.le_of_ble_eq_true rfl) rfl ?_
    refine ok_aload_n (q := 19) 1 dJ7_copyOf_59c91_18 rfl rfl rfl ?_
    refine ok_iconst (q := 20) (x := 0) dJ7_copyOf_59c91_19 rfl rfl (by decide) ?_
    refine ok_aload_n (q := 21) 0 dJ7_copyOf_59c91_20 rfl rfl rfl ?_
    refine ok_iconst (q := 22) (x := 0) dJ7_copyOf_59c91_21 rfl rfl (by decide) ?_
    refine ok_aload_n (q := 23) 1 dJ7_copyOf_59c91_22 rfl rfl rfl ?_
    refine fi_chk (fun h_11 => ?_)
    refine fi_chk (fun h_12 => ?_)
    refine ok_arraylength (q := 24) (i := 0) dJ7_copyOf_59c91_23 rfl h_11 (by decide) rfl rfl h_12 ?_
    refine ok_iload_n (q := 25) 2 dJ7_copyOf_59c91_24 rfl rfl rfl ?_
    refine ok_mmin (q := 28) dJ7_copyOf_59c91_25 rfl mm_J7_304 (Nat.le_of_ble_eq_true rfl) (Nat.le_of_ble_eq_true rfl) (Nat.le_of_ble_eq_true rfl) hc_9 hz_10 ?_
    refine fi_chk (fun h_13 => ?_)
    refine fi_chk (fun h_14 => ?_)
    refine fi_chk (fun h_15 => ?_)
    refine ok_arraycopy (q := 31) dJ7_copyOf_59c91_28 rfl ac_J7_150 h_11 (congrArg Prod.fst h_8) h_13 h_14 h_15 (Nat.le_of_ble_eq_true rfl) (Nat.le_of_ble_eq_true rfl) (Nat.le_of_ble_eq_true rfl) (fun I_16 => ?_)
    refine ok_aload_n (q := 32) 0 dJ7_copyOf_59c91_31 rfl rfl rfl ?_
    exact fi_areturnA dJ7_copyOf_59c91_32 rfl (Or.inr ⟨_, rfl⟩)
  · skip
    refine ok_aload_n (q := 7) 0 dJ7_copyOf_59c91_6 rfl rfl rfl ?_
    exact fi_none
theorem ct_J7_copyOf_59c91 {η : am_E} {l : Launch} {N : Nat} {n : Nat} {K : am_K} {I : am_I} {F : am_F} {r0 : am_A} {a0 : Nat} {x1 : Int} : J7_copyOf_59c91 N n K I F a0 x1 = some r0 → am_Ct η l yJ7_copyOf_59c91 cJ7_copyOf_59c91 3 (Option.some (Jvm.ClassFile.FieldType.array Jvm.ClassFile.FieldType.int)) 1 26 (am_ac1 r0) (am_az1 r0) [qr a0, qi x1] n K I F (am_pA 3 r0) := fun g => am_Ct.of false (by decide) (by decide) (Nat.le_of_ble_eq_true rfl) (fun _ => w_J7_copyOf_59c91 (N := N) g)
def M_X0_makeRoom (mc ms : Nat) : am_M := (yX0_makeRoom.cls, cX0_makeRoom, 2, none, am_room 2 48 mc ms, false)
def X0_makeRoom (N : Nat) (a0 : Nat) (n : Nat) (K : am_K) (I : am_I) (F : am_F) (x1 : Int) : Option am_A :=
  am_ca (J7_copyOf_59c91 N n K I F (F a0 0) x1) (fun v_1 n_2 K_3 I_4 F_5 c_6 z_7 => am_mo (0 + c_6) (0 + z_7) (if (K_3 a0).1 = 0 then am_lt (am_u2 F_5 a0 0 v_1.toNat) (fun F_11 => if am_inI (x1 + 1) then am_ca (J7_copyOf_59c91 N n_2 K_3 I_4 F_11 (F_11 a0 1) (x1 + 1)) (fun v_13 n_14 K_15 I_16 F_17 c_18 z_19 => am_mo ((0 + c_6) + c_18) ((0 + z_7) + z_19) (if (K_15 a0).1 = 0 then am_lt (am_u2 F_17 a0 1 v_13.toNat) (fun F_23 => some (0, n_14, K_15, I_16, F_23, ((0 + c_6) + c_18), ((0 + z_7) + z_19))) else none)) else none) else none))
theorem w_X0_makeRoom {η : am_E} {l : Launch} {N : Nat} {n : Nat} {K : am_K} {I : am_I} {F : am_F} {a0 : Nat} {r0 : am_A} {x1 : Int} (h0 : (K a0).1 = 0) : X0_makeRoom N a0 n K I F x1 = some r0 → Ok η l (M_X0_makeRoom (am_ac1 r0) (am_az1 r0)) (am_qm η (am_pA 0 r0) (am_ac1 r0) (am_az1 r0)) 0 [(0, qr a0), (1, qi x1)] [] n K I F 0 0 := by
  unfold X0_makeRoom
  refine ok_aload_n (q := 1) 0 dX0_makeRoom_0 rfl rfl rfl ?_
  refine ok_aload_n (q := 2) 0 dX0_makeRoom_1 rfl rfl rfl ?_
  refine ok_getR (q := 5) (ci := 0) (k := 0) (x := F a0 0) dX0_makeRoom_2 rfl fo_X0_9 h0 rfl ?_
  refine ok_iload_n (q := 6) 1 dX0_makeRoom_5 rfl rfl rfl ?_
  refine fi_callS3A (q := 9) (as := [qr (F a0 0), qi x1]) (st := [qr a0]) dX0_makeRoom_6 rfl mo_X0_45 rfl rfl (Nat.le_of_ble_eq_true rfl) (Nat.le_of_ble_eq_true rfl) (Nat.le_of_ble_eq_true rfl) (Nat.le_refl _) (Nat.le_refl _) (fun _ hr => ct_J7_copyOf_59c91 (N := N) hr) (fun v_1 n_2 K_3 I_4 F_5 c_6 z_7 hc_8 hz_9 => ?_)
  refine fi_chk (fun h_10 => ?_)
  refine ok_putR (q := 12) (ci := 0) (k := 0) dX0_makeRoom_9 rfl fo_X0_9 h_10 ft_0_0 rfl ff_0_0 (fun F_11 => ?_)
  refine ok_aload_n (q := 13) 0 dX0_makeRoom_12 rfl rfl rfl ?_
  refine ok_aload_n (q := 14) 0 dX0_makeRoom_13 rfl rfl rfl ?_
  refine ok_getR (q := 17) (ci := 0) (k := 1) (x := F_11 a0 1) dX0_makeRoom_14 rfl fo_X0_15 h_10 rfl ?_
  refine ok_iload_n (q := 18) 1 dX0_makeRoom_17 rfl rfl rfl ?_
  refine ok_iconst (q := 19) (x := 1) dX0_makeRoom_18 rfl rfl (by decide) ?_
  refine fi_chk (fun h_12 => ?_)
  refine ok_iadd (q := 20) dX0_makeRoom_19 rfl h_12 ?_
  refine fi_callS3A (q := 23) (as := [qr (F_11 a0 1), qi (x1 + 1)]) (st := [qr a0]) dX0_makeRoom_20 rfl mo_X0_45 rfl rfl (Nat.le_of_ble_eq_true rfl) (Nat.le_of_ble_eq_true rfl) (Nat.le_of_ble_eq_true rfl) (Nat.le_refl _) (Nat.le_refl _) (fun _ hr => ct_J7_copyOf_59c91 (N := N) hr) (fun v_13 n_14 K_15 I_16 F_17 c_18 z_19 hc_20 hz_21 => ?_)
  refine fi_chk (fun h_22 => ?_)
  refine ok_putR (q := 26) (ci := 0) (k := 1) dX0_makeRoom_23 rfl fo_X0_15 h_22 ft_0_1 rfl ff_0_1 (fun F_23 => ?_)
  exact fi_returnA dX0_makeRoom_26 rfl
theorem ct_X0_makeRoom {η : am_E} {l : Launch} {N : Nat} {n : Nat} {K : am_K} {I : am_I} {F : am_F} {a0 : Nat} {r0 : am_A} {x1 : Int} (h0 : (K a0).1 = 0) : X0_makeRoom N a0 n K I F x1 = some r0 → am_Ct η l yX0_makeRoom cX0_makeRoom 2 none 2 48 (am_ac1 r0) (am_az1 r0) [qr a0, qi x1] n K I F (am_pA 0 r0) := fun g => am_Ct.of false (by decide) (by decide) (Nat.le_of_ble_eq_true rfl) (fun _ => w_X0_makeRoom (N := N) h0 g)
def M_X0_makeMoveRoom (mc ms : Nat) : am_M := (yX0_makeMoveRoom.cls, cX0_makeMoveRoom, 2, none, am_room 2 48 mc ms, false)
def X0_makeMoveRoom (N : Nat) (a0 : Nat) (n : Nat) (K : am_K) (I : am_I) (F : am_F) (x1 : Int) : Option am_A :=
  am_ca (J7_copyOf_59c91 N n K I F (F a0 2) x1) (fun v_1 n_2 K_3 I_4 F_5 c_6 z_7 => am_mo (0 + c_6) (0 + z_7) (if (K_3 a0).1 = 0 then am_lt (am_u2 F_5 a0 2 v_1.toNat) (fun F_11 => some (0, n_2, K_3, I_4, F_11, (0 + c_6), (0 + z_7))) else none))
theorem w_X0_makeMoveRoom {η : am_E} {l : Launch} {N : Nat} {n : Nat} {K : am_K} {I : am_I} {F : am_F} {a0 : Nat} {r0 : am_A} {x1 : Int} (h0 : (K a0).1 = 0) : X0_makeMoveRoom N a0 n K I F x1 = some r0 → Ok η l (M_X0_makeMoveRoom (am_ac1 r0) (am_az1 r0)) (am_qm η (am_pA 0 r0) (am_ac1 r0) (am_az1 r0)) 0 [(0, qr a0), (1, qi x1)] [] n K I F 0 0 := by
  unfold X0_makeMoveRoom
  refine ok_aload_n (q := 1) 0 dX0_makeMoveRoom_0 rfl rfl rfl ?_
  refine ok_aload_n (q := 2) 0 dX0_makeMoveRoom_1 rfl rfl rfl ?_
  refine ok_getR (q := 5) (ci := 0) (k := 2) (x := F a0 2) dX0_makeMoveRoom_2 rfl fo_X0_18 h0 rfl ?_
  refine ok_iload_n (q := 6) 1 dX0_makeMoveRoom_5 rfl rfl rfl ?_
  refine fi_callS3A (q := 9) (as := [qr (F a0 2), qi x1]) (st := [qr a0]) dX0_makeMoveRoom_6 rfl mo_X0_45 rfl rfl (Nat.le_of_ble_eq_true rfl) (Nat.le_of_ble_eq_true rfl) (Nat.le_of_ble_eq_true rfl) (Nat.le_refl _) (Nat.le_refl _) (fun _ hr => ct_J7_copyOf_59c91 (N := N) hr) (fun v_1 n_2 K_3 I_4 F_5 c_6 z_7 hc_8 hz_9 => ?_)
  refine fi_chk (fun h_10 => ?_)
  refine ok_putR (q := 12) (ci := 0) (k := 2) dX0_makeMoveRoom_9 rfl fo_X0_18 h_10 ft_0_2 rfl ff_0_2 (fun F_11 => ?_)
  exact fi_returnA dX0_makeMoveRoom_12 rfl
theorem ct_X0_makeMoveRoom {η : am_E} {l : Launch} {N : Nat} {n : Nat} {K : am_K} {I : am_I} {F : am_F} {a0 : Nat} {r0 : am_A} {x1 : Int} (h0 : (K a0).1 = 0) : X0_makeMoveRoom N a0 n K I F x1 = some r0 → am_Ct η l yX0_makeMoveRoom cX0_makeMoveRoom 2 none 2 48 (am_ac1 r0) (am_az1 r0) [qr a0, qi x1] n K I F (am_pA 0 r0) := fun g => am_Ct.of false (by decide) (by decide) (Nat.le_of_ble_eq_true rfl) (fun _ => w_X0_makeMoveRoom (N := N) h0 g)
def M_X0_edgeFrom : am_M := (yX0_edgeFrom.cls, cX0_edgeFrom, 4, (some .int), am_room 1 20 0 0, false)
def X0_edgeFrom_s7 (N : Nat) (K : am_K) (F : am_F) (I : am_I) (a0 : Nat) (k7 : Int → Int → Int → Option Int) (x1 : Int) (x2 : Int) (x3 : Int) : Option Int :=
  if am_inI (x1 + 1) then if (K (F a0 1)).1 = 100 then if (0 : Int) ≤ (x1 + 1) ∧ (x1 + 1) < (K (F a0 1)).2 then if x3 < (I (F a0 1) (x1 + 1)) then (if (K (F a0 2)).1 = 100 then if (0 : Int) ≤ x3 ∧ x3 < (K (F a0 2)).2 then am_cq (X0_pitOf N K F I (I (F a0 2) x3)) (fun v_6 => if v_6 = x2 then (some (I (F a0 2) x3)) else (if am_inI (x3 + 1) then am_lt (x3 + 1) (fun x3_8 => k7 x1 x2 x3_8) else none)) else none else none) else (some ((-1))) else none else none else none
theorem w_X0_edgeFrom_s7 {η : am_E} {l : Launch} {N : Nat} {n : Nat} {K : am_K} {I : am_I} {F : am_F} {a0 : Nat} {r0 : Int} {k7 : Int → Int → Int → Option Int} {x1 : Int} {x2 : Int} {x3 : Int} (h0 : (K a0).1 = 0) (H7 : ∀ (x1 : Int) (x2 : Int) (x3 : Int), k7 x1 x2 x3 = some r0 → Ok η l M_X0_edgeFrom (am_qm η (am_pS 1 (r0, I) n K F) 0 0) 7 [(0, qr a0), (1, qi x1), (2, qi x2), (3, qi x3)] [] n K I F 0 0) : X0_edgeFrom_s7 N K F I a0 k7 x1 x2 x3 = some r0 → Ok η l M_X0_edgeFrom (am_qm η (am_pS 1 (r0, I) n K F) 0 0) 7 [(0, qr a0), (1, qi x1), (2, qi x2), (3, qi x3)] [] n K I F 0 0 := by
  unfold X0_edgeFrom_s7
  refine ok_iload_n (q := 8) 3 dX0_edgeFrom_7 rfl rfl rfl ?_
  refine ok_aload_n (q := 9) 0 dX0_edgeFrom_8 rfl rfl rfl ?_
  refine ok_getR (q := 12) (ci := 0) (k := 1) (x := F a0 1) dX0_edgeFrom_9 rfl fo_X0_15 h0 rfl ?_
  refine ok_iload_n (q := 13) 1 dX0_edgeFrom_12 rfl rfl rfl ?_
  refine ok_iconst (q := 14) (x := 1) dX0_edgeFrom_13 rfl rfl (by decide) ?_
  refine fi_chk (fun h_1 => ?_)
  refine ok_iadd (q := 15) dX0_edgeFrom_14 rfl h_1 ?_
  refine fi_chk (fun h_2 => ?_)
  refine fi_chk (fun h_3 => ?_)
  refine ok_iaload (q := 16) (v := I (F a0 1) (x1 + 1)) dX0_edgeFrom_15 rfl h_2 h_3.1 h_3.2 rfl ?_
  refine ok_icmp_ge (q := 45) (q2 := 19) dX0_edgeFrom_16 rfl rfl ?_ ?_
  · skip
    refine ok_iconst (q := 46) (x := -1) dX0_edgeFrom_45 rfl rfl (by decide) ?_
    exact fi_ireturnP dX0_edgeFrom_46 rfl
  · skip
    refine ok_aload_n (q := 20) 0 dX0_edgeFrom_19 rfl rfl rfl ?_
    refine ok_getR (q := 23) (ci := 0) (k := 2) (x := F a0 2) dX0_edgeFrom_20 rfl fo_X0_18 h0 rfl ?_
    refine ok_iload_n (q := 24) 3 dX0_edgeFrom_23 rfl rfl rfl ?_
    refine fi_chk (fun h_4 => ?_)
    refine fi_chk (fun h_5 => ?_)
    refine ok_iaload (q := 25) (v := I (F a0 2) x3) dX0_edgeFrom_24 rfl h_4 h_5.1 h_5.2 rfl ?_
    refine fi_callS1P (q := 28) (as := [qi (I (F a0 2) x3)]) (st := []) dX0_edgeFrom_25 rfl mo_X0_51 rfl rfl (Nat.le_of_ble_eq_true rfl) (Nat.le_of_ble_eq_true rfl) (Nat.le_of_ble_eq_true rfl) (Nat.zero_le _) (Nat.zero_le _) (fun _ hr => ct_X0_pitOf (N := N) hr) (fun v_6 => ?_)
    refine ok_iload_n (q := 29) 2 dX0_edgeFrom_28 rfl rfl rfl ?_
    refine ok_icmp_ne (q := 39) (q2 := 32) dX0_edgeFrom_29 rfl rfl ?_ ?_
    · skip
      refine fi_chk (fun h_7 => ?_)
      refine ok_iincL (q := 42) (fun x3_8 => [(3, qi x3_8), (0, qr a0), (1, qi x1), (2, qi x2)]) 3 dX0_edgeFrom_39 rfl rfl h_7 (Nat.le_of_ble_eq_true rfl) (fun _ => rfl) (fun x3_8 => ?_)
      refine ok_goto (q := 7) dX0_edgeFrom_42 rfl ?_
      exact fun g => ok_pick [1, 2, 3, 0] rfl (H7 _ _ _ g)
    · skip
      refine ok_aload_n (q := 33) 0 dX0_edgeFrom_32 rfl rfl rfl ?_
      refine ok_getR (q := 36) (ci := 0) (k := 2) (x := F a0 2) dX0_edgeFrom_33 rfl fo_X0_18 h0 rfl ?_
      refine ok_iload_n (q := 37) 3 dX0_edgeFrom_36 rfl rfl rfl ?_
      refine ok_iaload (q := 38) (v := I (F a0 2) x3) dX0_edgeFrom_37 rfl h_4 h_5.1 h_5.2 rfl ?_
      exact fi_ireturnP dX0_edgeFrom_38 rfl
def X0_edgeFrom_h7 (N : Nat) (K : am_K) (F : am_F) (I : am_I) (a0 : Nat) : Nat → Int → Int → Int → Option Int := am_it (fun kh => X0_edgeFrom_s7 N K F I a0 kh) (fun _ _ _ => none)
theorem w_X0_edgeFrom_h7 {η : am_E} {l : Launch} {N : Nat} {n : Nat} {K : am_K} {I : am_I} {F : am_F} {a0 : Nat} {r0 : Int} (h0 : (K a0).1 = 0) (f : Nat) : ∀ (x1 : Int) (x2 : Int) (x3 : Int), X0_edgeFrom_h7 N K F I a0 f x1 x2 x3 = some r0 → Ok η l M_X0_edgeFrom (am_qm η (am_pS 1 (r0, I) n K F) 0 0) 7 [(0, qr a0), (1, qi x1), (2, qi x2), (3, qi x3)] [] n K I F 0 0 := by
  induction f with
  | zero => intro x1 x2 x3 g; exact fi_none g
  | succ f ih => intro x1 x2 x3 g; exact w_X0_edgeFrom_s7 (N := N) h0 ih g
def X0_edgeFrom (N : Nat) (K : am_K) (F : am_F) (I : am_I) (a0 : Nat) (x1 : Int) (x2 : Int) : Option Int :=
  if (K (F a0 1)).1 = 100 then if (0 : Int) ≤ x1 ∧ x1 < (K (F a0 1)).2 then am_lt (I (F a0 1) x1) (fun x3_3 => X0_edgeFrom_h7 N K F I a0 N x1 x2 x3_3) else none else none
theorem w_X0_edgeFrom {η : am_E} {l : Launch} {N : Nat} {n : Nat} {K : am_K} {I : am_I} {F : am_F} {a0 : Nat} {r0 : Int} {x1 : Int} {x2 : Int} (h0 : (K a0).1 = 0) : X0_edgeFrom N K F I a0 x1 x2 = some r0 → Ok η l M_X0_edgeFrom (am_qm η (am_pS 1 (r0, I) n K F) 0 0) 0 [(0, qr a0), (1, qi x1), (2, qi x2)] [] n K I F 0 0 := by
  unfold X0_edgeFrom
  refine ok_aload_n (q := 1) 0 dX0_edgeFrom_0 rfl rfl rfl ?_
  refine ok_getR (q := 4) (ci := 0) (k := 1) (x := F a0 1) dX0_edgeFrom_1 rfl fo_X0_15 h0 rfl ?_
  refine ok_iload_n (q := 5) 1 dX0_edgeFrom_4 rfl rfl rfl ?_
  refine fi_chk (fun h_1 => ?_)
  refine fi_chk (fun h_2 => ?_)
  refine ok_iaload (q := 6) (v := I (F a0 1) x1) dX0_edgeFrom_5 rfl h_1 h_2.1 h_2.2 rfl ?_
  refine ok_istore_nL (q := 7) (fun x3_3 => [(3, qi x3_3), (0, qr a0), (1, qi x1), (2, qi x2)]) dX0_edgeFrom_6 rfl rfl (Nat.le_of_ble_eq_true rfl) (fun _ => rfl) (fun x3_3 => ?_)
  exact fun g => ok_pick [1, 2, 3, 0] rfl (w_X0_edgeFrom_h7 (N := N) h0 N _ _ _ g)
theorem ct_X0_edgeFrom {η : am_E} {l : Launch} {N : Nat} {n : Nat} {K : am_K} {I : am_I} {F : am_F} {a0 : Nat} {r0 : Int} {x1 : Int} {x2 : Int} (h0 : (K a0).1 = 0) : X0_edgeFrom N K F I a0 x1 x2 = some r0 → am_Ct η l yX0_edgeFrom cX0_edgeFrom 4 (some .int) 1 20 0 0 [qr a0, qi x1, qi x2] n K I F (am_pS 1 (r0, I) n K F) := fun g => am_Ct.of false (by decide) (by decide) (Nat.le_of_ble_eq_true rfl) (fun _ => w_X0_edgeFrom (N := N) h0 g)
def M_X3_waysOf : am_M := (yX3_waysOf.cls, cX3_waysOf, 3, (some .long), am_room 0 0 0 0, false)
def X3_waysOf_b10 (N : Nat) (K : am_K) (F : am_F) (I : am_I) (a0 : Nat) : Option Int :=
  some (0)
theorem w_X3_waysOf_b10 {η : am_E} {l : Launch} {N : Nat} {n : Nat} {K : am_K} {I : am_I} {F : am_F} {a0 : Nat} {r0 : Int} (h0 : (K a0).1 = 3) : X3_waysOf_b10 N K F I a0 = some r0 → Ok η l M_X3_waysOf (am_qm η (am_pS 2 (r0, I) n K F) 0 0) 10 [(0, qr a0)] [] n K I F 0 0 := by
  unfold X3_waysOf_b10
  refine ok_lconst (q := 11) (x := 0) dX3_waysOf_10 rfl rfl (by decide) ?_
  exact fi_lreturnP dX3_waysOf_11 rfl
def X3_waysOf (N : Nat) (K : am_K) (F : am_F) (I : am_I) (a0 : Nat) (x1 : Int) (x2 : Int) : Option Int :=
  if 0 ≤ x2 then (if 12 < x2 then (X3_waysOf_b10 N K F I a0 ) else (if am_inI (x1 * 13) then if am_inI ((x1 * 13) + x2) then if (K (F a0 1)).1 = 102 then if (0 : Int) ≤ ((x1 * 13) + x2) ∧ ((x1 * 13) + x2) < (K (F a0 1)).2 then some (I (F a0 1) ((x1 * 13) + x2)) else none else none else none else none)) else (X3_waysOf_b10 N K F I a0 )
theorem w_X3_waysOf {η : am_E} {l : Launch} {N : Nat} {n : Nat} {K : am_K} {I : am_I} {F : am_F} {a0 : Nat} {r0 : Int} {x1 : Int} {x2 : Int} (h0 : (K a0).1 = 3) : X3_waysOf N K F I a0 x1 x2 = some r0 → Ok η l M_X3_waysOf (am_qm η (am_pS 2 (r0, I) n K F) 0 0) 0 [(0, qr a0), (1, qi x1), (2, qi x2)] [] n K I F 0 0 := by
  unfold X3_waysOf
  refine ok_iload_n (q := 1) 2 dX3_waysOf_0 rfl rfl rfl ?_
  refine ok_if_lt (q := 10) (q2 := 4) dX3_waysOf_1 rfl rfl ?_ ?_
  · skip
    exact fun g => ok_pick [0] rfl (w_X3_waysOf_b10 (N := N) h0 g)
  · skip
    refine ok_iload_n (q := 5) 2 dX3_waysOf_4 rfl rfl rfl ?_
    refine ok_bipush (q := 7) (x := 12) dX3_waysOf_5 rfl rfl (by decide) ?_
    refine ok_icmp_le (q := 12) (q2 := 10) dX3_waysOf_7 rfl rfl ?_ ?_
    · skip
      refine ok_aload_n (q := 13) 0 dX3_waysOf_12 rfl rfl rfl ?_
      refine ok_getR (q := 16) (ci := 3) (k := 1) (x := F a0 1) dX3_waysOf_13 rfl fo_X3_11 h0 rfl ?_
      refine ok_iload_n (q := 17) 1 dX3_waysOf_16 rfl rfl rfl ?_
      refine ok_bipush (q := 19) (x := 13) dX3_waysOf_17 rfl rfl (by decide) ?_
      refine fi_chk (fun h_1 => ?_)
      refine ok_imul (q := 20) dX3_waysOf_19 rfl h_1 ?_
      refine ok_iload_n (q := 21) 2 dX3_waysOf_20 rfl rfl rfl ?_
      refine fi_chk (fun h_2 => ?_)
      refine ok_iadd (q := 22) dX3_waysOf_21 rfl h_2 ?_
      refine fi_chk (fun h_3 => ?_)
      refine fi_chk (fun h_4 => ?_)
      refine ok_laload (q := 23) (v := I (F a0 1) ((x1 * 13) + x2)) dX3_waysOf_22 rfl h_3 h_4.1 h_4.2 rfl ?_
      exact fi_lreturnP dX3_waysOf_23 rfl
    · skip
      exact fun g => ok_pick [0] rfl (w_X3_waysOf_b10 (N := N) h0 g)
theorem ct_X3_waysOf {η : am_E} {l : Launch} {N : Nat} {n : Nat} {K : am_K} {I : am_I} {F : am_F} {a0 : Nat} {r0 : Int} {x1 : Int} {x2 : Int} (h0 : (K a0).1 = 3) : X3_waysOf N K F I a0 x1 x2 = some r0 → am_Ct η l yX3_waysOf cX3_waysOf 3 (some .long) 0 0 0 0 [qr a0, qi x1, qi x2] n K I F (am_pS 2 (r0, I) n K F) := fun g => am_Ct.of false (by decide) (by decide) (Nat.le_of_ble_eq_true rfl) (fun _ => w_X3_waysOf (N := N) h0 g)
def M_X3_boardsUpTo : am_M := (yX3_boardsUpTo.cls, cX3_boardsUpTo, 2, (some .long), am_room 1 22 0 0, false)
def X3_boardsUpTo (N : Nat) (K : am_K) (F : am_F) (I : am_I) (a0 : Nat) (x1 : Int) : Option Int :=
  if (K (F a0 0)).1 = 1 then if am_inI ((I (F a0 0) 3) + 1) then am_cq (X3_waysOf N K F I a0 ((I (F a0 0) 3) + 1) x1) (fun v_3 => some (v_3)) else none else none
theorem w_X3_boardsUpTo {η : am_E} {l : Launch} {N : Nat} {n : Nat} {K : am_K} {I : am_I} {F : am_F} {a0 : Nat} {r0 : Int} {x1 : Int} (h0 : (K a0).1 = 3) : X3_boardsUpTo N K F I a0 x1 = some r0 → Ok η l M_X3_boardsUpTo (am_qm η (am_pS 2 (r0, I) n K F) 0 0) 0 [(0, qr a0), (1, qi x1)] [] n K I F 0 0 := by
  unfold X3_boardsUpTo
  refine ok_aload_n (q := 1) 0 dX3_boardsUpTo_0 rfl rfl rfl ?_
  refine ok_aload_n (q := 2) 0 dX3_boardsUpTo_1 rfl rfl rfl ?_
  refine ok_getR (q := 5) (ci := 3) (k := 0) (x := F a0 0) dX3_boardsUpTo_2 rfl fo_X3_19 h0 rfl ?_
  refine fi_chk (fun h_1 => ?_)
  refine ok_getI (q := 8) (ci := 1) (k := 3) (x := I (F a0 0) 3) dX3_boardsUpTo_5 rfl fo_X3_23 h_1 rfl ?_
  refine ok_iconst (q := 9) (x := 1) dX3_boardsUpTo_8 rfl rfl (by decide) ?_
  refine fi_chk (fun h_2 => ?_)
  refine ok_iadd (q := 10) dX3_boardsUpTo_9 rfl h_2 ?_
  refine ok_iload_n (q := 11) 1 dX3_boardsUpTo_10 rfl rfl rfl ?_
  refine fi_callV2P (q := 14) (as := [qi ((I (F a0 0) 3) + 1), qi x1]) (st := []) dX3_boardsUpTo_11 rfl mo_X3_29 h0 rfl (Nat.le_of_ble_eq_true rfl) rfl rfl (Nat.le_of_ble_eq_true rfl) (Nat.le_of_ble_eq_true rfl) (Nat.le_of_ble_eq_true rfl) (Nat.zero_le _) (Nat.zero_le _) (fun _ hr => ct_X3_waysOf (N := N) h0 hr) (fun v_3 => ?_)
  exact fi_lreturnP dX3_boardsUpTo_14 rfl
theorem ct_X3_boardsUpTo {η : am_E} {l : Launch} {N : Nat} {n : Nat} {K : am_K} {I : am_I} {F : am_F} {a0 : Nat} {r0 : Int} {x1 : Int} (h0 : (K a0).1 = 3) : X3_boardsUpTo N K F I a0 x1 = some r0 → am_Ct η l yX3_boardsUpTo cX3_boardsUpTo 2 (some .long) 1 22 0 0 [qr a0, qi x1] n K I F (am_pS 2 (r0, I) n K F) := fun g => am_Ct.of false (by decide) (by decide) (Nat.le_of_ble_eq_true rfl) (fun _ => w_X3_boardsUpTo (N := N) h0 g)
def M_J7_fill_53178 : am_M := (yJ7_fill_53178.cls, cJ7_fill_53178, 4, none, am_room 0 0 0 0, false)
def J7_fill_53178_s5 (N : Nat) (K : am_K) (F : am_F) (k5 : am_I → Nat → Int → Int → Int → Option (Int × am_I)) (I : am_I) (a0 : Nat) (x1 : Int) (x2 : Int) (x3 : Int) : Option (Int × am_I) :=
  if x2 < x3 then (if (K a0).1 = 100 then if a0 ≠ 1 then if (0 : Int) ≤ x2 ∧ x2 < (K a0).2 then am_lt (am_u2 I a0 x2 x1) (fun I_4 => if am_inI (x2 + 1) then am_lt (x2 + 1) (fun x2_6 => k5 I_4 a0 x1 x2_6 x3) else none) else none else none else none) else (some (0, I))
theorem w_J7_fill_53178_s5 {η : am_E} {l : Launch} {N : Nat} {n : Nat} {K : am_K} {I : am_I} {F : am_F} {r0 : Int × am_I} {k5 : am_I → Nat → Int → Int → Int → Option (Int × am_I)} {a0 : Nat} {x1 : Int} {x2 : Int} {x3 : Int} (H5 : ∀ (I : am_I) (a0 : Nat) (x1 : Int) (x2 : Int) (x3 : Int), k5 I a0 x1 x2 x3 = some r0 → Ok η l M_J7_fill_53178 (am_qm η (am_pS 0 r0 n K F) 0 0) 5 [(0, qr a0), (1, qi x1), (2, qi x2), (3, qi x3)] [] n K I F 0 0) : J7_fill_53178_s5 N K F k5 I a0 x1 x2 x3 = some r0 → Ok η l M_J7_fill_53178 (am_qm η (am_pS 0 r0 n K F) 0 0) 5 [(0, qr a0), (1, qi x1), (2, qi x2), (3, qi x3)] [] n K I F 0 0 := by
  unfold J7_fill_53178_s5
  refine ok_iload_n (q := 6) 2 dJ7_fill_53178_5 rfl rfl rfl ?_
  refine ok_iload_n (q := 7) 3 dJ7_fill_53178_6 rfl rfl rfl ?_
  refine ok_icmp_ge (q := 20) (q2 := 10) dJ7_fill_53178_7 rfl rfl ?_ ?_
  · skip
    exact fi_returnS dJ7_fill_53178_20 rfl
  · skip
    refine ok_aload_n (q := 11) 0 dJ7_fill_53178_10 rfl rfl rfl ?_
    refine ok_iload_n (q := 12) 2 dJ7_fill_53178_11 rfl rfl rfl ?_
    refine ok_iload_n (q := 13) 1 dJ7_fill_53178_12 rfl rfl rfl ?_
    refine fi_chk (fun h_1 => ?_)
    refine fi_chk (fun h_2 => ?_)
    refine fi_chk (fun h_3 => ?_)
    refine ok_iastore (q := 14) dJ7_fill_53178_13 rfl h_1 h_2 h_3.1 h_3.2 (fun I_4 => ?_)
    refine fi_chk (fun h_5 => ?_)
    refine ok_iincL (q := 17) (fun x2_6 => [(2, qi x2_6), (0, qr a0), (1, qi x1), (3, qi x3)]) 2 dJ7_fill_53178_14 rfl rfl h_5 (Nat.le_of_ble_eq_true rfl) (fun _ => rfl) (fun x2_6 => ?_)
    refine ok_goto (q := 5) dJ7_fill_53178_17 rfl ?_
    exact fun g => ok_pick [1, 2, 0, 3] rfl (H5 _ _ _ _ _ g)
def J7_fill_53178_h5 (N : Nat) (K : am_K) (F : am_F) : Nat → am_I → Nat → Int → Int → Int → Option (Int × am_I) := am_it (fun kh => J7_fill_53178_s5 N K F kh) (fun _ _ _ _ _ => none)
theorem w_J7_fill_53178_h5 {η : am_E} {l : Launch} {N : Nat} {n : Nat} {K : am_K} {F : am_F} {r0 : Int × am_I} (f : Nat) : ∀ (I : am_I) (a0 : Nat) (x1 : Int) (x2 : Int) (x3 : Int), J7_fill_53178_h5 N K F f I a0 x1 x2 x3 = some r0 → Ok η l M_J7_fill_53178 (am_qm η (am_pS 0 r0 n K F) 0 0) 5 [(0, qr a0), (1, qi x1), (2, qi x2), (3, qi x3)] [] n K I F 0 0 := by
  induction f with
  | zero => intro I a0 x1 x2 x3 g; exact fi_none g
  | succ f ih => intro I a0 x1 x2 x3 g; exact w_J7_fill_53178_s5 (N := N) ih g
def J7_fill_53178 (N : Nat) (K : am_K) (F : am_F) (I : am_I) (a0 : Nat) (x1 : Int) : Option (Int × am_I) :=
  if (K a0).1 = 100 then if am_inI (K a0).2 then am_lt ((K a0).2) (fun x3_3 => J7_fill_53178_h5 N K F N I a0 x1 0 x3_3) else none else none
theorem w_J7_fill_53178 {η : am_E} {l : Launch} {N : Nat} {n : Nat} {K : am_K} {I : am_I} {F : am_F} {r0 : Int × am_I} {a0 : Nat} {x1 : Int} : J7_fill_53178 N K F I a0 x1 = some r0 → Ok η l M_J7_fill_53178 (am_qm η (am_pS 0 r0 n K F) 0 0) 0 [(0, qr a0), (1, qi x1)] [] n K I F 0 0 := by
  unfold J7_fill_53178
  refine ok_iconst (q := 1) (x := 0) dJ7_fill_53178_0 rfl rfl (by decide) ?_
  refine ok_istore_n (q := 2) (ls' := [(2, qi 0), (0, qr a0), (1, qi x1)]) dJ7_fill_53178_1 rfl rfl (Nat.le_of_ble_eq_true rfl) rfl ?_
  refine ok_aload_n (q := 3) 1 dJ7_fill_53178_2 rfl rfl rfl ?_
  refine fi_chk (fun h_1 => ?_)
  refine fi_chk (fun h_2 => ?_)
  refine ok_arraylength (q := 4) (i := 0) dJ7_fill_53178_3 rfl h_1 (by decide) rfl rfl h_2 ?_
  refine ok_istore_nL (q := 5) (fun x3_3 => [(3, qi x3_3), (2, qi 0), (0, qr a0), (1, qi x1)]) dJ7_fill_53178_4 rfl rfl (Nat.le_of_ble_eq_true rfl) (fun _ => rfl) (fun x3_3 => ?_)
  exact fun g => ok_pick [2, 3, 1, 0] rfl (w_J7_fill_53178_h5 (N := N) N _ _ _ _ _ g)
theorem ct_J7_fill_53178 {η : am_E} {l : Launch} {N : Nat} {n : Nat} {K : am_K} {I : am_I} {F : am_F} {r0 : Int × am_I} {a0 : Nat} {x1 : Int} : J7_fill_53178 N K F I a0 x1 = some r0 → am_Ct η l yJ7_fill_53178 cJ7_fill_53178 4 none 0 0 0 0 [qr a0, qi x1] n K I F (am_pS 0 r0 n K F) := fun g => am_Ct.of false (by decide) (by decide) (Nat.le_of_ble_eq_true rfl) (fun _ => w_J7_fill_53178 (N := N) g)
def M_X3_fill : am_M := (yX3_fill.cls, cX3_fill, 10, none, am_room 2 43 0 0, false)
def X3_fill_b122 (N : Nat) (K : am_K) (F : am_F) (a0 : Nat) (k47 : am_I → Nat → Int → Int → Int → Option (Int × am_I)) (I : am_I) (a1 : Nat) (x4 : Int) (x5 : Int) (x7 : Int) (x9 : Int) : Option (Int × am_I) :=
  if (K (F a0 0)).1 = 1 then if (K (F (F a0 0) 5)).1 = 100 then if (0 : Int) ≤ x7 ∧ x7 < (K (F (F a0 0) 5)).2 then if (K a1).1 = 100 then if a1 ≠ 1 then if (0 : Int) ≤ (I (F (F a0 0) 5) x7) ∧ (I (F (F a0 0) 5) x7) < (K a1).2 then am_lt (am_u2 I a1 (I (F (F a0 0) 5) x7) x9) (fun I_7 => if am_inI (x4 - x9) then am_lt (x4 - x9) (fun x4_9 => if am_inI (x7 + 1) then am_lt (x7 + 1) (fun x7_11 => k47 I_7 a1 x4_9 x5 x7_11) else none) else none) else none else none else none else none else none else none
theorem w_X3_fill_b122 {η : am_E} {l : Launch} {N : Nat} {n : Nat} {K : am_K} {I : am_I} {F : am_F} {a0 : Nat} {r0 : Int × am_I} {k47 : am_I → Nat → Int → Int → Int → Option (Int × am_I)} {a1 : Nat} {x4 : Int} {x5 : Int} {x7 : Int} {x9 : Int} (h0 : (K a0).1 = 3) (H47 : ∀ (I : am_I) (a1 : Nat) (x4 : Int) (x5 : Int) (x7 : Int), k47 I a1 x4 x5 x7 = some r0 → Ok η l M_X3_fill (am_qm η (am_pS 0 r0 n K F) 0 0) 47 [(0, qr a0), (1, qr a1), (4, qi x4), (5, ql x5), (7, qi x7)] [] n K I F 0 0) : X3_fill_b122 N K F a0 k47 I a1 x4 x5 x7 x9 = some r0 → Ok η l M_X3_fill (am_qm η (am_pS 0 r0 n K F) 0 0) 122 [(0, qr a0), (1, qr a1), (4, qi x4), (5, ql x5), (7, qi x7), (9, qi x9)] [] n K I F 0 0 := by
  unfold X3_fill_b122
  refine ok_aload_n (q := 123) 1 dX3_fill_122 rfl rfl rfl ?_
  refine ok_aload_n (q := 124) 0 dX3_fill_123 rfl rfl rfl ?_
  refine ok_getR (q := 127) (ci := 3) (k := 0) (x := F a0 0) dX3_fill_124 rfl fo_X3_19 h0 rfl ?_
  refine fi_chk (fun h_1 => ?_)
  refine ok_getR (q := 130) (ci := 1) (k := 5) (x := F (F a0 0) 5) dX3_fill_127 rfl fo_X3_41 h_1 rfl ?_
  refine ok_iload (q := 132) 4 dX3_fill_130 rfl rfl ?_
  refine fi_chk (fun h_2 => ?_)
  refine fi_chk (fun h_3 => ?_)
  refine ok_iaload (q := 133) (v := I (F (F a0 0) 5) x7) dX3_fill_132 rfl h_2 h_3.1 h_3.2 rfl ?_
  refine ok_iload (q := 135) 5 dX3_fill_133 rfl rfl ?_
  refine fi_chk (fun h_4 => ?_)
  refine fi_chk (fun h_5 => ?_)
  refine fi_chk (fun h_6 => ?_)
  refine ok_iastore (q := 136) dX3_fill_135 rfl h_4 h_5 h_6.1 h_6.2 (fun I_7 => ?_)
  refine ok_iload (q := 138) 2 dX3_fill_136 rfl rfl ?_
  refine ok_iload (q := 140) 5 dX3_fill_138 rfl rfl ?_
  refine fi_chk (fun h_8 => ?_)
  refine ok_isub (q := 141) dX3_fill_140 rfl h_8 ?_
  refine ok_istoreL (q := 143) (fun x4_9 => [(4, qi x4_9), (0, qr a0), (1, qr a1), (5, ql x5), (7, qi x7), (9, qi x9)]) dX3_fill_141 rfl (Nat.le_of_ble_eq_true rfl) (fun _ => rfl) (fun x4_9 => ?_)
  refine fi_chk (fun h_10 => ?_)
  refine ok_iincL (q := 146) (fun x7_11 => [(7, qi x7_11), (4, qi x4_9), (0, qr a0), (1, qr a1), (5, ql x5), (9, qi x9)]) 4 dX3_fill_143 rfl rfl h_10 (Nat.le_of_ble_eq_true rfl) (fun _ => rfl) (fun x7_11 => ?_)
  refine ok_goto (q := 47) dX3_fill_146 rfl ?_
  exact fun g => ok_pick [2, 3, 1, 4, 0] rfl (H47 _ _ _ _ _ g)
def X3_fill_s76 (N : Nat) (K : am_K) (F : am_F) (a0 : Nat) (k47 : am_I → Nat → Int → Int → Int → Option (Int × am_I)) (k76 : am_I → Nat → Int → Int → Int → Int → Int → Option (Int × am_I)) (I : am_I) (a1 : Nat) (x4 : Int) (x5 : Int) (x7 : Int) (x8 : Int) (x9 : Int) : Option (Int × am_I) :=
  if x9 < x4 then (if am_inI (x4 - x9) then am_cq (X3_waysOf N K F I a0 x8 (x4 - x9)) (fun v_2 => if 0 ≤ (am_cmp x5 v_2) then (am_cq (X3_waysOf N K F I a0 x8 (x4 - x9)) (fun v_3 => am_lt (am_wL (x5 - v_3)) (fun x5_4 => if am_inI (x9 + 1) then am_lt (x9 + 1) (fun x9_6 => k76 I a1 x4 x5_4 x7 x8 x9_6) else none))) else (X3_fill_b122 N K F a0 k47 I a1 x4 x5 x7 x9)) else none) else (X3_fill_b122 N K F a0 k47 I a1 x4 x5 x7 x9)
theorem w_X3_fill_s76 {η : am_E} {l : Launch} {N : Nat} {n : Nat} {K : am_K} {I : am_I} {F : am_F} {a0 : Nat} {r0 : Int × am_I} {k47 : am_I → Nat → Int → Int → Int → Option (Int × am_I)} {k76 : am_I → Nat → Int → Int → Int → Int → Int → Option (Int × am_I)} {a1 : Nat} {x4 : Int} {x5 : Int} {x7 : Int} {x8 : Int} {x9 : Int} (h0 : (K a0).1 = 3) (H47 : ∀ (I : am_I) (a1 : Nat) (x4 : Int) (x5 : Int) (x7 : Int), k47 I a1 x4 x5 x7 = some r0 → Ok η l M_X3_fill (am_qm η (am_pS 0 r0 n K F) 0 0) 47 [(0, qr a0), (1, qr a1), (4, qi x4), (5, ql x5), (7, qi x7)] [] n K I F 0 0) (H76 : ∀ (I : am_I) (a1 : Nat) (x4 : Int) (x5 : Int) (x7 : Int) (x8 : Int) (x9 : Int), k76 I a1 x4 x5 x7 x8 x9 = some r0 → Ok η l M_X3_fill (am_qm η (am_pS 0 r0 n K F) 0 0) 76 [(0, qr a0), (1, qr a1), (4, qi x4), (5, ql x5), (7, qi x7), (8, qi x8), (9, qi x9)] [] n K I F 0 0) : X3_fill_s76 N K F a0 k47 k76 I a1 x4 x5 x7 x8 x9 = some r0 → Ok η l M_X3_fill (am_qm η (am_pS 0 r0 n K F) 0 0) 76 [(0, qr a0), (1, qr a1), (4, qi x4), (5, ql x5), (7, qi x7), (8, qi x8), (9, qi x9)] [] n K I F 0 0 := by
  unfold X3_fill_s76
  refine ok_iload (q := 78) 6 dX3_fill_76 rfl rfl ?_
  refine ok_iload (q := 80) 2 dX3_fill_78 rfl rfl ?_
  refine ok_icmp_ge (q := 122) (q2 := 83) dX3_fill_80 rfl rfl ?_ ?_
  · skip
    exact fun g => ok_pick [0, 1, 2, 3, 4, 6] rfl (w_X3_fill_b122 (N := N) h0 H47 g)
  · skip
    refine ok_lload (q := 85) 3 dX3_fill_83 rfl rfl ?_
    refine ok_aload_n (q := 86) 0 dX3_fill_85 rfl rfl rfl ?_
    refine ok_iload (q := 88) 5 dX3_fill_86 rfl rfl ?_
    refine ok_iload (q := 90) 2 dX3_fill_88 rfl rfl ?_
    refine ok_iload (q := 92) 6 dX3_fill_90 rfl rfl ?_
    refine fi_chk (fun h_1 => ?_)
    refine ok_isub (q := 93) dX3_fill_92 rfl h_1 ?_
    refine fi_callV2P (q := 96) (as := [qi x8, qi (x4 - x9)]) (st := [ql x5]) dX3_fill_93 rfl mo_X3_29 h0 rfl (Nat.le_of_ble_eq_true rfl) rfl rfl (Nat.le_of_ble_eq_true rfl) (Nat.le_of_ble_eq_true rfl) (Nat.le_of_ble_eq_true rfl) (Nat.zero_le _) (Nat.zero_le _) (fun _ hr => ct_X3_waysOf (N := N) h0 hr) (fun v_2 => ?_)
    refine ok_lcmp (q := 97) dX3_fill_96 rfl ?_
    refine ok_if_lt (q := 122) (q2 := 100) dX3_fill_97 rfl rfl ?_ ?_
    · skip
      exact fun g => ok_pick [0, 1, 2, 3, 4, 6] rfl (w_X3_fill_b122 (N := N) h0 H47 g)
    · skip
      refine ok_lload (q := 102) 3 dX3_fill_100 rfl rfl ?_
      refine ok_aload_n (q := 103) 0 dX3_fill_102 rfl rfl rfl ?_
      refine ok_iload (q := 105) 5 dX3_fill_103 rfl rfl ?_
      refine ok_iload (q := 107) 2 dX3_fill_105 rfl rfl ?_
      refine ok_iload (q := 109) 6 dX3_fill_107 rfl rfl ?_
      refine ok_isub (q := 110) dX3_fill_109 rfl h_1 ?_
      refine fi_callV2P (q := 113) (as := [qi x8, qi (x4 - x9)]) (st := [ql x5]) dX3_fill_110 rfl mo_X3_29 h0 rfl (Nat.le_of_ble_eq_true rfl) rfl rfl (Nat.le_of_ble_eq_true rfl) (Nat.le_of_ble_eq_true rfl) (Nat.le_of_ble_eq_true rfl) (Nat.zero_le _) (Nat.zero_le _) (fun _ hr => ct_X3_waysOf (N := N) h0 hr) (fun v_3 => ?_)
      refine ok_lsubW (q := 114) dX3_fill_113 rfl ?_
      refine ok_lstoreL (q := 116) (fun x5_4 => [(5, ql x5_4), (0, qr a0), (1, qr a1), (4, qi x4), (7, qi x7), (8, qi x8), (9, qi x9)]) dX3_fill_114 rfl (Nat.le_of_ble_eq_true rfl) (fun _ => rfl) (fun x5_4 => ?_)
      refine fi_chk (fun h_5 => ?_)
      refine ok_iincL (q := 119) (fun x9_6 => [(9, qi x9_6), (5, ql x5_4), (0, qr a0), (1, qr a1), (4, qi x4), (7, qi x7), (8, qi x8)]) 6 dX3_fill_116 rfl rfl h_5 (Nat.le_of_ble_eq_true rfl) (fun _ => rfl) (fun x9_6 => ?_)
      refine ok_goto (q := 76) dX3_fill_119 rfl ?_
      exact fun g => ok_pick [2, 3, 4, 1, 5, 6, 0] rfl (H76 _ _ _ _ _ _ _ g)
def X3_fill_h76 (N : Nat) (K : am_K) (F : am_F) (a0 : Nat) (k47 : am_I → Nat → Int → Int → Int → Option (Int × am_I)) : Nat → am_I → Nat → Int → Int → Int → Int → Int → Option (Int × am_I) := am_it (fun kh => X3_fill_s76 N K F a0 k47 kh) (fun _ _ _ _ _ _ _ => none)
theorem w_X3_fill_h76 {η : am_E} {l : Launch} {N : Nat} {n : Nat} {K : am_K} {F : am_F} {a0 : Nat} {r0 : Int × am_I} {k47 : am_I → Nat → Int → Int → Int → Option (Int × am_I)} (h0 : (K a0).1 = 3) (H47 : ∀ (I : am_I) (a1 : Nat) (x4 : Int) (x5 : Int) (x7 : Int), k47 I a1 x4 x5 x7 = some r0 → Ok η l M_X3_fill (am_qm η (am_pS 0 r0 n K F) 0 0) 47 [(0, qr a0), (1, qr a1), (4, qi x4), (5, ql x5), (7, qi x7)] [] n K I F 0 0) (f : Nat) : ∀ (I : am_I) (a1 : Nat) (x4 : Int) (x5 : Int) (x7 : Int) (x8 : Int) (x9 : Int), X3_fill_h76 N K F a0 k47 f I a1 x4 x5 x7 x8 x9 = some r0 → Ok η l M_X3_fill (am_qm η (am_pS 0 r0 n K F) 0 0) 76 [(0, qr a0), (1, qr a1), (4, qi x4), (5, ql x5), (7, qi x7), (8, qi x8), (9, qi x9)] [] n K I F 0 0 := by
  induction f with
  | zero => intro I a1 x4 x5 x7 x8 x9 g; exact fi_none g
  | succ f ih => intro I a1 x4 x5 x7 x8 x9 g; exact w_X3_fill_s76 (N := N) h0 H47 ih g
def X3_fill_s47 (N : Nat) (K : am_K) (F : am_F) (a0 : Nat) (k47 : am_I → Nat → Int → Int → Int → Option (Int × am_I)) (I : am_I) (a1 : Nat) (x4 : Int) (x5 : Int) (x7 : Int) : Option (Int × am_I) :=
  if (K (F a0 0)).1 = 1 then if x7 < (I (F a0 0) 3) then (if am_inI ((I (F a0 0) 3) - 1) then if am_inI (((I (F a0 0) 3) - 1) - x7) then am_lt (((I (F a0 0) 3) - 1) - x7) (fun x8_4 => X3_fill_h76 N K F a0 k47 N I a1 x4 x5 x7 x8_4 0) else none else none) else (some (0, I)) else none
theorem w_X3_fill_s47 {η : am_E} {l : Launch} {N : Nat} {n : Nat} {K : am_K} {I : am_I} {F : am_F} {a0 : Nat} {r0 : Int × am_I} {k47 : am_I → Nat → Int → Int → Int → Option (Int × am_I)} {a1 : Nat} {x4 : Int} {x5 : Int} {x7 : Int} (h0 : (K a0).1 = 3) (H47 : ∀ (I : am_I) (a1 : Nat) (x4 : Int) (x5 : Int) (x7 : Int), k47 I a1 x4 x5 x7 = some r0 → Ok η l M_X3_fill (am_qm η (am_pS 0 r0 n K F) 0 0) 47 [(0, qr a0), (1, qr a1), (4, qi x4), (5, ql x5), (7, qi x7)] [] n K I F 0 0) : X3_fill_s47 N K F a0 k47 I a1 x4 x5 x7 = some r0 → Ok η l M_X3_fill (am_qm η (am_pS 0 r0 n K F) 0 0) 47 [(0, qr a0), (1, qr a1), (4, qi x4), (5, ql x5), (7, qi x7)] [] n K I F 0 0 := by
  unfold X3_fill_s47
  refine ok_iload (q := 49) 4 dX3_fill_47 rfl rfl ?_
  refine ok_aload_n (q := 50) 0 dX3_fill_49 rfl rfl rfl ?_
  refine ok_getR (q := 53) (ci := 3) (k := 0) (x := F a0 0) dX3_fill_50 rfl fo_X3_19 h0 rfl ?_
  refine fi_chk (fun h_1 => ?_)
  refine ok_getI (q := 56) (ci := 1) (k := 3) (x := I (F a0 0) 3) dX3_fill_53 rfl fo_X3_23 h_1 rfl ?_
  refine ok_icmp_ge (q := 149) (q2 := 59) dX3_fill_56 rfl rfl ?_ ?_
  · skip
    exact fi_returnS dX3_fill_149 rfl
  · skip
    refine ok_aload_n (q := 60) 0 dX3_fill_59 rfl rfl rfl ?_
    refine ok_getR (q := 63) (ci := 3) (k := 0) (x := F a0 0) dX3_fill_60 rfl fo_X3_19 h0 rfl ?_
    refine ok_getI (q := 66) (ci := 1) (k := 3) (x := I (F a0 0) 3) dX3_fill_63 rfl fo_X3_23 h_1 rfl ?_
    refine ok_iconst (q := 67) (x := 1) dX3_fill_66 rfl rfl (by decide) ?_
    refine fi_chk (fun h_2 => ?_)
    refine ok_isub (q := 68) dX3_fill_67 rfl h_2 ?_
    refine ok_iload (q := 70) 4 dX3_fill_68 rfl rfl ?_
    refine fi_chk (fun h_3 => ?_)
    refine ok_isub (q := 71) dX3_fill_70 rfl h_3 ?_
    refine ok_istoreL (q := 73) (fun x8_4 => [(8, qi x8_4), (0, qr a0), (1, qr a1), (4, qi x4), (5, ql x5), (7, qi x7)]) dX3_fill_71 rfl (Nat.le_of_ble_eq_true rfl) (fun _ => rfl) (fun x8_4 => ?_)
    refine ok_iconst (q := 74) (x := 0) dX3_fill_73 rfl rfl (by decide) ?_
    refine ok_istore (q := 76) (ls' := [(9, qi 0), (8, qi x8_4), (0, qr a0), (1, qr a1), (4, qi x4), (5, ql x5), (7, qi x7)]) dX3_fill_74 rfl (Nat.le_of_ble_eq_true rfl) rfl ?_
    exact fun g => ok_pick [2, 3, 4, 5, 6, 1, 0] rfl (w_X3_fill_h76 (N := N) h0 H47 N _ _ _ _ _ _ _ g)
def X3_fill_h47 (N : Nat) (K : am_K) (F : am_F) (a0 : Nat) : Nat → am_I → Nat → Int → Int → Int → Option (Int × am_I) := am_it (fun kh => X3_fill_s47 N K F a0 kh) (fun _ _ _ _ _ => none)
theorem w_X3_fill_h47 {η : am_E} {l : Launch} {N : Nat} {n : Nat} {K : am_K} {F : am_F} {a0 : Nat} {r0 : Int × am_I} (h0 : (K a0).1 = 3) (f : Nat) : ∀ (I : am_I) (a1 : Nat) (x4 : Int) (x5 : Int) (x7 : Int), X3_fill_h47 N K F a0 f I a1 x4 x5 x7 = some r0 → Ok η l M_X3_fill (am_qm η (am_pS 0 r0 n K F) 0 0) 47 [(0, qr a0), (1, qr a1), (4, qi x4), (5, ql x5), (7, qi x7)] [] n K I F 0 0 := by
  induction f with
  | zero => intro I a1 x4 x5 x7 g; exact fi_none g
  | succ f ih => intro I a1 x4 x5 x7 g; exact w_X3_fill_s47 (N := N) h0 ih g
def X3_fill_b27 (N : Nat) (K : am_K) (F : am_F) (a0 : Nat) (I : am_I) (a1 : Nat) (x2 : Int) (x4 : Int) : Option (Int × am_I) :=
  if am_inI (x4 - 1) then am_cq (X3_boardsUpTo N K F I a0 (x4 - 1)) (fun v_2 => am_lt (am_wL (x2 - v_2)) (fun x5_3 => am_cl (J7_fill_53178 N K F I a1 0) (fun _ I_4 => X3_fill_h47 N K F a0 N I_4 a1 x4 x5_3 0))) else none
theorem w_X3_fill_b27 {η : am_E} {l : Launch} {N : Nat} {n : Nat} {K : am_K} {I : am_I} {F : am_F} {a0 : Nat} {r0 : Int × am_I} {a1 : Nat} {x2 : Int} {x4 : Int} (h0 : (K a0).1 = 3) : X3_fill_b27 N K F a0 I a1 x2 x4 = some r0 → Ok η l M_X3_fill (am_qm η (am_pS 0 r0 n K F) 0 0) 27 [(0, qr a0), (1, qr a1), (2, ql x2), (4, qi x4)] [] n K I F 0 0 := by
  unfold X3_fill_b27
  refine ok_lload_n (q := 28) 2 dX3_fill_27 rfl rfl rfl ?_
  refine ok_aload_n (q := 29) 0 dX3_fill_28 rfl rfl rfl ?_
  refine ok_iload (q := 31) 3 dX3_fill_29 rfl rfl ?_
  refine ok_iconst (q := 32) (x := 1) dX3_fill_31 rfl rfl (by decide) ?_
  refine fi_chk (fun h_1 => ?_)
  refine ok_isub (q := 33) dX3_fill_32 rfl h_1 ?_
  refine fi_callV2P (q := 36) (as := [qi (x4 - 1)]) (st := [ql x2]) dX3_fill_33 rfl mo_X3_37 h0 rfl (Nat.le_of_ble_eq_true rfl) rfl rfl (Nat.le_of_ble_eq_true rfl) (Nat.le_of_ble_eq_true rfl) (Nat.le_of_ble_eq_true rfl) (Nat.zero_le _) (Nat.zero_le _) (fun _ hr => ct_X3_boardsUpTo (N := N) h0 hr) (fun v_2 => ?_)
  refine ok_lsubW (q := 37) dX3_fill_36 rfl ?_
  refine ok_lstoreL (q := 39) (fun x5_3 => [(5, ql x5_3), (0, qr a0), (1, qr a1), (2, ql x2), (4, qi x4)]) dX3_fill_37 rfl (Nat.le_of_ble_eq_true rfl) (fun _ => rfl) (fun x5_3 => ?_)
  refine ok_aload_n (q := 40) 2 dX3_fill_39 rfl rfl rfl ?_
  refine ok_iconst (q := 41) (x := 0) dX3_fill_40 rfl rfl (by decide) ?_
  refine fi_callS0S (q := 44) (as := [qr a1, qi 0]) (st := []) dX3_fill_41 rfl mo_X3_48 rfl rfl (Nat.le_of_ble_eq_true rfl) (Nat.le_of_ble_eq_true rfl) (Nat.le_of_ble_eq_true rfl) (Nat.zero_le _) (Nat.zero_le _) (fun _ hr => ct_J7_fill_53178 (N := N) hr) (fun _ I_4 => ?_)
  refine ok_iconst (q := 45) (x := 0) dX3_fill_44 rfl rfl (by decide) ?_
  refine ok_istore (q := 47) (ls' := [(7, qi 0), (5, ql x5_3), (0, qr a0), (1, qr a1), (2, ql x2), (4, qi x4)]) dX3_fill_45 rfl (Nat.le_of_ble_eq_true rfl) rfl ?_
  exact fun g => ok_pick [2, 3, 5, 1, 0] rfl (w_X3_fill_h47 (N := N) h0 N _ _ _ _ _ g)
def X3_fill_s3 (N : Nat) (K : am_K) (F : am_F) (a0 : Nat) (k3 : am_I → Nat → Int → Int → Option (Int × am_I)) (I : am_I) (a1 : Nat) (x2 : Int) (x4 : Int) : Option (Int × am_I) :=
  if x4 < 12 then (am_cq (X3_boardsUpTo N K F I a0 x4) (fun v_1 => if (am_cmp v_1 x2) ≤ 0 then (if am_inI (x4 + 1) then am_lt (x4 + 1) (fun x4_3 => k3 I a1 x2 x4_3) else none) else (X3_fill_b27 N K F a0 I a1 x2 x4))) else (X3_fill_b27 N K F a0 I a1 x2 x4)
theorem w_X3_fill_s3 {η : am_E} {l : Launch} {N : Nat} {n : Nat} {K : am_K} {I : am_I} {F : am_F} {a0 : Nat} {r0 : Int × am_I} {k3 : am_I → Nat → Int → Int → Option (Int × am_I)} {a1 : Nat} {x2 : Int} {x4 : Int} (h0 : (K a0).1 = 3) (H3 : ∀ (I : am_I) (a1 : Nat) (x2 : Int) (x4 : Int), k3 I a1 x2 x4 = some r0 → Ok η l M_X3_fill (am_qm η (am_pS 0 r0 n K F) 0 0) 3 [(0, qr a0), (1, qr a1), (2, ql x2), (4, qi x4)] [] n K I F 0 0) : X3_fill_s3 N K F a0 k3 I a1 x2 x4 = some r0 → Ok η l M_X3_fill (am_qm η (am_pS 0 r0 n K F) 0 0) 3 [(0, qr a0), (1, qr a1), (2, ql x2), (4, qi x4)] [] n K I F 0 0 := by
  unfold X3_fill_s3
  refine ok_iload (q := 5) 3 dX3_fill_3 rfl rfl ?_
  refine ok_bipush (q := 7) (x := 12) dX3_fill_5 rfl rfl (by decide) ?_
  refine ok_icmp_ge (q := 27) (q2 := 10) dX3_fill_7 rfl rfl ?_ ?_
  · skip
    exact fun g => ok_pick [0, 1, 2, 3] rfl (w_X3_fill_b27 (N := N) h0 g)
  · skip
    refine ok_aload_n (q := 11) 0 dX3_fill_10 rfl rfl rfl ?_
    refine ok_iload (q := 13) 3 dX3_fill_11 rfl rfl ?_
    refine fi_callV2P (q := 16) (as := [qi x4]) (st := []) dX3_fill_13 rfl mo_X3_37 h0 rfl (Nat.le_of_ble_eq_true rfl) rfl rfl (Nat.le_of_ble_eq_true rfl) (Nat.le_of_ble_eq_true rfl) (Nat.le_of_ble_eq_true rfl) (Nat.zero_le _) (Nat.zero_le _) (fun _ hr => ct_X3_boardsUpTo (N := N) h0 hr) (fun v_1 => ?_)
    refine ok_lload_n (q := 17) 2 dX3_fill_16 rfl rfl rfl ?_
    refine ok_lcmp (q := 18) dX3_fill_17 rfl ?_
    refine ok_if_gt (q := 27) (q2 := 21) dX3_fill_18 rfl rfl ?_ ?_
    · skip
      exact fun g => ok_pick [0, 1, 2, 3] rfl (w_X3_fill_b27 (N := N) h0 g)
    · skip
      refine fi_chk (fun h_2 => ?_)
      refine ok_iincL (q := 24) (fun x4_3 => [(4, qi x4_3), (0, qr a0), (1, qr a1), (2, ql x2)]) 3 dX3_fill_21 rfl rfl h_2 (Nat.le_of_ble_eq_true rfl) (fun _ => rfl) (fun x4_3 => ?_)
      refine ok_goto (q := 3) dX3_fill_24 rfl ?_
      exact fun g => ok_pick [1, 2, 3, 0] rfl (H3 _ _ _ _ g)
def X3_fill_h3 (N : Nat) (K : am_K) (F : am_F) (a0 : Nat) : Nat → am_I → Nat → Int → Int → Option (Int × am_I) := am_it (fun kh => X3_fill_s3 N K F a0 kh) (fun _ _ _ _ => none)
theorem w_X3_fill_h3 {η : am_E} {l : Launch} {N : Nat} {n : Nat} {K : am_K} {F : am_F} {a0 : Nat} {r0 : Int × am_I} (h0 : (K a0).1 = 3) (f : Nat) : ∀ (I : am_I) (a1 : Nat) (x2 : Int) (x4 : Int), X3_fill_h3 N K F a0 f I a1 x2 x4 = some r0 → Ok η l M_X3_fill (am_qm η (am_pS 0 r0 n K F) 0 0) 3 [(0, qr a0), (1, qr a1), (2, ql x2), (4, qi x4)] [] n K I F 0 0 := by
  induction f with
  | zero => intro I a1 x2 x4 g; exact fi_none g
  | succ f ih => intro I a1 x2 x4 g; exact w_X3_fill_s3 (N := N) h0 ih g
def X3_fill (N : Nat) (K : am_K) (F : am_F) (a0 : Nat) (I : am_I) (a1 : Nat) (x2 : Int) : Option (Int × am_I) :=
  X3_fill_h3 N K F a0 N I a1 x2 0
theorem w_X3_fill {η : am_E} {l : Launch} {N : Nat} {n : Nat} {K : am_K} {I : am_I} {F : am_F} {a0 : Nat} {r0 : Int × am_I} {a1 : Nat} {x2 : Int} (h0 : (K a0).1 = 3) : X3_fill N K F a0 I a1 x2 = some r0 → Ok η l M_X3_fill (am_qm η (am_pS 0 r0 n K F) 0 0) 0 [(0, qr a0), (1, qr a1), (2, ql x2)] [] n K I F 0 0 := by
  unfold X3_fill
  refine ok_iconst (q := 1) (x := 0) dX3_fill_0 rfl rfl (by decide) ?_
  refine ok_istore (q := 3) (ls' := [(4, qi 0), (0, qr a0), (1, qr a1), (2, ql x2)]) dX3_fill_1 rfl (Nat.le_of_ble_eq_true rfl) rfl ?_
  exact fun g => ok_pick [1, 2, 3, 0] rfl (w_X3_fill_h3 (N := N) h0 N _ _ _ _ g)
theorem ct_X3_fill {η : am_E} {l : Launch} {N : Nat} {n : Nat} {K : am_K} {I : am_I} {F : am_F} {a0 : Nat} {r0 : Int × am_I} {a1 : Nat} {x2 : Int} (h0 : (K a0).1 = 3) : X3_fill N K F a0 I a1 x2 = some r0 → am_Ct η l yX3_fill cX3_fill 10 none 2 43 0 0 [qr a0, qr a1, ql x2] n K I F (am_pS 0 r0 n K F) := fun g => am_Ct.of false (by decide) (by decide) (Nat.le_of_ble_eq_true rfl) (fun _ => w_X3_fill (N := N) h0 g)
def M_X10_sow : am_M := (yX10_sow.cls, cX10_sow, 8, (some .int), am_room 0 0 0 0, false)
def X10_sow_s70 (N : Nat) (K : am_K) (F : am_F) (k70 : am_I → Nat → Nat → Int → Int → Int → Option (Int × am_I)) (I : am_I) (a0 : Nat) (a2 : Nat) (x4 : Int) (x5 : Int) (x6 : Int) : Option (Int × am_I) :=
  if x6 < x4 then (if (K a2).1 = 100 then if (0 : Int) ≤ x5 ∧ x5 < (K a2).2 then am_lt (I a2 x5) (fun x5_3 => if (K a0).1 = 100 then if (0 : Int) ≤ x5_3 ∧ x5_3 < (K a0).2 then if am_inI ((I a0 x5_3) + 1) then if a0 ≠ 1 then am_lt (am_u2 I a0 x5_3 ((I a0 x5_3) + 1)) (fun I_8 => if am_inI (x6 + 1) then am_lt (x6 + 1) (fun x6_10 => k70 I_8 a0 a2 x4 x5_3 x6_10) else none) else none else none else none else none) else none else none) else (some (x5, I))
theorem w_X10_sow_s70 {η : am_E} {l : Launch} {N : Nat} {n : Nat} {K : am_K} {I : am_I} {F : am_F} {r0 : Int × am_I} {k70 : am_I → Nat → Nat → Int → Int → Int → Option (Int × am_I)} {a0 : Nat} {a2 : Nat} {x4 : Int} {x5 : Int} {x6 : Int} (H70 : ∀ (I : am_I) (a0 : Nat) (a2 : Nat) (x4 : Int) (x5 : Int) (x6 : Int), k70 I a0 a2 x4 x5 x6 = some r0 → Ok η l M_X10_sow (am_qm η (am_pS 1 r0 n K F) 0 0) 70 [(0, qr a0), (2, qr a2), (4, qi x4), (5, qi x5), (6, qi x6)] [] n K I F 0 0) : X10_sow_s70 N K F k70 I a0 a2 x4 x5 x6 = some r0 → Ok η l M_X10_sow (am_qm η (am_pS 1 r0 n K F) 0 0) 70 [(0, qr a0), (2, qr a2), (4, qi x4), (5, qi x5), (6, qi x6)] [] n K I F 0 0 := by
  unfold X10_sow_s70
  refine ok_iload (q := 72) 4 dX10_sow_70 rfl rfl ?_
  refine ok_iload (q := 74) 2 dX10_sow_72 rfl rfl ?_
  refine ok_icmp_ge (q := 97) (q2 := 77) dX10_sow_74 rfl rfl ?_ ?_
  · skip
    refine ok_iload (q := 99) 3 dX10_sow_97 rfl rfl ?_
    exact fi_ireturnS dX10_sow_99 rfl
  · skip
    refine ok_aload_n (q := 78) 1 dX10_sow_77 rfl rfl rfl ?_
    refine ok_iload (q := 80) 3 dX10_sow_78 rfl rfl ?_
    refine fi_chk (fun h_1 => ?_)
    refine fi_chk (fun h_2 => ?_)
    refine ok_iaload (q := 81) (v := I a2 x5) dX10_sow_80 rfl h_1 h_2.1 h_2.2 rfl ?_
    refine ok_istoreL (q := 83) (fun x5_3 => [(5, qi x5_3), (0, qr a0), (2, qr a2), (4, qi x4), (6, qi x6)]) dX10_sow_81 rfl (Nat.le_of_ble_eq_true rfl) (fun _ => rfl) (fun x5_3 => ?_)
    refine ok_aload_n (q := 84) 1 dX10_sow_83 rfl rfl rfl ?_
    refine ok_iload (q := 86) 0 dX10_sow_84 rfl rfl ?_
    refine ok_dup2 (q := 87) dX10_sow_86 rfl rfl rfl ?_
    refine fi_chk (fun h_4 => ?_)
    refine fi_chk (fun h_5 => ?_)
    refine ok_iaload (q := 88) (v := I a0 x5_3) dX10_sow_87 rfl h_4 h_5.1 h_5.2 rfl ?_
    refine ok_iconst (q := 89) (x := 1) dX10_sow_88 rfl rfl (by decide) ?_
    refine fi_chk (fun h_6 => ?_)
    refine ok_iadd (q := 90) dX10_sow_89 rfl h_6 ?_
    refine fi_chk (fun h_7 => ?_)
    refine ok_iastore (q := 91) dX10_sow_90 rfl h_4 h_7 h_5.1 h_5.2 (fun I_8 => ?_)
    refine fi_chk (fun h_9 => ?_)
    refine ok_iincL (q := 94) (fun x6_10 => [(6, qi x6_10), (5, qi x5_3), (0, qr a0), (2, qr a2), (4, qi x4)]) 4 dX10_sow_91 rfl rfl h_9 (Nat.le_of_ble_eq_true rfl) (fun _ => rfl) (fun x6_10 => ?_)
    refine ok_goto (q := 70) dX10_sow_94 rfl ?_
    exact fun g => ok_pick [2, 3, 4, 1, 0] rfl (H70 _ _ _ _ _ _ g)
def X10_sow_h70 (N : Nat) (K : am_K) (F : am_F) : Nat → am_I → Nat → Nat → Int → Int → Int → Option (Int × am_I) := am_it (fun kh => X10_sow_s70 N K F kh) (fun _ _ _ _ _ _ => none)
theorem w_X10_sow_h70 {η : am_E} {l : Launch} {N : Nat} {n : Nat} {K : am_K} {F : am_F} {r0 : Int × am_I} (f : Nat) : ∀ (I : am_I) (a0 : Nat) (a2 : Nat) (x4 : Int) (x5 : Int) (x6 : Int), X10_sow_h70 N K F f I a0 a2 x4 x5 x6 = some r0 → Ok η l M_X10_sow (am_qm η (am_pS 1 r0 n K F) 0 0) 70 [(0, qr a0), (2, qr a2), (4, qi x4), (5, qi x5), (6, qi x6)] [] n K I F 0 0 := by
  induction f with
  | zero => intro I a0 a2 x4 x5 x6 g; exact fi_none g
  | succ f ih => intro I a0 a2 x4 x5 x6 g; exact w_X10_sow_s70 (N := N) ih g
def X10_sow_b67 (N : Nat) (K : am_K) (F : am_F) (I : am_I) (a0 : Nat) (a2 : Nat) (x4 : Int) (x5 : Int) : Option (Int × am_I) :=
  X10_sow_h70 N K F N I a0 a2 x4 x5 0
theorem w_X10_sow_b67 {η : am_E} {l : Launch} {N : Nat} {n : Nat} {K : am_K} {I : am_I} {F : am_F} {r0 : Int × am_I} {a0 : Nat} {a2 : Nat} {x4 : Int} {x5 : Int} : X10_sow_b67 N K F I a0 a2 x4 x5 = some r0 → Ok η l M_X10_sow (am_qm η (am_pS 1 r0 n K F) 0 0) 67 [(0, qr a0), (2, qr a2), (4, qi x4), (5, qi x5)] [] n K I F 0 0 := by
  unfold X10_sow_b67
  refine ok_iconst (q := 68) (x := 0) dX10_sow_67 rfl rfl (by decide) ?_
  refine ok_istore (q := 70) (ls' := [(6, qi 0), (0, qr a0), (2, qr a2), (4, qi x4), (5, qi x5)]) dX10_sow_68 rfl (Nat.le_of_ble_eq_true rfl) rfl ?_
  exact fun g => ok_pick [1, 2, 3, 4, 0] rfl (w_X10_sow_h70 (N := N) N _ _ _ _ _ _ g)
def X10_sow_s31 (N : Nat) (K : am_K) (F : am_F) (k31 : am_I → Nat → Nat → Int → Int → Int → Int → Int → Option (Int × am_I)) (I : am_I) (a0 : Nat) (a2 : Nat) (x3 : Int) (x4 : Int) (x5 : Int) (x6 : Int) (x7 : Int) : Option (Int × am_I) :=
  if x7 < x3 then (if (K a2).1 = 100 then if (0 : Int) ≤ x5 ∧ x5 < (K a2).2 then am_lt (I a2 x5) (fun x5_6 => if (K a0).1 = 100 then if (0 : Int) ≤ x5_6 ∧ x5_6 < (K a0).2 then if am_inI ((I a0 x5_6) + x6) then if a0 ≠ 1 then am_lt (am_u2 I a0 x5_6 ((I a0 x5_6) + x6)) (fun I_11 => if am_inI (x7 + 1) then am_lt (x7 + 1) (fun x7_13 => k31 I_11 a0 a2 x3 x4 x5_6 x6 x7_13) else none) else none else none else none else none) else none else none) else (if am_inI (x6 * x3) then if am_inI (x4 - (x6 * x3)) then am_lt (x4 - (x6 * x3)) (fun x4_3 => X10_sow_b67 N K F I a0 a2 x4_3 x5) else none else none)
theorem w_X10_sow_s31 {η : am_E} {l : Launch} {N : Nat} {n : Nat} {K : am_K} {I : am_I} {F : am_F} {r0 : Int × am_I} {k31 : am_I → Nat → Nat → Int → Int → Int → Int → Int → Option (Int × am_I)} {a0 : Nat} {a2 : Nat} {x3 : Int} {x4 : Int} {x5 : Int} {x6 : Int} {x7 : Int} (H31 : ∀ (I : am_I) (a0 : Nat) (a2 : Nat) (x3 : Int) (x4 : Int) (x5 : Int) (x6 : Int) (x7 : Int), k31 I a0 a2 x3 x4 x5 x6 x7 = some r0 → Ok η l M_X10_sow (am_qm η (am_pS 1 r0 n K F) 0 0) 31 [(0, qr a0), (2, qr a2), (3, qi x3), (4, qi x4), (5, qi x5), (6, qi x6), (7, qi x7)] [] n K I F 0 0) : X10_sow_s31 N K F k31 I a0 a2 x3 x4 x5 x6 x7 = some r0 → Ok η l M_X10_sow (am_qm η (am_pS 1 r0 n K F) 0 0) 31 [(0, qr a0), (2, qr a2), (3, qi x3), (4, qi x4), (5, qi x5), (6, qi x6), (7, qi x7)] [] n K I F 0 0 := by
  unfold X10_sow_s31
  refine ok_iload (q := 33) 6 dX10_sow_31 rfl rfl ?_
  refine ok_iload_n (q := 34) 2 dX10_sow_33 rfl rfl rfl ?_
  refine ok_icmp_ge (q := 58) (q2 := 37) dX10_sow_34 rfl rfl ?_ ?_
  · skip
    refine ok_iload (q := 60) 3 dX10_sow_58 rfl rfl ?_
    refine ok_iload (q := 62) 5 dX10_sow_60 rfl rfl ?_
    refine ok_iload_n (q := 63) 2 dX10_sow_62 rfl rfl rfl ?_
    refine fi_chk (fun h_1 => ?_)
    refine ok_imul (q := 64) dX10_sow_63 rfl h_1 ?_
    refine fi_chk (fun h_2 => ?_)
    refine ok_isub (q := 65) dX10_sow_64 rfl h_2 ?_
    refine ok_istoreL (q := 67) (fun x4_3 => [(4, qi x4_3), (0, qr a0), (2, qr a2), (3, qi x3), (5, qi x5), (6, qi x6), (7, qi x7)]) dX10_sow_65 rfl (Nat.le_of_ble_eq_true rfl) (fun _ => rfl) (fun x4_3 => ?_)
    exact fun g => ok_pick [1, 2, 0, 4] rfl (w_X10_sow_b67 (N := N) g)
  · skip
    refine ok_aload_n (q := 38) 1 dX10_sow_37 rfl rfl rfl ?_
    refine ok_iload (q := 40) 4 dX10_sow_38 rfl rfl ?_
    refine fi_chk (fun h_4 => ?_)
    refine fi_chk (fun h_5 => ?_)
    refine ok_iaload (q := 41) (v := I a2 x5) dX10_sow_40 rfl h_4 h_5.1 h_5.2 rfl ?_
    refine ok_istoreL (q := 43) (fun x5_6 => [(5, qi x5_6), (0, qr a0), (2, qr a2), (3, qi x3), (4, qi x4), (6, qi x6), (7, qi x7)]) dX10_sow_41 rfl (Nat.le_of_ble_eq_true rfl) (fun _ => rfl) (fun x5_6 => ?_)
    refine ok_aload_n (q := 44) 1 dX10_sow_43 rfl rfl rfl ?_
    refine ok_iload (q := 46) 0 dX10_sow_44 rfl rfl ?_
    refine ok_dup2 (q := 47) dX10_sow_46 rfl rfl rfl ?_
    refine fi_chk (fun h_7 => ?_)
    refine fi_chk (fun h_8 => ?_)
    refine ok_iaload (q := 48) (v := I a0 x5_6) dX10_sow_47 rfl h_7 h_8.1 h_8.2 rfl ?_
    refine ok_iload (q := 50) 5 dX10_sow_48 rfl rfl ?_
    refine fi_chk (fun h_9 => ?_)
    refine ok_iadd (q := 51) dX10_sow_50 rfl h_9 ?_
    refine fi_chk (fun h_10 => ?_)
    refine ok_iastore (q := 52) dX10_sow_51 rfl h_7 h_10 h_8.1 h_8.2 (fun I_11 => ?_)
    refine fi_chk (fun h_12 => ?_)
    refine ok_iincL (q := 55) (fun x7_13 => [(7, qi x7_13), (5, qi x5_6), (0, qr a0), (2, qr a2), (3, qi x3), (4, qi x4), (6, qi x6)]) 6 dX10_sow_52 rfl rfl h_12 (Nat.le_of_ble_eq_true rfl) (fun _ => rfl) (fun x7_13 => ?_)
    refine ok_goto (q := 31) dX10_sow_55 rfl ?_
    exact fun g => ok_pick [2, 3, 4, 5, 1, 6, 0] rfl (H31 _ _ _ _ _ _ _ _ g)
def X10_sow_h31 (N : Nat) (K : am_K) (F : am_F) : Nat → am_I → Nat → Nat → Int → Int → Int → Int → Int → Option (Int × am_I) := am_it (fun kh => X10_sow_s31 N K F kh) (fun _ _ _ _ _ _ _ _ => none)
theorem w_X10_sow_h31 {η : am_E} {l : Launch} {N : Nat} {n : Nat} {K : am_K} {F : am_F} {r0 : Int × am_I} (f : Nat) : ∀ (I : am_I) (a0 : Nat) (a2 : Nat) (x3 : Int) (x4 : Int) (x5 : Int) (x6 : Int) (x7 : Int), X10_sow_h31 N K F f I a0 a2 x3 x4 x5 x6 x7 = some r0 → Ok η l M_X10_sow (am_qm η (am_pS 1 r0 n K F) 0 0) 31 [(0, qr a0), (2, qr a2), (3, qi x3), (4, qi x4), (5, qi x5), (6, qi x6), (7, qi x7)] [] n K I F 0 0 := by
  induction f with
  | zero => intro I a0 a2 x3 x4 x5 x6 x7 g; exact fi_none g
  | succ f ih => intro I a0 a2 x3 x4 x5 x6 x7 g; exact w_X10_sow_s31 (N := N) ih g
def X10_sow (N : Nat) (K : am_K) (F : am_F) (I : am_I) (a0 : Nat) (x1 : Int) (a2 : Nat) (x3 : Int) : Option (Int × am_I) :=
  if (K a0).1 = 100 then if (0 : Int) ≤ x1 ∧ x1 < (K a0).2 then am_lt (I a0 x1) (fun x4_3 => if a0 ≠ 1 then am_lt (am_u2 I a0 x1 0) (fun I_5 => if 0 < x3 then (if x3 ≤ x4_3 then (if x3 ≠ (0 : Int) then am_lt (am_idiv x4_3 x3) (fun x6_7 => X10_sow_h31 N K F N I_5 a0 a2 x3 x4_3 x1 x6_7 0) else none) else (X10_sow_b67 N K F I_5 a0 a2 x4_3 x1)) else (X10_sow_b67 N K F I_5 a0 a2 x4_3 x1)) else none) else none else none
theorem w_X10_sow {η : am_E} {l : Launch} {N : Nat} {n : Nat} {K : am_K} {I : am_I} {F : am_F} {r0 : Int × am_I} {a0 : Nat} {x1 : Int} {a2 : Nat} {x3 : Int} : X10_sow N K F I a0 x1 a2 x3 = some r0 → Ok η l M_X10_sow (am_qm η (am_pS 1 r0 n K F) 0 0) 0 [(0, qr a0), (1, qi x1), (2, qr a2), (3, qi x3)] [] n K I F 0 0 := by
  unfold X10_sow
  refine ok_aload_n (q := 1) 0 dX10_sow_0 rfl rfl rfl ?_
  refine ok_iload_n (q := 2) 1 dX10_sow_1 rfl rfl rfl ?_
  refine fi_chk (fun h_1 => ?_)
  refine fi_chk (fun h_2 => ?_)
  refine ok_iaload (q := 3) (v := I a0 x1) dX10_sow_2 rfl h_1 h_2.1 h_2.2 rfl ?_
  refine ok_istoreL (q := 5) (fun x4_3 => [(4, qi x4_3), (0, qr a0), (1, qi x1), (2, qr a2), (3, qi x3)]) dX10_sow_3 rfl (Nat.le_of_ble_eq_true rfl) (fun _ => rfl) (fun x4_3 => ?_)
  refine ok_iload_n (q := 6) 2 dX10_sow_5 rfl rfl rfl ?_
  refine ok_istore (q := 8) (ls' := [(5, qi x1), (4, qi x4_3), (0, qr a0), (1, qi x1), (2, qr a2), (3, qi x3)]) dX10_sow_6 rfl (Nat.le_of_ble_eq_true rfl) rfl ?_
  refine ok_aload_n (q := 9) 2 dX10_sow_8 rfl rfl rfl ?_
  refine ok_iload_n (q := 10) 3 dX10_sow_9 rfl rfl rfl ?_
  refine ok_iconst (q := 11) (x := 0) dX10_sow_10 rfl rfl (by decide) ?_
  refine fi_chk (fun h_4 => ?_)
  refine ok_iastore (q := 12) dX10_sow_11 rfl h_1 h_4 h_2.1 h_2.2 (fun I_5 => ?_)
  refine ok_iload_n (q := 13) 5 dX10_sow_12 rfl rfl rfl ?_
  refine ok_if_le (q := 67) (q2 := 16) dX10_sow_13 rfl rfl ?_ ?_
  · skip
    exact fun g => ok_pick [2, 4, 1, 0] rfl (w_X10_sow_b67 (N := N) g)
  · skip
    refine ok_iload (q := 18) 1 dX10_sow_16 rfl rfl ?_
    refine ok_iload_n (q := 19) 5 dX10_sow_18 rfl rfl rfl ?_
    refine ok_icmp_lt (q := 67) (q2 := 22) dX10_sow_19 rfl rfl ?_ ?_
    · skip
      exact fun g => ok_pick [2, 4, 1, 0] rfl (w_X10_sow_b67 (N := N) g)
    · skip
      refine ok_iload (q := 24) 1 dX10_sow_22 rfl rfl ?_
      refine ok_iload_n (q := 25) 5 dX10_sow_24 rfl rfl rfl ?_
      refine fi_chk (fun h_6 => ?_)
      refine ok_idiv (q := 26) (r := am_idiv x4_3 x3) dX10_sow_25 rfl h_6 rfl ?_
      refine ok_istoreL (q := 28) (fun x6_7 => [(6, qi x6_7), (5, qi x1), (4, qi x4_3), (0, qr a0), (1, qi x1), (2, qr a2), (3, qi x3)]) dX10_sow_26 rfl (Nat.le_of_ble_eq_true rfl) (fun _ => rfl) (fun x6_7 => ?_)
      refine ok_iconst (q := 29) (x := 0) dX10_sow_28 rfl rfl (by decide) ?_
      refine ok_istore (q := 31) (ls' := [(7, qi 0), (6, qi x6_7), (5, qi x1), (4, qi x4_3), (0, qr a0), (1, qi x1), (2, qr a2), (3, qi x3)]) dX10_sow_29 rfl (Nat.le_of_ble_eq_true rfl) rfl ?_
      exact fun g => ok_pick [4, 6, 7, 3, 2, 1, 0] rfl (w_X10_sow_h31 (N := N) N _ _ _ _ _ _ _ _ g)
theorem ct_X10_sow {η : am_E} {l : Launch} {N : Nat} {n : Nat} {K : am_K} {I : am_I} {F : am_F} {r0 : Int × am_I} {a0 : Nat} {x1 : Int} {a2 : Nat} {x3 : Int} : X10_sow N K F I a0 x1 a2 x3 = some r0 → am_Ct η l yX10_sow cX10_sow 8 (some .int) 0 0 0 0 [qr a0, qi x1, qr a2, qi x3] n K I F (am_pS 1 r0 n K F) := fun g => am_Ct.of false (by decide) (by decide) (Nat.le_of_ble_eq_true rfl) (fun _ => w_X10_sow (N := N) g)
def M_X10_takeColumn : am_M := (yX10_takeColumn.cls, cX10_takeColumn, 6, (some .int), am_room 0 0 0 0, false)
def X10_takeColumn_b68 (N : Nat) (K : am_K) (F : am_F) (a0 : Nat) (k16 : am_I → Nat → Int → Int → Int → Int → Option (Int × am_I)) (I : am_I) (a1 : Nat) (x2 : Int) (x3 : Int) (x4 : Int) (x5 : Int) : Option (Int × am_I) :=
  if am_inI (x5 + 1) then am_lt (x5 + 1) (fun x5_2 => k16 I a1 x2 x3 x4 x5_2) else none
theorem w_X10_takeColumn_b68 {η : am_E} {l : Launch} {N : Nat} {n : Nat} {K : am_K} {I : am_I} {F : am_F} {a0 : Nat} {r0 : Int × am_I} {k16 : am_I → Nat → Int → Int → Int → Int → Option (Int × am_I)} {a1 : Nat} {x2 : Int} {x3 : Int} {x4 : Int} {x5 : Int} (h0 : (K a0).1 = 10) (H16 : ∀ (I : am_I) (a1 : Nat) (x2 : Int) (x3 : Int) (x4 : Int) (x5 : Int), k16 I a1 x2 x3 x4 x5 = some r0 → Ok η l M_X10_takeColumn (am_qm η (am_pS 1 r0 n K F) 0 0) 16 [(0, qr a0), (1, qr a1), (2, qi x2), (3, qi x3), (4, qi x4), (5, qi x5)] [] n K I F 0 0) : X10_takeColumn_b68 N K F a0 k16 I a1 x2 x3 x4 x5 = some r0 → Ok η l M_X10_takeColumn (am_qm η (am_pS 1 r0 n K F) 0 0) 68 [(0, qr a0), (1, qr a1), (2, qi x2), (3, qi x3), (4, qi x4), (5, qi x5)] [] n K I F 0 0 := by
  unfold X10_takeColumn_b68
  refine fi_chk (fun h_1 => ?_)
  refine ok_iincL (q := 71) (fun x5_2 => [(5, qi x5_2), (0, qr a0), (1, qr a1), (2, qi x2), (3, qi x3), (4, qi x4)]) 5 dX10_takeColumn_68 rfl rfl h_1 (Nat.le_of_ble_eq_true rfl) (fun _ => rfl) (fun x5_2 => ?_)
  refine ok_goto (q := 16) dX10_takeColumn_71 rfl ?_
  exact fun g => ok_pick [1, 2, 3, 4, 5, 0] rfl (H16 _ _ _ _ _ _ g)
def X10_takeColumn_s16 (N : Nat) (K : am_K) (F : am_F) (a0 : Nat) (k16 : am_I → Nat → Int → Int → Int → Int → Option (Int × am_I)) (I : am_I) (a1 : Nat) (x2 : Int) (x3 : Int) (x4 : Int) (x5 : Int) : Option (Int × am_I) :=
  if (K (F a0 5)).1 = 1 then if am_inI (1 - x2) then if (K (F (F a0 5) 8)).1 = 100 then if (0 : Int) ≤ (1 - x2) ∧ (1 - x2) < (K (F (F a0 5) 8)).2 then if x5 < (I (F (F a0 5) 8) (1 - x2)) then (if (K (F (F a0 5) 10)).1 = 100 then if (0 : Int) ≤ x5 ∧ x5 < (K (F (F a0 5) 10)).2 then if (0 : Int) ≤ x3 ∧ x3 < (K (F (F a0 5) 10)).2 then if (I (F (F a0 5) 10) x5) = (I (F (F a0 5) 10) x3) then (if (K a1).1 = 100 then if (0 : Int) ≤ x5 ∧ x5 < (K a1).2 then if am_inI (x4 + (I a1 x5)) then am_lt (x4 + (I a1 x5)) (fun x4_11 => if a1 ≠ 1 then am_lt (am_u2 I a1 x5 0) (fun I_13 => X10_takeColumn_b68 N K F a0 k16 I_13 a1 x2 x3 x4_11 x5) else none) else none else none else none) else (X10_takeColumn_b68 N K F a0 k16 I a1 x2 x3 x4 x5) else none else none else none) else (some (x4, I)) else none else none else none else none
theorem w_X10_takeColumn_s16 {η : am_E} {l : Launch} {N : Nat} {n : Nat} {K : am_K} {I : am_I} {F : am_F} {a0 : Nat} {r0 : Int × am_I} {k16 : am_I → Nat → Int → Int → Int → Int → Option (Int × am_I)} {a1 : Nat} {x2 : Int} {x3 : Int} {x4 : Int} {x5 : Int} (h0 : (K a0).1 = 10) (H16 : ∀ (I : am_I) (a1 : Nat) (x2 : Int) (x3 : Int) (x4 : Int) (x5 : Int), k16 I a1 x2 x3 x4 x5 = some r0 → Ok η l M_X10_takeColumn (am_qm η (am_pS 1 r0 n K F) 0 0) 16 [(0, qr a0), (1, qr a1), (2, qi x2), (3, qi x3), (4, qi x4), (5, qi x5)] [] n K I F 0 0) : X10_takeColumn_s16 N K F a0 k16 I a1 x2 x3 x4 x5 = some r0 → Ok η l M_X10_takeColumn (am_qm η (am_pS 1 r0 n K F) 0 0) 16 [(0, qr a0), (1, qr a1), (2, qi x2), (3, qi x3), (4, qi x4), (5, qi x5)] [] n K I F 0 0 := by
  unfold X10_takeColumn_s16
  refine ok_iload (q := 18) 5 dX10_takeColumn_16 rfl rfl ?_
  refine ok_aload_n (q := 19) 0 dX10_takeColumn_18 rfl rfl rfl ?_
  refine ok_getR (q := 22) (ci := 10) (k := 5) (x := F a0 5) dX10_takeColumn_19 rfl fo_X10_27 h0 rfl ?_
  refine fi_chk (fun h_1 => ?_)
  refine ok_getR (q := 25) (ci := 1) (k := 8) (x := F (F a0 5) 8) dX10_takeColumn_22 rfl fo_X10_121 h_1 rfl ?_
  refine ok_iconst (q := 26) (x := 1) dX10_takeColumn_25 rfl rfl (by decide) ?_
  refine ok_iload_n (q := 27) 2 dX10_takeColumn_26 rfl rfl rfl ?_
  refine fi_chk (fun h_2 => ?_)
  refine ok_isub (q := 28) dX10_takeColumn_27 rfl h_2 ?_
  refine fi_chk (fun h_3 => ?_)
  refine fi_chk (fun h_4 => ?_)
  refine ok_iaload (q := 29) (v := I (F (F a0 5) 8) (1 - x2)) dX10_takeColumn_28 rfl h_3 h_4.1 h_4.2 rfl ?_
  refine ok_icmp_ge (q := 74) (q2 := 32) dX10_takeColumn_29 rfl rfl ?_ ?_
  · skip
    refine ok_iload (q := 76) 4 dX10_takeColumn_74 rfl rfl ?_
    exact fi_ireturnS dX10_takeColumn_76 rfl
  · skip
    refine ok_aload_n (q := 33) 0 dX10_takeColumn_32 rfl rfl rfl ?_
    refine ok_getR (q := 36) (ci := 10) (k := 5) (x := F a0 5) dX10_takeColumn_33 rfl fo_X10_27 h0 rfl ?_
    refine ok_getR (q := 39) (ci := 1) (k := 10) (x := F (F a0 5) 10) dX10_takeColumn_36 rfl fo_X10_124 h_1 rfl ?_
    refine ok_iload (q := 41) 5 dX10_takeColumn_39 rfl rfl ?_
    refine fi_chk (fun h_5 => ?_)
    refine fi_chk (fun h_6 => ?_)
    refine ok_iaload (q := 42) (v := I (F (F a0 5) 10) x5) dX10_takeColumn_41 rfl h_5 h_6.1 h_6.2 rfl ?_
    refine ok_aload_n (q := 43) 0 dX10_takeColumn_42 rfl rfl rfl ?_
    refine ok_getR (q := 46) (ci := 10) (k := 5) (x := F a0 5) dX10_takeColumn_43 rfl fo_X10_27 h0 rfl ?_
    refine ok_getR (q := 49) (ci := 1) (k := 10) (x := F (F a0 5) 10) dX10_takeColumn_46 rfl fo_X10_124 h_1 rfl ?_
    refine ok_iload_n (q := 50) 3 dX10_takeColumn_49 rfl rfl rfl ?_
    refine fi_chk (fun h_7 => ?_)
    refine ok_iaload (q := 51) (v := I (F (F a0 5) 10) x3) dX10_takeColumn_50 rfl h_5 h_7.1 h_7.2 rfl ?_
    refine ok_icmp_ne (q := 68) (q2 := 54) dX10_takeColumn_51 rfl rfl ?_ ?_
    · skip
      exact fun g => ok_pick [0, 1, 2, 3, 4, 5] rfl (w_X10_takeColumn_b68 (N := N) h0 H16 g)
    · skip
      refine ok_iload (q := 56) 4 dX10_takeColumn_54 rfl rfl ?_
      refine ok_aload_n (q := 57) 1 dX10_takeColumn_56 rfl rfl rfl ?_
      refine ok_iload (q := 59) 5 dX10_takeColumn_57 rfl rfl ?_
      refine fi_chk (fun h_8 => ?_)
      refine fi_chk (fun h_9 => ?_)
      refine ok_iaload (q := 60) (v := I a1 x5) dX10_takeColumn_59 rfl h_8 h_9.1 h_9.2 rfl ?_
      refine fi_chk (fun h_10 => ?_)
      refine ok_iadd (q := 61) dX10_takeColumn_60 rfl h_10 ?_
      refine ok_istoreL (q := 63) (fun x4_11 => [(4, qi x4_11), (0, qr a0), (1, qr a1), (2, qi x2), (3, qi x3), (5, qi x5)]) dX10_takeColumn_61 rfl (Nat.le_of_ble_eq_true rfl) (fun _ => rfl) (fun x4_11 => ?_)
      refine ok_aload_n (q := 64) 2 dX10_takeColumn_63 rfl rfl rfl ?_
      refine ok_iload (q := 66) 5 dX10_takeColumn_64 rfl rfl ?_
      refine ok_iconst (q := 67) (x := 0) dX10_takeColumn_66 rfl rfl (by decide) ?_
      refine fi_chk (fun h_12 => ?_)
      refine ok_iastore (q := 68) dX10_takeColumn_67 rfl h_8 h_12 h_9.1 h_9.2 (fun I_13 => ?_)
      exact fun g => ok_pick [1, 2, 3, 4, 0, 5] rfl (w_X10_takeColumn_b68 (N := N) h0 H16 g)
def X10_takeColumn_h16 (N : Nat) (K : am_K) (F : am_F) (a0 : Nat) : Nat → am_I → Nat → Int → Int → Int → Int → Option (Int × am_I) := am_it (fun kh => X10_takeColumn_s16 N K F a0 kh) (fun _ _ _ _ _ _ => none)
theorem w_X10_takeColumn_h16 {η : am_E} {l : Launch} {N : Nat} {n : Nat} {K : am_K} {F : am_F} {a0 : Nat} {r0 : Int × am_I} (h0 : (K a0).1 = 10) (f : Nat) : ∀ (I : am_I) (a1 : Nat) (x2 : Int) (x3 : Int) (x4 : Int) (x5 : Int), X10_takeColumn_h16 N K F a0 f I a1 x2 x3 x4 x5 = some r0 → Ok η l M_X10_takeColumn (am_qm η (am_pS 1 r0 n K F) 0 0) 16 [(0, qr a0), (1, qr a1), (2, qi x2), (3, qi x3), (4, qi x4), (5, qi x5)] [] n K I F 0 0 := by
  induction f with
  | zero => intro I a1 x2 x3 x4 x5 g; exact fi_none g
  | succ f ih => intro I a1 x2 x3 x4 x5 g; exact w_X10_takeColumn_s16 (N := N) h0 ih g
def X10_takeColumn (N : Nat) (K : am_K) (F : am_F) (a0 : Nat) (I : am_I) (a1 : Nat) (x2 : Int) (x3 : Int) : Option (Int × am_I) :=
  if (K (F a0 5)).1 = 1 then if am_inI (1 - x2) then if (K (F (F a0 5) 7)).1 = 100 then if (0 : Int) ≤ (1 - x2) ∧ (1 - x2) < (K (F (F a0 5) 7)).2 then am_lt (I (F (F a0 5) 7) (1 - x2)) (fun x5_5 => X10_takeColumn_h16 N K F a0 N I a1 x2 x3 0 x5_5) else none else none else none else none
theorem w_X10_takeColumn {η : am_E} {l : Launch} {N : Nat} {n : Nat} {K : am_K} {I : am_I} {F : am_F} {a0 : Nat} {r0 : Int × am_I} {a1 : Nat} {x2 : Int} {x3 : Int} (h0 : (K a0).1 = 10) : X10_takeColumn N K F a0 I a1 x2 x3 = some r0 → Ok η l M_X10_takeColumn (am_qm η (am_pS 1 r0 n K F) 0 0) 0 [(0, qr a0), (1, qr a1), (2, qi x2), (3, qi x3)] [] n K I F 0 0 := by
  unfold X10_takeColumn
  refine ok_iconst (q := 1) (x := 0) dX10_takeColumn_0 rfl rfl (by decide) ?_
  refine ok_istore (q := 3) (ls' := [(4, qi 0), (0, qr a0), (1, qr a1), (2, qi x2), (3, qi x3)]) dX10_takeColumn_1 rfl (Nat.le_of_ble_eq_true rfl) rfl ?_
  refine ok_aload_n (q := 4) 1 dX10_takeColumn_3 rfl rfl rfl ?_
  refine ok_getR (q := 7) (ci := 10) (k := 5) (x := F a0 5) dX10_takeColumn_4 rfl fo_X10_27 h0 rfl ?_
  refine fi_chk (fun h_1 => ?_)
  refine ok_getR (q := 10) (ci := 1) (k := 7) (x := F (F a0 5) 7) dX10_takeColumn_7 rfl fo_X10_118 h_1 rfl ?_
  refine ok_iconst (q := 11) (x := 1) dX10_takeColumn_10 rfl rfl (by decide) ?_
  refine ok_iload_n (q := 12) 3 dX10_takeColumn_11 rfl rfl rfl ?_
  refine fi_chk (fun h_2 => ?_)
  refine ok_isub (q := 13) dX10_takeColumn_12 rfl h_2 ?_
  refine fi_chk (fun h_3 => ?_)
  refine fi_chk (fun h_4 => ?_)
  refine ok_iaload (q := 14) (v := I (F (F a0 5) 7) (1 - x2)) dX10_takeColumn_13 rfl h_3 h_4.1 h_4.2 rfl ?_
  refine ok_istoreL (q := 16) (fun x5_5 => [(5, qi x5_5), (4, qi 0), (0, qr a0), (1, qr a1), (2, qi x2), (3, qi x3)]) dX10_takeColumn_14 rfl (Nat.le_of_ble_eq_true rfl) (fun _ => rfl) (fun x5_5 => ?_)
  exact fun g => ok_pick [2, 3, 4, 5, 1, 0] rfl (w_X10_takeColumn_h16 (N := N) h0 N _ _ _ _ _ _ g)
theorem ct_X10_takeColumn {η : am_E} {l : Launch} {N : Nat} {n : Nat} {K : am_K} {I : am_I} {F : am_F} {a0 : Nat} {r0 : Int × am_I} {a1 : Nat} {x2 : Int} {x3 : Int} (h0 : (K a0).1 = 10) : X10_takeColumn N K F a0 I a1 x2 x3 = some r0 → am_Ct η l yX10_takeColumn cX10_takeColumn 6 (some .int) 0 0 0 0 [qr a0, qr a1, qi x2, qi x3] n K I F (am_pS 1 r0 n K F) := fun g => am_Ct.of false (by decide) (by decide) (Nat.le_of_ble_eq_true rfl) (fun _ => w_X10_takeColumn (N := N) h0 g)
def M_X10_takeChain : am_M := (yX10_takeChain.cls, cX10_takeChain, 7, (some .int), am_room 0 0 0 0, false)
def X10_takeChain_b63 (N : Nat) (K : am_K) (F : am_F) (a0 : Nat) (I : am_I) (x4 : Int) : Option (Int × am_I) :=
  some (x4, I)
theorem w_X10_takeChain_b63 {η : am_E} {l : Launch} {N : Nat} {n : Nat} {K : am_K} {I : am_I} {F : am_F} {a0 : Nat} {r0 : Int × am_I} {x4 : Int} (h0 : (K a0).1 = 10) : X10_takeChain_b63 N K F a0 I x4 = some r0 → Ok η l M_X10_takeChain (am_qm η (am_pS 1 r0 n K F) 0 0) 63 [(0, qr a0), (4, qi x4)] [] n K I F 0 0 := by
  unfold X10_takeChain_b63
  refine ok_iload (q := 65) 1 dX10_takeChain_63 rfl rfl ?_
  exact fi_ireturnS dX10_takeChain_65 rfl
def X10_takeChain_s9 (N : Nat) (K : am_K) (F : am_F) (a0 : Nat) (k9 : am_I → Nat → Int → Int → Int → Int → Option (Int × am_I)) (I : am_I) (a1 : Nat) (x2 : Int) (x4 : Int) (x5 : Int) (x6 : Int) : Option (Int × am_I) :=
  if (K (F a0 5)).1 = 1 then if x6 < (I (F a0 5) 3) then (if (K (F (F a0 5) 9)).1 = 100 then if (0 : Int) ≤ x5 ∧ x5 < (K (F (F a0 5) 9)).2 then if (I (F (F a0 5) 9) x5) = x2 then (X10_takeChain_b63 N K F a0 I x4) else (if (K a1).1 = 100 then if (0 : Int) ≤ x5 ∧ x5 < (K a1).2 then if (K (F a0 6)).1 = 8 then if (I (F a0 6) 2) ≤ (I a1 x5) then (if (I (F a0 6) 3) < (I a1 x5) then (X10_takeChain_b63 N K F a0 I x4) else (if am_inI (x4 + (I a1 x5)) then am_lt (x4 + (I a1 x5)) (fun x4_8 => if a1 ≠ 1 then am_lt (am_u2 I a1 x5 0) (fun I_10 => if (K (F (F a0 5) 12)).1 = 100 then if (0 : Int) ≤ x5 ∧ x5 < (K (F (F a0 5) 12)).2 then am_lt (I_10 (F (F a0 5) 12) x5) (fun x5_13 => if am_inI (x6 + 1) then am_lt (x6 + 1) (fun x6_15 => k9 I_10 a1 x2 x4_8 x5_13 x6_15) else none) else none else none) else none) else none)) else (X10_takeChain_b63 N K F a0 I x4) else none else none else none) else none else none) else (some (x4, I)) else none
theorem w_X10_takeChain_s9 {η : am_E} {l : Launch} {N : Nat} {n : Nat} {K : am_K} {I : am_I} {F : am_F} {a0 : Nat} {r0 : Int × am_I} {k9 : am_I → Nat → Int → Int → Int → Int → Option (Int × am_I)} {a1 : Nat} {x2 : Int} {x4 : Int} {x5 : Int} {x6 : Int} (h0 : (K a0).1 = 10) (H9 : ∀ (I : am_I) (a1 : Nat) (x2 : Int) (x4 : Int) (x5 : Int) (x6 : Int), k9 I a1 x2 x4 x5 x6 = some r0 → Ok η l M_X10_takeChain (am_qm η (am_pS 1 r0 n K F) 0 0) 9 [(0, qr a0), (1, qr a1), (2, qi x2), (4, qi x4), (5, qi x5), (6, qi x6)] [] n K I F 0 0) : X10_takeChain_s9 N K F a0 k9 I a1 x2 x4 x5 x6 = some r0 → Ok η l M_X10_takeChain (am_qm η (am_pS 1 r0 n K F) 0 0) 9 [(0, qr a0), (1, qr a1), (2, qi x2), (4, qi x4), (5, qi x5), (6, qi x6)] [] n K I F 0 0 := by
  unfold X10_takeChain_s9
  refine ok_iload (q := 11) 5 dX10_takeChain_9 rfl rfl ?_
  refine ok_aload_n (q := 12) 0 dX10_takeChain_11 rfl rfl rfl ?_
  refine ok_getR (q := 15) (ci := 10) (k := 5) (x := F a0 5) dX10_takeChain_12 rfl fo_X10_27 h0 rfl ?_
  refine fi_chk (fun h_1 => ?_)
  refine ok_getI (q := 18) (ci := 1) (k := 3) (x := I (F a0 5) 3) dX10_takeChain_15 rfl fo_X10_99 h_1 rfl ?_
  refine ok_icmp_ge (q := 98) (q2 := 21) dX10_takeChain_18 rfl rfl ?_ ?_
  · skip
    refine ok_iload (q := 100) 3 dX10_takeChain_98 rfl rfl ?_
    exact fi_ireturnS dX10_takeChain_100 rfl
  · skip
    refine ok_aload_n (q := 22) 0 dX10_takeChain_21 rfl rfl rfl ?_
    refine ok_getR (q := 25) (ci := 10) (k := 5) (x := F a0 5) dX10_takeChain_22 rfl fo_X10_27 h0 rfl ?_
    refine ok_getR (q := 28) (ci := 1) (k := 9) (x := F (F a0 5) 9) dX10_takeChain_25 rfl fo_X10_58 h_1 rfl ?_
    refine ok_iload (q := 30) 4 dX10_takeChain_28 rfl rfl ?_
    refine fi_chk (fun h_2 => ?_)
    refine fi_chk (fun h_3 => ?_)
    refine ok_iaload (q := 31) (v := I (F (F a0 5) 9) x5) dX10_takeChain_30 rfl h_2 h_3.1 h_3.2 rfl ?_
    refine ok_iload_n (q := 32) 2 dX10_takeChain_31 rfl rfl rfl ?_
    refine ok_icmp_eq (q := 63) (q2 := 35) dX10_takeChain_32 rfl rfl ?_ ?_
    · skip
      exact fun g => ok_pick [0, 3] rfl (w_X10_takeChain_b63 (N := N) h0 g)
    · skip
      refine ok_aload_n (q := 36) 1 dX10_takeChain_35 rfl rfl rfl ?_
      refine ok_iload (q := 38) 4 dX10_takeChain_36 rfl rfl ?_
      refine fi_chk (fun h_4 => ?_)
      refine fi_chk (fun h_5 => ?_)
      refine ok_iaload (q := 39) (v := I a1 x5) dX10_takeChain_38 rfl h_4 h_5.1 h_5.2 rfl ?_
      refine ok_aload_n (q := 40) 0 dX10_takeChain_39 rfl rfl rfl ?_
      refine ok_getR (q := 43) (ci := 10) (k := 6) (x := F a0 6) dX10_takeChain_40 rfl fo_X10_31 h0 rfl ?_
      refine fi_chk (fun h_6 => ?_)
      refine ok_getI (q := 46) (ci := 8) (k := 2) (x := I (F a0 6) 2) dX10_takeChain_43 rfl fo_X10_127 h_6 rfl ?_
      refine ok_icmp_lt (q := 63) (q2 := 49) dX10_takeChain_46 rfl rfl ?_ ?_
      · skip
        exact fun g => ok_pick [0, 3] rfl (w_X10_takeChain_b63 (N := N) h0 g)
      · skip
        refine ok_aload_n (q := 50) 1 dX10_takeChain_49 rfl rfl rfl ?_
        refine ok_iload (q := 52) 4 dX10_takeChain_50 rfl rfl ?_
        refine ok_iaload (q := 53) (v := I a1 x5) dX10_takeChain_52 rfl h_4 h_5.1 h_5.2 rfl ?_
        refine ok_aload_n (q := 54) 0 dX10_takeChain_53 rfl rfl rfl ?_
        refine ok_getR (q := 57) (ci := 10) (k := 6) (x := F a0 6) dX10_takeChain_54 rfl fo_X10_31 h0 rfl ?_
        refine ok_getI (q := 60) (ci := 8) (k := 3) (x := I (F a0 6) 3) dX10_takeChain_57 rfl fo_X10_130 h_6 rfl ?_
        refine ok_icmp_le (q := 66) (q2 := 63) dX10_takeChain_60 rfl rfl ?_ ?_
        · skip
          refine ok_iload (q := 68) 3 dX10_takeChain_66 rfl rfl ?_
          refine ok_aload_n (q := 69) 1 dX10_takeChain_68 rfl rfl rfl ?_
          refine ok_iload (q := 71) 4 dX10_takeChain_69 rfl rfl ?_
          refine ok_iaload (q := 72) (v := I a1 x5) dX10_takeChain_71 rfl h_4 h_5.1 h_5.2 rfl ?_
          refine fi_chk (fun h_7 => ?_)
          refine ok_iadd (q := 73) dX10_takeChain_72 rfl h_7 ?_
          refine ok_istoreL (q := 75) (fun x4_8 => [(4, qi x4_8), (0, qr a0), (1, qr a1), (2, qi x2), (5, qi x5), (6, qi x6)]) dX10_takeChain_73 rfl (Nat.le_of_ble_eq_true rfl) (fun _ => rfl) (fun x4_8 => ?_)
          refine ok_aload_n (q := 76) 2 dX10_takeChain_75 rfl rfl rfl ?_
          refine ok_iload (q := 78) 4 dX10_takeChain_76 rfl rfl ?_
          refine ok_iconst (q := 79) (x := 0) dX10_takeChain_78 rfl rfl (by decide) ?_
          refine fi_chk (fun h_9 => ?_)
          refine ok_iastore (q := 80) dX10_takeChain_79 rfl h_4 h_9 h_5.1 h_5.2 (fun I_10 => ?_)
          refine ok_aload_n (q := 81) 1 dX10_takeChain_80 rfl rfl rfl ?_
          refine ok_getR (q := 84) (ci := 10) (k := 5) (x := F a0 5) dX10_takeChain_81 rfl fo_X10_27 h0 rfl ?_
          refine ok_getR (q := 87) (ci := 1) (k := 12) (x := F (F a0 5) 12) dX10_takeChain_84 rfl fo_X10_133 h_1 rfl ?_
          refine ok_iload (q := 89) 4 dX10_takeChain_87 rfl rfl ?_
          refine fi_chk (fun h_11 => ?_)
          refine fi_chk (fun h_12 => ?_)
          refine ok_iaload (q := 90) (v := I_10 (F (F a0 5) 12) x5) dX10_takeChain_89 rfl h_11 h_12.1 h_12.2 rfl ?_
          refine ok_istoreL (q := 92) (fun x5_13 => [(5, qi x5_13), (4, qi x4_8), (0, qr a0), (1, qr a1), (2, qi x2), (6, qi x6)]) dX10_takeChain_90 rfl (Nat.le_of_ble_eq_true rfl) (fun _ => rfl) (fun x5_13 => ?_)
          refine fi_chk (fun h_14 => ?_)
          refine ok_iincL (q := 95) (fun x6_15 => [(6, qi x6_15), (5, qi x5_13), (4, qi x4_8), (0, qr a0), (1, qr a1), (2, qi x2)]) 5 dX10_takeChain_92 rfl rfl h_14 (Nat.le_of_ble_eq_true rfl) (fun _ => rfl) (fun x6_15 => ?_)
          refine ok_goto (q := 9) dX10_takeChain_95 rfl ?_
          exact fun g => ok_pick [3, 4, 5, 2, 1, 0] rfl (H9 _ _ _ _ _ _ g)
        · skip
          exact fun g => ok_pick [0, 3] rfl (w_X10_takeChain_b63 (N := N) h0 g)
def X10_takeChain_h9 (N : Nat) (K : am_K) (F : am_F) (a0 : Nat) : Nat → am_I → Nat → Int → Int → Int → Int → Option (Int × am_I) := am_it (fun kh => X10_takeChain_s9 N K F a0 kh) (fun _ _ _ _ _ _ => none)
theorem w_X10_takeChain_h9 {η : am_E} {l : Launch} {N : Nat} {n : Nat} {K : am_K} {F : am_F} {a0 : Nat} {r0 : Int × am_I} (h0 : (K a0).1 = 10) (f : Nat) : ∀ (I : am_I) (a1 : Nat) (x2 : Int) (x4 : Int) (x5 : Int) (x6 : Int), X10_takeChain_h9 N K F a0 f I a1 x2 x4 x5 x6 = some r0 → Ok η l M_X10_takeChain (am_qm η (am_pS 1 r0 n K F) 0 0) 9 [(0, qr a0), (1, qr a1), (2, qi x2), (4, qi x4), (5, qi x5), (6, qi x6)] [] n K I F 0 0 := by
  induction f with
  | zero => intro I a1 x2 x4 x5 x6 g; exact fi_none g
  | succ f ih => intro I a1 x2 x4 x5 x6 g; exact w_X10_takeChain_s9 (N := N) h0 ih g
def X10_takeChain (N : Nat) (K : am_K) (F : am_F) (a0 : Nat) (I : am_I) (a1 : Nat) (x2 : Int) (x3 : Int) : Option (Int × am_I) :=
  X10_takeChain_h9 N K F a0 N I a1 x2 0 x3 0
theorem w_X10_takeChain {η : am_E} {l : Launch} {N : Nat} {n : Nat} {K : am_K} {I : am_I} {F : am_F} {a0 : Nat} {r0 : Int × am_I} {a1 : Nat} {x2 : Int} {x3 : Int} (h0 : (K a0).1 = 10) : X10_takeChain N K F a0 I a1 x2 x3 = some r0 → Ok η l M_X10_takeChain (am_qm η (am_pS 1 r0 n K F) 0 0) 0 [(0, qr a0), (1, qr a1), (2, qi x2), (3, qi x3)] [] n K I F 0 0 := by
  unfold X10_takeChain
  refine ok_iconst (q := 1) (x := 0) dX10_takeChain_0 rfl rfl (by decide) ?_
  refine ok_istore (q := 3) (ls' := [(4, qi 0), (0, qr a0), (1, qr a1), (2, qi x2), (3, qi x3)]) dX10_takeChain_1 rfl (Nat.le_of_ble_eq_true rfl) rfl ?_
  refine ok_iload_n (q := 4) 4 dX10_takeChain_3 rfl rfl rfl ?_
  refine ok_istore (q := 6) (ls' := [(5, qi x3), (4, qi 0), (0, qr a0), (1, qr a1), (2, qi x2), (3, qi x3)]) dX10_takeChain_4 rfl (Nat.le_of_ble_eq_true rfl) rfl ?_
  refine ok_iconst (q := 7) (x := 0) dX10_takeChain_6 rfl rfl (by decide) ?_
  refine ok_istore (q := 9) (ls' := [(6, qi 0), (5, qi x3), (4, qi 0), (0, qr a0), (1, qr a1), (2, qi x2), (3, qi x3)]) dX10_takeChain_7 rfl (Nat.le_of_ble_eq_true rfl) rfl ?_
  exact fun g => ok_pick [3, 4, 5, 2, 1, 0] rfl (w_X10_takeChain_h9 (N := N) h0 N _ _ _ _ _ _ g)
theorem ct_X10_takeChain {η : am_E} {l : Launch} {N : Nat} {n : Nat} {K : am_K} {I : am_I} {F : am_F} {a0 : Nat} {r0 : Int × am_I} {a1 : Nat} {x2 : Int} {x3 : Int} (h0 : (K a0).1 = 10) : X10_takeChain N K F a0 I a1 x2 x3 = some r0 → am_Ct η l yX10_takeChain cX10_takeChain 7 (some .int) 0 0 0 0 [qr a0, qr a1, qi x2, qi x3] n K I F (am_pS 1 r0 n K F) := fun g => am_Ct.of false (by decide) (by decide) (Nat.le_of_ble_eq_true rfl) (fun _ => w_X10_takeChain (N := N) h0 g)
def M_X10_takeBehind : am_M := (yX10_takeBehind.cls, cX10_takeBehind, 4, (some .int), am_room 1 26 0 0, false)
def X10_takeBehind_b56 (N : Nat) (K : am_K) (F : am_F) (a0 : Nat) (I : am_I) (s0 : Int) : Option (Int × am_I) :=
  some (s0, I)
theorem w_X10_takeBehind_b56 {η : am_E} {l : Launch} {N : Nat} {n : Nat} {K : am_K} {I : am_I} {F : am_F} {a0 : Nat} {r0 : Int × am_I} {s0 : Int} (h0 : (K a0).1 = 10) : X10_takeBehind_b56 N K F a0 I s0 = some r0 → Ok η l M_X10_takeBehind (am_qm η (am_pS 1 r0 n K F) 0 0) 56 [(0, qr a0)] [qi s0] n K I F 0 0 := by
  unfold X10_takeBehind_b56
  exact fi_ireturnS dX10_takeBehind_56 rfl
def X10_takeBehind_b83 (N : Nat) (K : am_K) (F : am_F) (a0 : Nat) (I : am_I) (s0 : Int) : Option (Int × am_I) :=
  some (s0, I)
theorem w_X10_takeBehind_b83 {η : am_E} {l : Launch} {N : Nat} {n : Nat} {K : am_K} {I : am_I} {F : am_F} {a0 : Nat} {r0 : Int × am_I} {s0 : Int} (h0 : (K a0).1 = 10) : X10_takeBehind_b83 N K F a0 I s0 = some r0 → Ok η l M_X10_takeBehind (am_qm η (am_pS 1 r0 n K F) 0 0) 83 [(0, qr a0)] [qi s0] n K I F 0 0 := by
  unfold X10_takeBehind_b83
  exact fi_ireturnS dX10_takeBehind_83 rfl
def X10_takeBehind (N : Nat) (K : am_K) (F : am_F) (a0 : Nat) (I : am_I) (a1 : Nat) (x2 : Int) (x3 : Int) : Option (Int × am_I) :=
  if (K (F a0 6)).1 = 8 then if (I (F a0 6) 0) = 1 then (if (K (F a0 5)).1 = 1 then if (K (F (F a0 5) 9)).1 = 100 then if (0 : Int) ≤ x3 ∧ x3 < (K (F (F a0 5) 9)).2 then if (I (F (F a0 5) 9) x3) = x2 then (am_cl (X10_takeColumn N K F a0 I a1 x2 x3) (fun v_6 I_7 => X10_takeBehind_b56 N K F a0 I_7 v_6)) else (X10_takeBehind_b56 N K F a0 I 0) else none else none else none) else (if (I (F a0 6) 0) = 2 then (am_cl (X10_takeChain N K F a0 I a1 x2 x3) (fun v_9 I_10 => some (v_9, I_10))) else (if (I (F a0 6) 0) = 3 then (if (K a1).1 = 100 then if (0 : Int) ≤ x3 ∧ x3 < (K a1).2 then if (I a1 x3) = 1 then (am_cl (X10_takeColumn N K F a0 I a1 x2 x3) (fun v_14 I_15 => X10_takeBehind_b83 N K F a0 I_15 v_14)) else (X10_takeBehind_b83 N K F a0 I 0) else none else none) else (some (0, I)))) else none
theorem w_X10_takeBehind {η : am_E} {l : Launch} {N : Nat} {n : Nat} {K : am_K} {I : am_I} {F : am_F} {a0 : Nat} {r0 : Int × am_I} {a1 : Nat} {x2 : Int} {x3 : Int} (h0 : (K a0).1 = 10) : X10_takeBehind N K F a0 I a1 x2 x3 = some r0 → Ok η l M_X10_takeBehind (am_qm η (am_pS 1 r0 n K F) 0 0) 0 [(0, qr a0), (1, qr a1), (2, qi x2), (3, qi x3)] [] n K I F 0 0 := by
  unfold X10_takeBehind
  refine ok_aload_n (q := 1) 0 dX10_takeBehind_0 rfl rfl rfl ?_
  refine ok_getR (q := 4) (ci := 10) (k := 6) (x := F a0 6) dX10_takeBehind_1 rfl fo_X10_31 h0 rfl ?_
  refine fi_chk (fun h_1 => ?_)
  refine ok_getI (q := 7) (ci := 8) (k := 0) (x := I (F a0 6) 0) dX10_takeBehind_4 rfl fo_X10_87 h_1 rfl ?_
  refine fi_eqd (fun h_2 => ?_) (fun h_2 => ?_)
  · skip
    refine ok_table_in (q := 32) dX10_takeBehind_7 (by omega) (by omega) (by rw [h_2]; rfl) rfl ?_
    refine ok_aload_n (q := 33) 0 dX10_takeBehind_32 rfl rfl rfl ?_
    refine ok_getR (q := 36) (ci := 10) (k := 5) (x := F a0 5) dX10_takeBehind_33 rfl fo_X10_27 h0 rfl ?_
    refine fi_chk (fun h_3 => ?_)
    refine ok_getR (q := 39) (ci := 1) (k := 9) (x := F (F a0 5) 9) dX10_takeBehind_36 rfl fo_X10_58 h_3 rfl ?_
    refine ok_iload_n (q := 40) 3 dX10_takeBehind_39 rfl rfl rfl ?_
    refine fi_chk (fun h_4 => ?_)
    refine fi_chk (fun h_5 => ?_)
    refine ok_iaload (q := 41) (v := I (F (F a0 5) 9) x3) dX10_takeBehind_40 rfl h_4 h_5.1 h_5.2 rfl ?_
    refine ok_iload_n (q := 42) 2 dX10_takeBehind_41 rfl rfl rfl ?_
    refine ok_icmp_ne (q := 55) (q2 := 45) dX10_takeBehind_42 rfl rfl ?_ ?_
    · skip
      refine ok_iconst (q := 56) (x := 0) dX10_takeBehind_55 rfl rfl (by decide) ?_
      exact fun g => ok_pick [0] rfl (w_X10_takeBehind_b56 (N := N) h0 g)
    · skip
      refine ok_aload_n (q := 46) 0 dX10_takeBehind_45 rfl rfl rfl ?_
      refine ok_aload_n (q := 47) 1 dX10_takeBehind_46 rfl rfl rfl ?_
      refine ok_iload_n (q := 48) 2 dX10_takeBehind_47 rfl rfl rfl ?_
      refine ok_iload_n (q := 49) 3 dX10_takeBehind_48 rfl rfl rfl ?_
      refine fi_callV1S (q := 52) (as := [qr a1, qi x2, qi x3]) (st := []) dX10_takeBehind_49 rfl mo_X10_112 h0 rfl (Nat.le_of_ble_eq_true rfl) rfl rfl (Nat.le_of_ble_eq_true rfl) (Nat.le_of_ble_eq_true rfl) (Nat.le_of_ble_eq_true rfl) (Nat.zero_le _) (Nat.zero_le _) (fun _ hr => ct_X10_takeColumn (N := N) h0 hr) (fun v_6 I_7 => ?_)
      refine ok_goto (q := 56) dX10_takeBehind_52 rfl ?_
      exact fun g => ok_pick [0] rfl (w_X10_takeBehind_b56 (N := N) h0 g)
  refine fi_eqd (fun h_8 => ?_) (fun h_8 => ?_)
  · skip
    refine ok_table_in (q := 57) dX10_takeBehind_7 (by omega) (by omega) (by rw [h_8]; rfl) rfl ?_
    refine ok_aload_n (q := 58) 0 dX10_takeBehind_57 rfl rfl rfl ?_
    refine ok_aload_n (q := 59) 1 dX10_takeBehind_58 rfl rfl rfl ?_
    refine ok_iload_n (q := 60) 2 dX10_takeBehind_59 rfl rfl rfl ?_
    refine ok_iload_n (q := 61) 3 dX10_takeBehind_60 rfl rfl rfl ?_
    refine fi_callV1S (q := 64) (as := [qr a1, qi x2, qi x3]) (st := []) dX10_takeBehind_61 rfl mo_X10_115 h0 rfl (Nat.le_of_ble_eq_true rfl) rfl rfl (Nat.le_of_ble_eq_true rfl) (Nat.le_of_ble_eq_true rfl) (Nat.le_of_ble_eq_true rfl) (Nat.zero_le _) (Nat.zero_le _) (fun _ hr => ct_X10_takeChain (N := N) h0 hr) (fun v_9 I_10 => ?_)
    exact fi_ireturnS dX10_takeBehind_64 rfl
  refine fi_eqd (fun h_11 => ?_) (fun h_11 => ?_)
  · skip
    refine ok_table_in (q := 65) dX10_takeBehind_7 (by omega) (by omega) (by rw [h_11]; rfl) rfl ?_
    refine ok_aload_n (q := 66) 1 dX10_takeBehind_65 rfl rfl rfl ?_
    refine ok_iload_n (q := 67) 3 dX10_takeBehind_66 rfl rfl rfl ?_
    refine fi_chk (fun h_12 => ?_)
    refine fi_chk (fun h_13 => ?_)
    refine ok_iaload (q := 68) (v := I a1 x3) dX10_takeBehind_67 rfl h_12 h_13.1 h_13.2 rfl ?_
    refine ok_iconst (q := 69) (x := 1) dX10_takeBehind_68 rfl rfl (by decide) ?_
    refine ok_icmp_ne (q := 82) (q2 := 72) dX10_takeBehind_69 rfl rfl ?_ ?_
    · skip
      refine ok_iconst (q := 83) (x := 0) dX10_takeBehind_82 rfl rfl (by decide) ?_
      exact fun g => ok_pick [0] rfl (w_X10_takeBehind_b83 (N := N) h0 g)
    · skip
      refine ok_aload_n (q := 73) 0 dX10_takeBehind_72 rfl rfl rfl ?_
      refine ok_aload_n (q := 74) 1 dX10_takeBehind_73 rfl rfl rfl ?_
      refine ok_iload_n (q := 75) 2 dX10_takeBehind_74 rfl rfl rfl ?_
      refine ok_iload_n (q := 76) 3 dX10_takeBehind_75 rfl rfl rfl ?_
      refine fi_callV1S (q := 79) (as := [qr a1, qi x2, qi x3]) (st := []) dX10_takeBehind_76 rfl mo_X10_112 h0 rfl (Nat.le_of_ble_eq_true rfl) rfl rfl (Nat.le_of_ble_eq_true rfl) (Nat.le_of_ble_eq_true rfl) (Nat.le_of_ble_eq_true rfl) (Nat.zero_le _) (Nat.zero_le _) (fun _ hr => ct_X10_takeColumn (N := N) h0 hr) (fun v_14 I_15 => ?_)
      refine ok_goto (q := 83) dX10_takeBehind_79 rfl ?_
      exact fun g => ok_pick [0] rfl (w_X10_takeBehind_b83 (N := N) h0 g)
  refine ok_table_out (q := 84) dX10_takeBehind_7 (by omega) rfl ?_
  refine ok_iconst (q := 85) (x := 0) dX10_takeBehind_84 rfl rfl (by decide) ?_
  exact fi_ireturnS dX10_takeBehind_85 rfl
theorem ct_X10_takeBehind {η : am_E} {l : Launch} {N : Nat} {n : Nat} {K : am_K} {I : am_I} {F : am_F} {a0 : Nat} {r0 : Int × am_I} {a1 : Nat} {x2 : Int} {x3 : Int} (h0 : (K a0).1 = 10) : X10_takeBehind N K F a0 I a1 x2 x3 = some r0 → am_Ct η l yX10_takeBehind cX10_takeBehind 4 (some .int) 1 26 0 0 [qr a0, qr a1, qi x2, qi x3] n K I F (am_pS 1 r0 n K F) := fun g => am_Ct.of false (by decide) (by decide) (Nat.le_of_ble_eq_true rfl) (fun _ => w_X10_takeBehind (N := N) h0 g)
def M_X10_carryOut : am_M := (yX10_carryOut.cls, cX10_carryOut, 10, (some .boolean), am_room 2 49 0 0, false)
def X10_carryOut_b163 (N : Nat) (K : am_K) (F : am_F) (a0 : Nat) (I : am_I) (x2 : Int) (x3 : Int) (a4 : Nat) (x8 : Int) : Option (Int × am_I) :=
  am_cl (X10_takeBehind N K F a0 I a4 x2 x8) (fun v_1 I_2 => if (K (F a0 1)).1 = 100 then if F a0 1 ≠ 1 then if (0 : Int) ≤ x3 ∧ x3 < (K (F a0 1)).2 then am_lt (am_u2 I_2 (F a0 1) x3 v_1) (fun I_6 => some (1, I_6)) else none else none else none)
theorem w_X10_carryOut_b163 {η : am_E} {l : Launch} {N : Nat} {n : Nat} {K : am_K} {I : am_I} {F : am_F} {a0 : Nat} {r0 : Int × am_I} {x2 : Int} {x3 : Int} {a4 : Nat} {x8 : Int} (h0 : (K a0).1 = 10) : X10_carryOut_b163 N K F a0 I x2 x3 a4 x8 = some r0 → Ok η l M_X10_carryOut (am_qm η (am_pS 1 r0 n K F) 0 0) 163 [(0, qr a0), (2, qi x2), (3, qi x3), (4, qr a4), (8, qi x8)] [] n K I F 0 0 := by
  unfold X10_carryOut_b163
  refine ok_aload_n (q := 164) 0 dX10_carryOut_163 rfl rfl rfl ?_
  refine ok_getR (q := 167) (ci := 10) (k := 1) (x := F a0 1) dX10_carryOut_164 rfl fo_X10_15 h0 rfl ?_
  refine ok_iload_n (q := 168) 2 dX10_carryOut_167 rfl rfl rfl ?_
  refine ok_aload_n (q := 169) 0 dX10_carryOut_168 rfl rfl rfl ?_
  refine ok_aload (q := 171) 3 dX10_carryOut_169 rfl rfl ?_
  refine ok_iload_n (q := 172) 1 dX10_carryOut_171 rfl rfl rfl ?_
  refine ok_iload (q := 174) 4 dX10_carryOut_172 rfl rfl ?_
  refine fi_callV1S (q := 177) (as := [qr a4, qi x2, qi x8]) (st := [qi x3, qr (F a0 1)]) dX10_carryOut_174 rfl mo_X10_109 h0 rfl (Nat.le_of_ble_eq_true rfl) rfl rfl (Nat.le_of_ble_eq_true rfl) (Nat.le_of_ble_eq_true rfl) (Nat.le_of_ble_eq_true rfl) (Nat.zero_le _) (Nat.zero_le _) (fun _ hr => ct_X10_takeBehind (N := N) h0 hr) (fun v_1 I_2 => ?_)
  refine fi_chk (fun h_3 => ?_)
  refine fi_chk (fun h_4 => ?_)
  refine fi_chk (fun h_5 => ?_)
  refine ok_iastore (q := 178) dX10_carryOut_177 rfl h_3 h_4 h_5.1 h_5.2 (fun I_6 => ?_)
  refine ok_iconst (q := 179) (x := 1) dX10_carryOut_178 rfl rfl (by decide) ?_
  exact fi_zreturnS dX10_carryOut_179 rfl (by decide)
def X10_carryOut_b152 (N : Nat) (K : am_K) (F : am_F) (a0 : Nat) (I : am_I) (x2 : Int) (x3 : Int) (a4 : Nat) (x8 : Int) : Option (Int × am_I) :=
  if (K a4).1 = 100 then if (0 : Int) ≤ x8 ∧ x8 < (K a4).2 then if 1 < (I a4 x8) then (some (0, I)) else (X10_carryOut_b163 N K F a0 I x2 x3 a4 x8) else none else none
theorem w_X10_carryOut_b152 {η : am_E} {l : Launch} {N : Nat} {n : Nat} {K : am_K} {I : am_I} {F : am_F} {a0 : Nat} {r0 : Int × am_I} {x2 : Int} {x3 : Int} {a4 : Nat} {x8 : Int} (h0 : (K a0).1 = 10) : X10_carryOut_b152 N K F a0 I x2 x3 a4 x8 = some r0 → Ok η l M_X10_carryOut (am_qm η (am_pS 1 r0 n K F) 0 0) 152 [(0, qr a0), (2, qi x2), (3, qi x3), (4, qr a4), (8, qi x8)] [] n K I F 0 0 := by
  unfold X10_carryOut_b152
  refine ok_aload (q := 154) 3 dX10_carryOut_152 rfl rfl ?_
  refine ok_iload (q := 156) 4 dX10_carryOut_154 rfl rfl ?_
  refine fi_chk (fun h_1 => ?_)
  refine fi_chk (fun h_2 => ?_)
  refine ok_iaload (q := 157) (v := I a4 x8) dX10_carryOut_156 rfl h_1 h_2.1 h_2.2 rfl ?_
  refine ok_iconst (q := 158) (x := 1) dX10_carryOut_157 rfl rfl (by decide) ?_
  refine ok_icmp_le (q := 163) (q2 := 161) dX10_carryOut_158 rfl rfl ?_ ?_
  · skip
    exact fun g => ok_pick [0, 1, 2, 3, 4] rfl (w_X10_carryOut_b163 (N := N) h0 g)
  · skip
    refine ok_iconst (q := 162) (x := 0) dX10_carryOut_161 rfl rfl (by decide) ?_
    exact fi_zreturnS dX10_carryOut_162 rfl (by decide)
def X10_carryOut_s112 (N : Nat) (K : am_K) (F : am_F) (a0 : Nat) (k112 : am_I → Int → Int → Nat → Nat → Int → Int → Int → Option (Int × am_I)) (I : am_I) (x2 : Int) (x3 : Int) (a4 : Nat) (a6 : Nat) (x7 : Int) (x8 : Int) (x9 : Int) : Option (Int × am_I) :=
  if (K (F a0 6)).1 = 8 then if x9 < (I (F a0 6) 1) then (if (K a4).1 = 100 then if (0 : Int) ≤ x8 ∧ x8 < (K a4).2 then if 1 < (I a4 x8) then (am_cl (X10_sow N K F I a4 x8 a6 x7) (fun v_4 I_5 => if am_inI (x9 + 1) then am_lt (x9 + 1) (fun x9_7 => k112 I_5 x2 x3 a4 a6 x7 v_4 x9_7) else none)) else (X10_carryOut_b152 N K F a0 I x2 x3 a4 x8) else none else none) else (X10_carryOut_b152 N K F a0 I x2 x3 a4 x8) else none
theorem w_X10_carryOut_s112 {η : am_E} {l : Launch} {N : Nat} {n : Nat} {K : am_K} {I : am_I} {F : am_F} {a0 : Nat} {r0 : Int × am_I} {k112 : am_I → Int → Int → Nat → Nat → Int → Int → Int → Option (Int × am_I)} {x2 : Int} {x3 : Int} {a4 : Nat} {a6 : Nat} {x7 : Int} {x8 : Int} {x9 : Int} (h0 : (K a0).1 = 10) (H112 : ∀ (I : am_I) (x2 : Int) (x3 : Int) (a4 : Nat) (a6 : Nat) (x7 : Int) (x8 : Int) (x9 : Int), k112 I x2 x3 a4 a6 x7 x8 x9 = some r0 → Ok η l M_X10_carryOut (am_qm η (am_pS 1 r0 n K F) 0 0) 112 [(0, qr a0), (2, qi x2), (3, qi x3), (4, qr a4), (6, qr a6), (7, qi x7), (8, qi x8), (9, qi x9)] [] n K I F 0 0) : X10_carryOut_s112 N K F a0 k112 I x2 x3 a4 a6 x7 x8 x9 = some r0 → Ok η l M_X10_carryOut (am_qm η (am_pS 1 r0 n K F) 0 0) 112 [(0, qr a0), (2, qi x2), (3, qi x3), (4, qr a4), (6, qr a6), (7, qi x7), (8, qi x8), (9, qi x9)] [] n K I F 0 0 := by
  unfold X10_carryOut_s112
  refine ok_iload (q := 114) 7 dX10_carryOut_112 rfl rfl ?_
  refine ok_aload_n (q := 115) 0 dX10_carryOut_114 rfl rfl rfl ?_
  refine ok_getR (q := 118) (ci := 10) (k := 6) (x := F a0 6) dX10_carryOut_115 rfl fo_X10_31 h0 rfl ?_
  refine fi_chk (fun h_1 => ?_)
  refine ok_getI (q := 121) (ci := 8) (k := 1) (x := I (F a0 6) 1) dX10_carryOut_118 rfl fo_X10_106 h_1 rfl ?_
  refine ok_icmp_ge (q := 152) (q2 := 124) dX10_carryOut_121 rfl rfl ?_ ?_
  · skip
    exact fun g => ok_pick [0, 1, 2, 3, 6] rfl (w_X10_carryOut_b152 (N := N) h0 g)
  · skip
    refine ok_aload (q := 126) 3 dX10_carryOut_124 rfl rfl ?_
    refine ok_iload (q := 128) 6 dX10_carryOut_126 rfl rfl ?_
    refine fi_chk (fun h_2 => ?_)
    refine fi_chk (fun h_3 => ?_)
    refine ok_iaload (q := 129) (v := I a4 x8) dX10_carryOut_128 rfl h_2 h_3.1 h_3.2 rfl ?_
    refine ok_iconst (q := 130) (x := 1) dX10_carryOut_129 rfl rfl (by decide) ?_
    refine ok_icmp_le (q := 152) (q2 := 133) dX10_carryOut_130 rfl rfl ?_ ?_
    · skip
      exact fun g => ok_pick [0, 1, 2, 3, 6] rfl (w_X10_carryOut_b152 (N := N) h0 g)
    · skip
      refine ok_aload (q := 135) 3 dX10_carryOut_133 rfl rfl ?_
      refine ok_iload (q := 137) 6 dX10_carryOut_135 rfl rfl ?_
      refine ok_aload (q := 139) 4 dX10_carryOut_137 rfl rfl ?_
      refine ok_iload (q := 141) 5 dX10_carryOut_139 rfl rfl ?_
      refine fi_callS1S (q := 144) (as := [qr a4, qi x8, qr a6, qi x7]) (st := []) dX10_carryOut_141 rfl mo_X10_102 rfl rfl (Nat.le_of_ble_eq_true rfl) (Nat.le_of_ble_eq_true rfl) (Nat.le_of_ble_eq_true rfl) (Nat.zero_le _) (Nat.zero_le _) (fun _ hr => ct_X10_sow (N := N) hr) (fun v_4 I_5 => ?_)
      refine ok_istore (q := 146) (ls' := [(8, qi v_4), (0, qr a0), (2, qi x2), (3, qi x3), (4, qr a4), (6, qr a6), (7, qi x7), (9, qi x9)]) dX10_carryOut_144 rfl (Nat.le_of_ble_eq_true rfl) rfl ?_
      refine fi_chk (fun h_6 => ?_)
      refine ok_iincL (q := 149) (fun x9_7 => [(9, qi x9_7), (8, qi v_4), (0, qr a0), (2, qi x2), (3, qi x3), (4, qr a4), (6, qr a6), (7, qi x7)]) 7 dX10_carryOut_146 rfl rfl h_6 (Nat.le_of_ble_eq_true rfl) (fun _ => rfl) (fun x9_7 => ?_)
      refine ok_goto (q := 112) dX10_carryOut_149 rfl ?_
      exact fun g => ok_pick [2, 3, 4, 5, 6, 7, 1, 0] rfl (H112 _ _ _ _ _ _ _ _ g)
def X10_carryOut_h112 (N : Nat) (K : am_K) (F : am_F) (a0 : Nat) : Nat → am_I → Int → Int → Nat → Nat → Int → Int → Int → Option (Int × am_I) := am_it (fun kh => X10_carryOut_s112 N K F a0 kh) (fun _ _ _ _ _ _ _ _ => none)
theorem w_X10_carryOut_h112 {η : am_E} {l : Launch} {N : Nat} {n : Nat} {K : am_K} {F : am_F} {a0 : Nat} {r0 : Int × am_I} (h0 : (K a0).1 = 10) (f : Nat) : ∀ (I : am_I) (x2 : Int) (x3 : Int) (a4 : Nat) (a6 : Nat) (x7 : Int) (x8 : Int) (x9 : Int), X10_carryOut_h112 N K F a0 f I x2 x3 a4 a6 x7 x8 x9 = some r0 → Ok η l M_X10_carryOut (am_qm η (am_pS 1 r0 n K F) 0 0) 112 [(0, qr a0), (2, qi x2), (3, qi x3), (4, qr a4), (6, qr a6), (7, qi x7), (8, qi x8), (9, qi x9)] [] n K I F 0 0 := by
  induction f with
  | zero => intro I x2 x3 a4 a6 x7 x8 x9 g; exact fi_none g
  | succ f ih => intro I x2 x3 a4 a6 x7 x8 x9 g; exact w_X10_carryOut_s112 (N := N) h0 ih g
def X10_carryOut_b84 (N : Nat) (K : am_K) (F : am_F) (a0 : Nat) (I : am_I) (x2 : Int) (x3 : Int) (a4 : Nat) (a6 : Nat) (s0 : Int) : Option (Int × am_I) :=
  am_cl (X10_sow N K F I a4 x3 a6 s0) (fun v_1 I_2 => if (K (F a0 6)).1 = 8 then if (I_2 (F a0 6) 0) = 1 then (X10_carryOut_h112 N K F a0 N I_2 x2 x3 a4 a6 s0 v_1 1) else (X10_carryOut_b163 N K F a0 I_2 x2 x3 a4 v_1) else none)
theorem w_X10_carryOut_b84 {η : am_E} {l : Launch} {N : Nat} {n : Nat} {K : am_K} {I : am_I} {F : am_F} {a0 : Nat} {r0 : Int × am_I} {x2 : Int} {x3 : Int} {a4 : Nat} {a6 : Nat} {s0 : Int} (h0 : (K a0).1 = 10) : X10_carryOut_b84 N K F a0 I x2 x3 a4 a6 s0 = some r0 → Ok η l M_X10_carryOut (am_qm η (am_pS 1 r0 n K F) 0 0) 84 [(0, qr a0), (2, qi x2), (3, qi x3), (4, qr a4), (6, qr a6)] [qi s0] n K I F 0 0 := by
  unfold X10_carryOut_b84
  refine ok_istore (q := 86) (ls' := [(7, qi s0), (0, qr a0), (2, qi x2), (3, qi x3), (4, qr a4), (6, qr a6)]) dX10_carryOut_84 rfl (Nat.le_of_ble_eq_true rfl) rfl ?_
  refine ok_aload (q := 88) 4 dX10_carryOut_86 rfl rfl ?_
  refine ok_iload_n (q := 89) 3 dX10_carryOut_88 rfl rfl rfl ?_
  refine ok_aload (q := 91) 5 dX10_carryOut_89 rfl rfl ?_
  refine ok_iload (q := 93) 0 dX10_carryOut_91 rfl rfl ?_
  refine fi_callS1S (q := 96) (as := [qr a4, qi x3, qr a6, qi s0]) (st := []) dX10_carryOut_93 rfl mo_X10_102 rfl rfl (Nat.le_of_ble_eq_true rfl) (Nat.le_of_ble_eq_true rfl) (Nat.le_of_ble_eq_true rfl) (Nat.zero_le _) (Nat.zero_le _) (fun _ hr => ct_X10_sow (N := N) hr) (fun v_1 I_2 => ?_)
  refine ok_istore (q := 98) (ls' := [(8, qi v_1), (7, qi s0), (0, qr a0), (2, qi x2), (3, qi x3), (4, qr a4), (6, qr a6)]) dX10_carryOut_96 rfl (Nat.le_of_ble_eq_true rfl) rfl ?_
  refine ok_aload_n (q := 99) 2 dX10_carryOut_98 rfl rfl rfl ?_
  refine ok_getR (q := 102) (ci := 10) (k := 6) (x := F a0 6) dX10_carryOut_99 rfl fo_X10_31 h0 rfl ?_
  refine fi_chk (fun h_3 => ?_)
  refine ok_getI (q := 105) (ci := 8) (k := 0) (x := I_2 (F a0 6) 0) dX10_carryOut_102 rfl fo_X10_87 h_3 rfl ?_
  refine ok_iconst (q := 106) (x := 1) dX10_carryOut_105 rfl rfl (by decide) ?_
  refine ok_icmp_ne (q := 163) (q2 := 109) dX10_carryOut_106 rfl rfl ?_ ?_
  · skip
    exact fun g => ok_pick [2, 3, 4, 5, 0] rfl (w_X10_carryOut_b163 (N := N) h0 g)
  · skip
    refine ok_iconst (q := 110) (x := 1) dX10_carryOut_109 rfl rfl (by decide) ?_
    refine ok_istore (q := 112) (ls' := [(9, qi 1), (8, qi v_1), (7, qi s0), (0, qr a0), (2, qi x2), (3, qi x3), (4, qr a4), (6, qr a6)]) dX10_carryOut_110 rfl (Nat.le_of_ble_eq_true rfl) rfl ?_
    exact fun g => ok_pick [3, 4, 5, 6, 7, 2, 1, 0] rfl (w_X10_carryOut_h112 (N := N) h0 N _ _ _ _ _ _ _ _ g)
def X10_carryOut_b58 (N : Nat) (K : am_K) (F : am_F) (a0 : Nat) (I : am_I) (x2 : Int) (x3 : Int) (a4 : Nat) (x5 : Int) (t0 : Nat) : Option (Int × am_I) :=
  if x5 = 0 then (if (K (F a0 5)).1 = 1 then X10_carryOut_b84 N K F a0 I x2 x3 a4 t0 (I (F a0 5) 3) else none) else (if (K (F a0 5)).1 = 1 then if (K (F (F a0 5) 6)).1 = 100 then if (0 : Int) ≤ x2 ∧ x2 < (K (F (F a0 5) 6)).2 then X10_carryOut_b84 N K F a0 I x2 x3 a4 t0 (I (F (F a0 5) 6) x2) else none else none else none)
theorem w_X10_carryOut_b58 {η : am_E} {l : Launch} {N : Nat} {n : Nat} {K : am_K} {I : am_I} {F : am_F} {a0 : Nat} {r0 : Int × am_I} {x2 : Int} {x3 : Int} {a4 : Nat} {x5 : Int} {t0 : Nat} (h0 : (K a0).1 = 10) : X10_carryOut_b58 N K F a0 I x2 x3 a4 x5 t0 = some r0 → Ok η l M_X10_carryOut (am_qm η (am_pS 1 r0 n K F) 0 0) 58 [(0, qr a0), (2, qi x2), (3, qi x3), (4, qr a4), (5, qi x5)] [qr t0] n K I F 0 0 := by
  unfold X10_carryOut_b58
  refine ok_astore (q := 60) (ls' := [(6, qr t0), (0, qr a0), (2, qi x2), (3, qi x3), (4, qr a4), (5, qi x5)]) dX10_carryOut_58 rfl (Nat.le_of_ble_eq_true rfl) rfl ?_
  refine ok_iload (q := 62) 5 dX10_carryOut_60 rfl rfl ?_
  refine ok_if_eq (q := 77) (q2 := 65) dX10_carryOut_62 rfl rfl ?_ ?_
  · skip
    refine ok_aload_n (q := 78) 1 dX10_carryOut_77 rfl rfl rfl ?_
    refine ok_getR (q := 81) (ci := 10) (k := 5) (x := F a0 5) dX10_carryOut_78 rfl fo_X10_27 h0 rfl ?_
    refine fi_chk (fun h_1 => ?_)
    refine ok_getI (q := 84) (ci := 1) (k := 3) (x := I (F a0 5) 3) dX10_carryOut_81 rfl fo_X10_99 h_1 rfl ?_
    exact fun g => ok_pick [1, 2, 3, 4, 0] rfl (w_X10_carryOut_b84 (N := N) h0 g)
  · skip
    refine ok_aload_n (q := 66) 1 dX10_carryOut_65 rfl rfl rfl ?_
    refine ok_getR (q := 69) (ci := 10) (k := 5) (x := F a0 5) dX10_carryOut_66 rfl fo_X10_27 h0 rfl ?_
    refine fi_chk (fun h_2 => ?_)
    refine ok_getR (q := 72) (ci := 1) (k := 6) (x := F (F a0 5) 6) dX10_carryOut_69 rfl fo_X10_96 h_2 rfl ?_
    refine ok_iload_n (q := 73) 2 dX10_carryOut_72 rfl rfl rfl ?_
    refine fi_chk (fun h_3 => ?_)
    refine fi_chk (fun h_4 => ?_)
    refine ok_iaload (q := 74) (v := I (F (F a0 5) 6) x2) dX10_carryOut_73 rfl h_3 h_4.1 h_4.2 rfl ?_
    refine ok_goto (q := 84) dX10_carryOut_74 rfl ?_
    exact fun g => ok_pick [1, 2, 3, 4, 0] rfl (w_X10_carryOut_b84 (N := N) h0 g)
def X10_carryOut_b34 (N : Nat) (K : am_K) (F : am_F) (a0 : Nat) (I : am_I) (x2 : Int) (x3 : Int) (a4 : Nat) (s0 : Int) : Option (Int × am_I) :=
  if s0 = 0 then (if (K (F a0 5)).1 = 1 then X10_carryOut_b58 N K F a0 I x2 x3 a4 s0 (F (F a0 5) 11) else none) else (if (K (F a0 5)).1 = 1 then X10_carryOut_b58 N K F a0 I x2 x3 a4 s0 (F (F a0 5) 13) else none)
theorem w_X10_carryOut_b34 {η : am_E} {l : Launch} {N : Nat} {n : Nat} {K : am_K} {I : am_I} {F : am_F} {a0 : Nat} {r0 : Int × am_I} {x2 : Int} {x3 : Int} {a4 : Nat} {s0 : Int} (h0 : (K a0).1 = 10) : X10_carryOut_b34 N K F a0 I x2 x3 a4 s0 = some r0 → Ok η l M_X10_carryOut (am_qm η (am_pS 1 r0 n K F) 0 0) 34 [(0, qr a0), (2, qi x2), (3, qi x3), (4, qr a4)] [qi s0] n K I F 0 0 := by
  unfold X10_carryOut_b34
  refine ok_istore (q := 36) (ls' := [(5, qi s0), (0, qr a0), (2, qi x2), (3, qi x3), (4, qr a4)]) dX10_carryOut_34 rfl (Nat.le_of_ble_eq_true rfl) rfl ?_
  refine ok_iload (q := 38) 0 dX10_carryOut_36 rfl rfl ?_
  refine ok_if_eq (q := 51) (q2 := 41) dX10_carryOut_38 rfl rfl ?_ ?_
  · skip
    refine ok_aload_n (q := 52) 1 dX10_carryOut_51 rfl rfl rfl ?_
    refine ok_getR (q := 55) (ci := 10) (k := 5) (x := F a0 5) dX10_carryOut_52 rfl fo_X10_27 h0 rfl ?_
    refine fi_chk (fun h_1 => ?_)
    refine ok_getR (q := 58) (ci := 1) (k := 11) (x := F (F a0 5) 11) dX10_carryOut_55 rfl fo_X10_93 h_1 rfl ?_
    exact fun g => ok_pick [1, 2, 3, 4, 0] rfl (w_X10_carryOut_b58 (N := N) h0 g)
  · skip
    refine ok_aload_n (q := 42) 1 dX10_carryOut_41 rfl rfl rfl ?_
    refine ok_getR (q := 45) (ci := 10) (k := 5) (x := F a0 5) dX10_carryOut_42 rfl fo_X10_27 h0 rfl ?_
    refine fi_chk (fun h_2 => ?_)
    refine ok_getR (q := 48) (ci := 1) (k := 13) (x := F (F a0 5) 13) dX10_carryOut_45 rfl fo_X10_90 h_2 rfl ?_
    refine ok_goto (q := 58) dX10_carryOut_48 rfl ?_
    exact fun g => ok_pick [1, 2, 3, 4, 0] rfl (w_X10_carryOut_b58 (N := N) h0 g)
def X10_carryOut (N : Nat) (K : am_K) (F : am_F) (a0 : Nat) (I : am_I) (a1 : Nat) (x2 : Int) (x3 : Int) : Option (Int × am_I) :=
  if (K (F a0 2)).1 = 103 then if (0 : Int) ≤ x3 ∧ x3 < (K (F a0 2)).2 then am_lt (F (F a0 2) x3) (fun a4_3 => if (K a1).1 = 100 then if (K a4_3).1 = 100 then if a4_3 ≠ 1 then if a1 ≠ 1 then if (0 : Int) ≤ 0 ∧ (0 : Int) ≤ 0 ∧ (0 : Int) ≤ 32 ∧ 0 + 32 ≤ (K a1).2 ∧ 0 + 32 ≤ (K a4_3).2 then am_lt (am_cp I a1 0 a4_3 0 32) (fun I_9 => if (K (F a0 6)).1 = 8 then if (I_9 (F a0 6) 0) = 3 then (X10_carryOut_b34 N K F a0 I_9 x2 x3 a4_3 1) else (X10_carryOut_b34 N K F a0 I_9 x2 x3 a4_3 0) else none) else none else none else none else none else none) else none else none
theorem w_X10_carryOut {η : am_E} {l : Launch} {N : Nat} {n : Nat} {K : am_K} {I : am_I} {F : am_F} {a0 : Nat} {r0 : Int × am_I} {a1 : Nat} {x2 : Int} {x3 : Int} (h0 : (K a0).1 = 10) : X10_carryOut N K F a0 I a1 x2 x3 = some r0 → Ok η l M_X10_carryOut (am_qm η (am_pS 1 r0 n K F) 0 0) 0 [(0, qr a0), (1, qr a1), (2, qi x2), (3, qi x3)] [] n K I F 0 0 := by
  unfold X10_carryOut
  refine ok_aload_n (q := 1) 0 dX10_carryOut_0 rfl rfl rfl ?_
  refine ok_getR (q := 4) (ci := 10) (k := 2) (x := F a0 2) dX10_carryOut_1 rfl fo_X10_21 h0 rfl ?_
  refine ok_iload_n (q := 5) 3 dX10_carryOut_4 rfl rfl rfl ?_
  refine fi_chk (fun h_1 => ?_)
  refine fi_chk (fun h_2 => ?_)
  refine ok_aaload (q := 6) (i := 0) (v := F (F a0 2) x3) dX10_carryOut_5 rfl h_1 (by decide) rfl rfl h_2.1 h_2.2 rfl ?_
  refine ok_astoreL (q := 8) (fun a4_3 => [(4, qr a4_3), (0, qr a0), (1, qr a1), (2, qi x2), (3, qi x3)]) dX10_carryOut_6 rfl (Nat.le_of_ble_eq_true rfl) (fun _ => rfl) (fun a4_3 => ?_)
  refine ok_aload_n (q := 9) 2 dX10_carryOut_8 rfl rfl rfl ?_
  refine ok_iconst (q := 10) (x := 0) dX10_carryOut_9 rfl rfl (by decide) ?_
  refine ok_aload (q := 12) 0 dX10_carryOut_10 rfl rfl ?_
  refine ok_iconst (q := 13) (x := 0) dX10_carryOut_12 rfl rfl (by decide) ?_
  refine ok_bipush (q := 15) (x := 32) dX10_carryOut_13 rfl rfl (by decide) ?_
  refine fi_chk (fun h_4 => ?_)
  refine fi_chk (fun h_5 => ?_)
  refine fi_chk (fun h_6 => ?_)
  refine fi_chk (fun h_7 => ?_)
  refine fi_chk (fun h_8 => ?_)
  refine ok_arraycopy (q := 18) dX10_carryOut_15 rfl ac_X10_81 h_4 h_5 h_6 h_7 h_8 (Nat.le_of_ble_eq_true rfl) (Nat.le_of_ble_eq_true rfl) (Nat.le_of_ble_eq_true rfl) (fun I_9 => ?_)
  refine ok_aload_n (q := 19) 1 dX10_carryOut_18 rfl rfl rfl ?_
  refine ok_getR (q := 22) (ci := 10) (k := 6) (x := F a0 6) dX10_carryOut_19 rfl fo_X10_31 h0 rfl ?_
  refine fi_chk (fun h_10 => ?_)
  refine ok_getI (q := 25) (ci := 8) (k := 0) (x := I_9 (F a0 6) 0) dX10_carryOut_22 rfl fo_X10_87 h_10 rfl ?_
  refine ok_iconst (q := 26) (x := 3) dX10_carryOut_25 rfl rfl (by decide) ?_
  refine ok_icmp_ne (q := 33) (q2 := 29) dX10_carryOut_26 rfl rfl ?_ ?_
  · skip
    refine ok_iconst (q := 34) (x := 0) dX10_carryOut_33 rfl rfl (by decide) ?_
    exact fun g => ok_pick [1, 3, 4, 0] rfl (w_X10_carryOut_b34 (N := N) h0 g)
  · skip
    refine ok_iconst (q := 30) (x := 1) dX10_carryOut_29 rfl rfl (by decide) ?_
    refine ok_goto (q := 34) dX10_carryOut_30 rfl ?_
    exact fun g => ok_pick [1, 3, 4, 0] rfl (w_X10_carryOut_b34 (N := N) h0 g)
theorem ct_X10_carryOut {η : am_E} {l : Launch} {N : Nat} {n : Nat} {K : am_K} {I : am_I} {F : am_F} {a0 : Nat} {r0 : Int × am_I} {a1 : Nat} {x2 : Int} {x3 : Int} (h0 : (K a0).1 = 10) : X10_carryOut N K F a0 I a1 x2 x3 = some r0 → am_Ct η l yX10_carryOut cX10_carryOut 10 (some .boolean) 2 49 0 0 [qr a0, qr a1, qi x2, qi x3] n K I F (am_pS 1 r0 n K F) := fun g => am_Ct.of false (by decide) (by decide) (Nat.le_of_ble_eq_true rfl) (fun _ => w_X10_carryOut (N := N) h0 g)
