def M_X9_digestFrom : am_M := (yX9_digestFrom.cls, cX9_digestFrom, 6, (some .long), am_room 0 0 0 0, false)
def X9_digestFrom_s15 (N : Nat) (K : am_K) (F : am_F) (I : am_I) (a0 : Nat) (k15 : Int → Int → Option Int) (x3 : Int) (x5 : Int) : Option Int :=
  if x5 < (I a0 3) then (if (K (F a0 4)).1 = 100 then if (0 : Int) ≤ x5 ∧ x5 < (K (F a0 4)).2 then am_lt (am_wL ((am_wL (x3 * 31)) + (I (F a0 4) x5))) (fun x3_3 => if (K (F a0 5)).1 = 100 then if (0 : Int) ≤ x5 ∧ x5 < (K (F a0 5)).2 then am_lt (am_wL ((am_wL (x3_3 * 31)) + (I (F a0 5) x5))) (fun x3_6 => if (K (F a0 6)).1 = 100 then if (0 : Int) ≤ x5 ∧ x5 < (K (F a0 6)).2 then am_lt (am_wL ((am_wL (x3_6 * 31)) + (I (F a0 6) x5))) (fun x3_9 => if (K (F a0 7)).1 = 100 then if (0 : Int) ≤ x5 ∧ x5 < (K (F a0 7)).2 then am_lt (am_wL ((am_wL (x3_9 * 31)) + (I (F a0 7) x5))) (fun x3_12 => if am_inI (x5 + 1) then am_lt (x5 + 1) (fun x5_14 => k15 x3_12 x5_14) else none) else none else none) else none else none) else none else none) else none else none) else (some (x3))
theorem w_X9_digestFrom_s15 {η : am_E} {l : Launch} {N : Nat} {n : Nat} {K : am_K} {I : am_I} {F : am_F} {a0 : Nat} {r0 : Int} {k15 : Int → Int → Option Int} {x3 : Int} {x5 : Int} (h0 : (K a0).1 = 9) (H15 : ∀ (x3 : Int) (x5 : Int), k15 x3 x5 = some r0 → Ok η l M_X9_digestFrom (am_qm η (am_pS 2 (r0, I) n K F) 0 0) 15 [(0, qr a0), (3, ql x3), (5, qi x5)] [] n K I F 0 0) : X9_digestFrom_s15 N K F I a0 k15 x3 x5 = some r0 → Ok η l M_X9_digestFrom (am_qm η (am_pS 2 (r0, I) n K F) 0 0) 15 [(0, qr a0), (3, ql x3), (5, qi x5)] [] n K I F 0 0 := by
  unfold X9_digestFrom_s15
  refine ok_iload (q := 17) 2 dX9_digestFrom_15 rfl rfl ?_
  refine ok_aload_n (q := 18) 0 dX9_digestFrom_17 rfl rfl rfl ?_
  refine ok_getI (q := 21) (ci := 9) (k := 3) (x := I a0 3) dX9_digestFrom_18 rfl fo_X9_70 h0 rfl ?_
  refine ok_icmp_ge (q := 90) (q2 := 24) dX9_digestFrom_21 rfl rfl ?_ ?_
  · skip
    refine ok_lload_n (q := 91) 1 dX9_digestFrom_90 rfl rfl rfl ?_
    exact fi_lreturnP dX9_digestFrom_91 rfl
  · skip
    refine ok_lload_n (q := 25) 1 dX9_digestFrom_24 rfl rfl rfl ?_
    refine ok_ldc2 (q := 28) (x := 31) (v := 31) dX9_digestFrom_25 rfl kc_X9_125 rfl (by decide) ?_
    refine ok_lmulW (q := 29) dX9_digestFrom_28 rfl ?_
    refine ok_aload_n (q := 30) 0 dX9_digestFrom_29 rfl rfl rfl ?_
    refine ok_getR (q := 33) (ci := 9) (k := 4) (x := F a0 4) dX9_digestFrom_30 rfl fo_X9_9 h0 rfl ?_
    refine ok_iload (q := 35) 2 dX9_digestFrom_33 rfl rfl ?_
    refine fi_chk (fun h_1 => ?_)
    refine fi_chk (fun h_2 => ?_)
    refine ok_iaload (q := 36) (v := I (F a0 4) x5) dX9_digestFrom_35 rfl h_1 h_2.1 h_2.2 rfl ?_
    refine ok_i2l (q := 37) dX9_digestFrom_36 rfl ?_
    refine ok_laddW (q := 38) dX9_digestFrom_37 rfl ?_
    refine ok_lstore_nL (q := 39) (fun x3_3 => [(3, ql x3_3), (0, qr a0), (5, qi x5)]) dX9_digestFrom_38 rfl rfl (Nat.le_of_ble_eq_true rfl) (fun _ => rfl) (fun x3_3 => ?_)
    refine ok_lload_n (q := 40) 0 dX9_digestFrom_39 rfl rfl rfl ?_
    refine ok_ldc2 (q := 43) (x := 31) (v := 31) dX9_digestFrom_40 rfl kc_X9_125 rfl (by decide) ?_
    refine ok_lmulW (q := 44) dX9_digestFrom_43 rfl ?_
    refine ok_aload_n (q := 45) 1 dX9_digestFrom_44 rfl rfl rfl ?_
    refine ok_getR (q := 48) (ci := 9) (k := 5) (x := F a0 5) dX9_digestFrom_45 rfl fo_X9_15 h0 rfl ?_
    refine ok_iload (q := 50) 2 dX9_digestFrom_48 rfl rfl ?_
    refine fi_chk (fun h_4 => ?_)
    refine fi_chk (fun h_5 => ?_)
    refine ok_iaload (q := 51) (v := I (F a0 5) x5) dX9_digestFrom_50 rfl h_4 h_5.1 h_5.2 rfl ?_
    refine ok_i2l (q := 52) dX9_digestFrom_51 rfl ?_
    refine ok_laddW (q := 53) dX9_digestFrom_52 rfl ?_
    refine ok_lstore_nL (q := 54) (fun x3_6 => [(3, ql x3_6), (0, qr a0), (5, qi x5)]) dX9_digestFrom_53 rfl rfl (Nat.le_of_ble_eq_true rfl) (fun _ => rfl) (fun x3_6 => ?_)
    refine ok_lload_n (q := 55) 0 dX9_digestFrom_54 rfl rfl rfl ?_
    refine ok_ldc2 (q := 58) (x := 31) (v := 31) dX9_digestFrom_55 rfl kc_X9_125 rfl (by decide) ?_
    refine ok_lmulW (q := 59) dX9_digestFrom_58 rfl ?_
    refine ok_aload_n (q := 60) 1 dX9_digestFrom_59 rfl rfl rfl ?_
    refine ok_getR (q := 63) (ci := 9) (k := 6) (x := F a0 6) dX9_digestFrom_60 rfl fo_X9_18 h0 rfl ?_
    refine ok_iload (q := 65) 2 dX9_digestFrom_63 rfl rfl ?_
    refine fi_chk (fun h_7 => ?_)
    refine fi_chk (fun h_8 => ?_)
    refine ok_iaload (q := 66) (v := I (F a0 6) x5) dX9_digestFrom_65 rfl h_7 h_8.1 h_8.2 rfl ?_
    refine ok_i2l (q := 67) dX9_digestFrom_66 rfl ?_
    refine ok_laddW (q := 68) dX9_digestFrom_67 rfl ?_
    refine ok_lstore_nL (q := 69) (fun x3_9 => [(3, ql x3_9), (0, qr a0), (5, qi x5)]) dX9_digestFrom_68 rfl rfl (Nat.le_of_ble_eq_true rfl) (fun _ => rfl) (fun x3_9 => ?_)
    refine ok_lload_n (q := 70) 0 dX9_digestFrom_69 rfl rfl rfl ?_
    refine ok_ldc2 (q := 73) (x := 31) (v := 31) dX9_digestFrom_70 rfl kc_X9_125 rfl (by decide) ?_
    refine ok_lmulW (q := 74) dX9_digestFrom_73 rfl ?_
    refine ok_aload_n (q := 75) 1 dX9_digestFrom_74 rfl rfl rfl ?_
    refine ok_getR (q := 78) (ci := 9) (k := 7) (x := F a0 7) dX9_digestFrom_75 rfl fo_X9_21 h0 rfl ?_
    refine ok_iload (q := 80) 2 dX9_digestFrom_78 rfl rfl ?_
    refine fi_chk (fun h_10 => ?_)
    refine fi_chk (fun h_11 => ?_)
    refine ok_iaload (q := 81) (v := I (F a0 7) x5) dX9_digestFrom_80 rfl h_10 h_11.1 h_11.2 rfl ?_
    refine ok_i2l (q := 82) dX9_digestFrom_81 rfl ?_
    refine ok_laddW (q := 83) dX9_digestFrom_82 rfl ?_
    refine ok_lstore_nL (q := 84) (fun x3_12 => [(3, ql x3_12), (0, qr a0), (5, qi x5)]) dX9_digestFrom_83 rfl rfl (Nat.le_of_ble_eq_true rfl) (fun _ => rfl) (fun x3_12 => ?_)
    refine fi_chk (fun h_13 => ?_)
    refine ok_iincL (q := 87) (fun x5_14 => [(5, qi x5_14), (3, ql x3_12), (0, qr a0)]) 2 dX9_digestFrom_84 rfl rfl h_13 (Nat.le_of_ble_eq_true rfl) (fun _ => rfl) (fun x5_14 => ?_)
    refine ok_goto (q := 15) dX9_digestFrom_87 rfl ?_
    exact fun g => ok_pick [2, 1, 0] rfl (H15 _ _ g)
def X9_digestFrom_h15 (N : Nat) (K : am_K) (F : am_F) (I : am_I) (a0 : Nat) : Nat → Int → Int → Option Int := am_it (fun kh => X9_digestFrom_s15 N K F I a0 kh) (fun _ _ => none)
theorem w_X9_digestFrom_h15 {η : am_E} {l : Launch} {N : Nat} {n : Nat} {K : am_K} {I : am_I} {F : am_F} {a0 : Nat} {r0 : Int} (h0 : (K a0).1 = 9) (f : Nat) : ∀ (x3 : Int) (x5 : Int), X9_digestFrom_h15 N K F I a0 f x3 x5 = some r0 → Ok η l M_X9_digestFrom (am_qm η (am_pS 2 (r0, I) n K F) 0 0) 15 [(0, qr a0), (3, ql x3), (5, qi x5)] [] n K I F 0 0 := by
  induction f with
  | zero => intro x3 x5 g; exact fi_none g
  | succ f ih => intro x3 x5 g; exact w_X9_digestFrom_s15 (N := N) h0 ih g
def X9_digestFrom (N : Nat) (K : am_K) (F : am_F) (I : am_I) (a0 : Nat) (x1 : Int) : Option Int :=
  am_lt (am_wL ((am_wL (x1 * 31)) + (I a0 3))) (fun x3_1 => X9_digestFrom_h15 N K F I a0 N x3_1 0)
theorem w_X9_digestFrom {η : am_E} {l : Launch} {N : Nat} {n : Nat} {K : am_K} {I : am_I} {F : am_F} {a0 : Nat} {r0 : Int} {x1 : Int} (h0 : (K a0).1 = 9) : X9_digestFrom N K F I a0 x1 = some r0 → Ok η l M_X9_digestFrom (am_qm η (am_pS 2 (r0, I) n K F) 0 0) 0 [(0, qr a0), (1, ql x1)] [] n K I F 0 0 := by
  unfold X9_digestFrom
  refine ok_lload_n (q := 1) 1 dX9_digestFrom_0 rfl rfl rfl ?_
  refine ok_ldc2 (q := 4) (x := 31) (v := 31) dX9_digestFrom_1 rfl kc_X9_125 rfl (by decide) ?_
  refine ok_lmulW (q := 5) dX9_digestFrom_4 rfl ?_
  refine ok_aload_n (q := 6) 0 dX9_digestFrom_5 rfl rfl rfl ?_
  refine ok_getI (q := 9) (ci := 9) (k := 3) (x := I a0 3) dX9_digestFrom_6 rfl fo_X9_70 h0 rfl ?_
  refine ok_i2l (q := 10) dX9_digestFrom_9 rfl ?_
  refine ok_laddW (q := 11) dX9_digestFrom_10 rfl ?_
  refine ok_lstore_nL (q := 12) (fun x3_1 => [(3, ql x3_1), (0, qr a0), (1, ql x1)]) dX9_digestFrom_11 rfl rfl (Nat.le_of_ble_eq_true rfl) (fun _ => rfl) (fun x3_1 => ?_)
  refine ok_iconst (q := 13) (x := 0) dX9_digestFrom_12 rfl rfl (by decide) ?_
  refine ok_istore (q := 15) (ls' := [(5, qi 0), (3, ql x3_1), (0, qr a0), (1, ql x1)]) dX9_digestFrom_13 rfl (Nat.le_of_ble_eq_true rfl) rfl ?_
  exact fun g => ok_pick [2, 1, 0] rfl (w_X9_digestFrom_h15 (N := N) h0 N _ _ g)
theorem ct_X9_digestFrom {η : am_E} {l : Launch} {N : Nat} {n : Nat} {K : am_K} {I : am_I} {F : am_F} {a0 : Nat} {r0 : Int} {x1 : Int} (h0 : (K a0).1 = 9) : X9_digestFrom N K F I a0 x1 = some r0 → am_Ct η l yX9_digestFrom cX9_digestFrom 6 (some .long) 0 0 0 0 [qr a0, ql x1] n K I F (am_pS 2 (r0, I) n K F) := fun g => am_Ct.of false (by decide) (by decide) (Nat.le_of_ble_eq_true rfl) (fun _ => w_X9_digestFrom (N := N) h0 g)
def M_X10_init (mc ms : Nat) : am_M := (yX10_init.cls, cX10_init, 3, none, am_room 1 20 mc ms, true)
def X10_init (N : Nat) (a0 : Nat) (n : Nat) (K : am_K) (I : am_I) (F : am_F) (a1 : Nat) (a2 : Nat) : Option am_A :=
  if a0 ≠ 0 then if (0 : Int) ≤ 32 ∧ 32 ≤ (60000000 : Int) then am_nw n (101, 32) K I F (fun n_2 K_3 I_4 F_5 => am_mo (0 + 1) (0 + (32 : Int).toNat) (if (K_3 a0).1 = 10 then am_lt (am_u2 F_5 a0 0 n) (fun F_11 => am_nw n_2 (100, 32) K_3 I_4 F_11 (fun n_12 K_13 I_14 F_15 => am_mo ((0 + 1) + 1) ((0 + (32 : Int).toNat) + (32 : Int).toNat) (if (K_13 a0).1 = 10 then am_lt (am_u2 F_15 a0 1 n_2) (fun F_20 => am_nm n_12 32 32 K_13 I_14 F_20 (fun n_21 K_22 I_23 F_24 => am_mo (((0 + 1) + 1) + (1 + (32 : Int).toNat)) (((0 + (32 : Int).toNat) + (32 : Int).toNat) + ((32 : Int).toNat + (32 : Int).toNat * (32 : Int).toNat)) (if (K_22 a0).1 = 10 then am_lt (am_u2 F_24 a0 2 n_12) (fun F_29 => am_nw n_21 (100, 32) K_22 I_23 F_29 (fun n_30 K_31 I_32 F_33 => am_mo ((((0 + 1) + 1) + (1 + (32 : Int).toNat)) + 1) ((((0 + (32 : Int).toNat) + (32 : Int).toNat) + ((32 : Int).toNat + (32 : Int).toNat * (32 : Int).toNat)) + (32 : Int).toNat) (if (K_31 a0).1 = 10 then am_lt (am_u2 F_33 a0 4 n_21) (fun F_38 => am_lt (am_u2 F_38 a0 5 a1) (fun F_39 => am_lt (am_u2 F_39 a0 6 a2) (fun F_40 => some (0, n_30, K_31, I_32, F_40, ((((0 + 1) + 1) + (1 + (32 : Int).toNat)) + 1), ((((0 + (32 : Int).toNat) + (32 : Int).toNat) + ((32 : Int).toNat + (32 : Int).toNat * (32 : Int).toNat)) + (32 : Int).toNat))))) else none))) else none))) else none))) else none)) else none else none
theorem w_X10_init {η : am_E} {l : Launch} {N : Nat} {n : Nat} {K : am_K} {I : am_I} {F : am_F} {a0 : Nat} {r0 : am_A} {a1 : Nat} {a2 : Nat} (h0 : (K a0).1 = 10) : X10_init N a0 n K I F a1 a2 = some r0 → Ok η l (M_X10_init (am_ac1 r0) (am_az1 r0)) (am_qm η (am_pA 0 r0) (am_ac1 r0) (am_az1 r0)) 0 [(0, qr a0), (1, qr a1), (2, qr a2)] [] n K I F 0 0 := by
  unfold X10_init
  refine ok_aload_n (q := 1) 0 dX10_init_0 rfl rfl rfl ?_
  refine fi_chk (fun h_1 => ?_)
  refine ok_objInit (q := 4) dX10_init_1 rfl oi_X10_3 h_1 (Nat.le_of_ble_eq_true rfl) (Nat.le_of_ble_eq_true rfl) (Nat.le_of_ble_eq_true rfl) ?_
  refine ok_aload_n (q := 5) 0 dX10_init_4 rfl rfl rfl ?_
  refine ok_bipush (q := 7) (x := 32) dX10_init_5 rfl rfl (by decide) ?_
  refine fi_chk (fun h_6 => ?_)
  refine fi_newz (q := 9) dX10_init_7 rfl h_6 na_newz (Nat.le_refl _) (Nat.le_refl _) (fun n_2 K_3 I_4 F_5 hc_8 hz_9 h_7 => ?_)
  refine fi_chk (fun h_10 => ?_)
  refine ok_putRF (q := 12) (ci := 10) (k := 0) dX10_init_9 rfl fo_X10_9 h_10 ft_10_0 rfl ff_10_0 rfl rfl (fun F_11 => ?_)
  refine ok_aload_n (q := 13) 0 dX10_init_12 rfl rfl rfl ?_
  refine ok_bipush (q := 15) (x := 32) dX10_init_13 rfl rfl (by decide) ?_
  refine fi_newi (q := 17) dX10_init_15 rfl h_6 na_newi (Nat.le_refl _) (Nat.le_refl _) (fun n_12 K_13 I_14 F_15 hc_17 hz_18 h_16 => ?_)
  refine fi_chk (fun h_19 => ?_)
  refine ok_putRF (q := 20) (ci := 10) (k := 1) dX10_init_17 rfl fo_X10_15 h_19 ft_10_1 rfl ff_10_1 rfl rfl (fun F_20 => ?_)
  refine ok_aload_n (q := 21) 0 dX10_init_20 rfl rfl rfl ?_
  refine ok_bipush (q := 23) (x := 32) dX10_init_21 rfl rfl (by decide) ?_
  refine ok_bipush (q := 25) (x := 32) dX10_init_23 rfl rfl (by decide) ?_
  refine fi_mna (q := 29) dX10_init_25 rfl h_6 h_6 mn_X10_19 na_newi (Nat.le_refl _) (Nat.le_refl _) (fun n_21 K_22 I_23 F_24 hc_26 hz_27 h_25 => ?_)
  refine fi_chk (fun h_28 => ?_)
  refine ok_putRF (q := 32) (ci := 10) (k := 2) dX10_init_29 rfl fo_X10_21 h_28 ft_10_2 rfl ff_10_2 rfl rfl (fun F_29 => ?_)
  refine ok_aload_n (q := 33) 0 dX10_init_32 rfl rfl rfl ?_
  refine ok_bipush (q := 35) (x := 32) dX10_init_33 rfl rfl (by decide) ?_
  refine fi_newi (q := 37) dX10_init_35 rfl h_6 na_newi (Nat.le_refl _) (Nat.le_refl _) (fun n_30 K_31 I_32 F_33 hc_35 hz_36 h_34 => ?_)
  refine fi_chk (fun h_37 => ?_)
  refine ok_putRF (q := 40) (ci := 10) (k := 4) dX10_init_37 rfl fo_X10_24 h_37 ft_10_4 rfl ff_10_4 rfl rfl (fun F_38 => ?_)
  refine ok_aload_n (q := 41) 0 dX10_init_40 rfl rfl rfl ?_
  refine ok_aload_n (q := 42) 1 dX10_init_41 rfl rfl rfl ?_
  refine ok_putRF (q := 45) (ci := 10) (k := 5) dX10_init_42 rfl fo_X10_27 h_37 ft_10_5 rfl ff_10_5 rfl rfl (fun F_39 => ?_)
  refine ok_aload_n (q := 46) 0 dX10_init_45 rfl rfl rfl ?_
  refine ok_aload_n (q := 47) 2 dX10_init_46 rfl rfl rfl ?_
  refine ok_putRF (q := 50) (ci := 10) (k := 6) dX10_init_47 rfl fo_X10_31 h_37 ft_10_6 rfl ff_10_6 rfl rfl (fun F_40 => ?_)
  exact fi_returnA dX10_init_50 rfl
theorem ct_X10_init {η : am_E} {l : Launch} {N : Nat} {n : Nat} {K : am_K} {I : am_I} {F : am_F} {a0 : Nat} {r0 : am_A} {a1 : Nat} {a2 : Nat} (h0 : (K a0).1 = 10) : X10_init N a0 n K I F a1 a2 = some r0 → am_Ct η l yX10_init cX10_init 3 none 1 20 (am_ac1 r0) (am_az1 r0) [qr a0, qr a1, qr a2] n K I F (am_pA 0 r0) := fun g => am_Ct.of true (by decide) (by decide) (Nat.le_of_ble_eq_true rfl) (fun _ => w_X10_init (N := N) h0 g)
def M_X10_isLong : am_M := (yX10_isLong.cls, cX10_isLong, 2, (some .boolean), am_room 0 0 0 0, false)
def X10_isLong_b15 (N : Nat) (K : am_K) (F : am_F) (I : am_I) (a0 : Nat) (s0 : Int) : Option Int :=
  if s0 = 0 ∨ s0 = 1 then some (s0) else none
theorem w_X10_isLong_b15 {η : am_E} {l : Launch} {N : Nat} {n : Nat} {K : am_K} {I : am_I} {F : am_F} {a0 : Nat} {r0 : Int} {s0 : Int} (h0 : (K a0).1 = 10) : X10_isLong_b15 N K F I a0 s0 = some r0 → Ok η l M_X10_isLong (am_qm η (am_pS 1 (r0, I) n K F) 0 0) 15 [(0, qr a0)] [qi s0] n K I F 0 0 := by
  unfold X10_isLong_b15
  refine fi_chk (fun h_1 => ?_)
  exact fi_zreturnP dX10_isLong_15 rfl h_1
def X10_isLong (N : Nat) (K : am_K) (F : am_F) (I : am_I) (a0 : Nat) (x1 : Int) : Option Int :=
  if (K (F a0 4)).1 = 100 then if (0 : Int) ≤ x1 ∧ x1 < (K (F a0 4)).2 then if (I (F a0 4) x1) = (-1) then (X10_isLong_b15 N K F I a0 1) else (X10_isLong_b15 N K F I a0 0) else none else none
theorem w_X10_isLong {η : am_E} {l : Launch} {N : Nat} {n : Nat} {K : am_K} {I : am_I} {F : am_F} {a0 : Nat} {r0 : Int} {x1 : Int} (h0 : (K a0).1 = 10) : X10_isLong N K F I a0 x1 = some r0 → Ok η l M_X10_isLong (am_qm η (am_pS 1 (r0, I) n K F) 0 0) 0 [(0, qr a0), (1, qi x1)] [] n K I F 0 0 := by
  unfold X10_isLong
  refine ok_aload_n (q := 1) 0 dX10_isLong_0 rfl rfl rfl ?_
  refine ok_getR (q := 4) (ci := 10) (k := 4) (x := F a0 4) dX10_isLong_1 rfl fo_X10_24 h0 rfl ?_
  refine ok_iload_n (q := 5) 1 dX10_isLong_4 rfl rfl rfl ?_
  refine fi_chk (fun h_1 => ?_)
  refine fi_chk (fun h_2 => ?_)
  refine ok_iaload (q := 6) (v := I (F a0 4) x1) dX10_isLong_5 rfl h_1 h_2.1 h_2.2 rfl ?_
  refine ok_iconst (q := 7) (x := -1) dX10_isLong_6 rfl rfl (by decide) ?_
  refine ok_icmp_ne (q := 14) (q2 := 10) dX10_isLong_7 rfl rfl ?_ ?_
  · skip
    refine ok_iconst (q := 15) (x := 0) dX10_isLong_14 rfl rfl (by decide) ?_
    exact fun g => ok_pick [0] rfl (w_X10_isLong_b15 (N := N) h0 g)
  · skip
    refine ok_iconst (q := 11) (x := 1) dX10_isLong_10 rfl rfl (by decide) ?_
    refine ok_goto (q := 15) dX10_isLong_11 rfl ?_
    exact fun g => ok_pick [0] rfl (w_X10_isLong_b15 (N := N) h0 g)
theorem ct_X10_isLong {η : am_E} {l : Launch} {N : Nat} {n : Nat} {K : am_K} {I : am_I} {F : am_F} {a0 : Nat} {r0 : Int} {x1 : Int} (h0 : (K a0).1 = 10) : X10_isLong N K F I a0 x1 = some r0 → am_Ct η l yX10_isLong cX10_isLong 2 (some .boolean) 0 0 0 0 [qr a0, qi x1] n K I F (am_pS 1 (r0, I) n K F) := fun g => am_Ct.of false (by decide) (by decide) (Nat.le_of_ble_eq_true rfl) (fun _ => w_X10_isLong (N := N) h0 g)
def M_X10_openAt : am_M := (yX10_openAt.cls, cX10_openAt, 4, (some .int), am_room 0 0 0 0, false)
def X10_openAt_b34 (N : Nat) (K : am_K) (F : am_F) (I : am_I) (a0 : Nat) (k4 : Int → Int → Int → Option Int) (x1 : Int) (x2 : Int) (x3 : Int) : Option Int :=
  if am_inI (x3 + 1) then am_lt (x3 + 1) (fun x3_2 => k4 x1 x2 x3_2) else none
theorem w_X10_openAt_b34 {η : am_E} {l : Launch} {N : Nat} {n : Nat} {K : am_K} {I : am_I} {F : am_F} {a0 : Nat} {r0 : Int} {k4 : Int → Int → Int → Option Int} {x1 : Int} {x2 : Int} {x3 : Int} (h0 : (K a0).1 = 10) (H4 : ∀ (x1 : Int) (x2 : Int) (x3 : Int), k4 x1 x2 x3 = some r0 → Ok η l M_X10_openAt (am_qm η (am_pS 1 (r0, I) n K F) 0 0) 4 [(0, qr a0), (1, qi x1), (2, qi x2), (3, qi x3)] [] n K I F 0 0) : X10_openAt_b34 N K F I a0 k4 x1 x2 x3 = some r0 → Ok η l M_X10_openAt (am_qm η (am_pS 1 (r0, I) n K F) 0 0) 34 [(0, qr a0), (1, qi x1), (2, qi x2), (3, qi x3)] [] n K I F 0 0 := by
  unfold X10_openAt_b34
  refine fi_chk (fun h_1 => ?_)
  refine ok_iincL (q := 37) (fun x3_2 => [(3, qi x3_2), (0, qr a0), (1, qi x1), (2, qi x2)]) 3 dX10_openAt_34 rfl rfl h_1 (Nat.le_of_ble_eq_true rfl) (fun _ => rfl) (fun x3_2 => ?_)
  refine ok_goto (q := 4) dX10_openAt_37 rfl ?_
  exact fun g => ok_pick [1, 2, 3, 0] rfl (H4 _ _ _ g)
def X10_openAt_s4 (N : Nat) (K : am_K) (F : am_F) (I : am_I) (a0 : Nat) (k4 : Int → Int → Int → Option Int) (x1 : Int) (x2 : Int) (x3 : Int) : Option Int :=
  if (K (F a0 5)).1 = 1 then if x3 < (I (F a0 5) 2) then (if (K (F a0 0)).1 = 101 then if (0 : Int) ≤ x3 ∧ x3 < (K (F a0 0)).2 then if (I (F a0 0) x3) = 0 then (X10_openAt_b34 N K F I a0 k4 x1 x2 x3) else (if x2 = x1 then (some (x3)) else (if am_inI (x2 + 1) then am_lt (x2 + 1) (fun x2_5 => X10_openAt_b34 N K F I a0 k4 x1 x2_5 x3) else none)) else none else none) else (some (0)) else none
theorem w_X10_openAt_s4 {η : am_E} {l : Launch} {N : Nat} {n : Nat} {K : am_K} {I : am_I} {F : am_F} {a0 : Nat} {r0 : Int} {k4 : Int → Int → Int → Option Int} {x1 : Int} {x2 : Int} {x3 : Int} (h0 : (K a0).1 = 10) (H4 : ∀ (x1 : Int) (x2 : Int) (x3 : Int), k4 x1 x2 x3 = some r0 → Ok η l M_X10_openAt (am_qm η (am_pS 1 (r0, I) n K F) 0 0) 4 [(0, qr a0), (1, qi x1), (2, qi x2), (3, qi x3)] [] n K I F 0 0) : X10_openAt_s4 N K F I a0 k4 x1 x2 x3 = some r0 → Ok η l M_X10_openAt (am_qm η (am_pS 1 (r0, I) n K F) 0 0) 4 [(0, qr a0), (1, qi x1), (2, qi x2), (3, qi x3)] [] n K I F 0 0 := by
  unfold X10_openAt_s4
  refine ok_iload_n (q := 5) 3 dX10_openAt_4 rfl rfl rfl ?_
  refine ok_aload_n (q := 6) 0 dX10_openAt_5 rfl rfl rfl ?_
  refine ok_getR (q := 9) (ci := 10) (k := 5) (x := F a0 5) dX10_openAt_6 rfl fo_X10_27 h0 rfl ?_
  refine fi_chk (fun h_1 => ?_)
  refine ok_getI (q := 12) (ci := 1) (k := 2) (x := I (F a0 5) 2) dX10_openAt_9 rfl fo_X10_35 h_1 rfl ?_
  refine ok_icmp_ge (q := 40) (q2 := 15) dX10_openAt_12 rfl rfl ?_ ?_
  · skip
    refine ok_iconst (q := 41) (x := 0) dX10_openAt_40 rfl rfl (by decide) ?_
    exact fi_ireturnP dX10_openAt_41 rfl
  · skip
    refine ok_aload_n (q := 16) 0 dX10_openAt_15 rfl rfl rfl ?_
    refine ok_getR (q := 19) (ci := 10) (k := 0) (x := F a0 0) dX10_openAt_16 rfl fo_X10_9 h0 rfl ?_
    refine ok_iload_n (q := 20) 3 dX10_openAt_19 rfl rfl rfl ?_
    refine fi_chk (fun h_2 => ?_)
    refine fi_chk (fun h_3 => ?_)
    refine ok_baload (q := 21) (v := I (F a0 0) x3) dX10_openAt_20 rfl h_2 h_3.1 h_3.2 rfl ?_
    refine ok_if_eq (q := 34) (q2 := 24) dX10_openAt_21 rfl rfl ?_ ?_
    · skip
      exact fun g => ok_pick [0, 1, 2, 3] rfl (w_X10_openAt_b34 (N := N) h0 H4 g)
    · skip
      refine ok_iload_n (q := 25) 2 dX10_openAt_24 rfl rfl rfl ?_
      refine ok_iload_n (q := 26) 1 dX10_openAt_25 rfl rfl rfl ?_
      refine ok_icmp_ne (q := 31) (q2 := 29) dX10_openAt_26 rfl rfl ?_ ?_
      · skip
        refine fi_chk (fun h_4 => ?_)
        refine ok_iincL (q := 34) (fun x2_5 => [(2, qi x2_5), (0, qr a0), (1, qi x1), (3, qi x3)]) 2 dX10_openAt_31 rfl rfl h_4 (Nat.le_of_ble_eq_true rfl) (fun _ => rfl) (fun x2_5 => ?_)
        exact fun g => ok_pick [1, 2, 0, 3] rfl (w_X10_openAt_b34 (N := N) h0 H4 g)
      · skip
        refine ok_iload_n (q := 30) 3 dX10_openAt_29 rfl rfl rfl ?_
        exact fi_ireturnP dX10_openAt_30 rfl
def X10_openAt_h4 (N : Nat) (K : am_K) (F : am_F) (I : am_I) (a0 : Nat) : Nat → Int → Int → Int → Option Int := am_it (fun kh => X10_openAt_s4 N K F I a0 kh) (fun _ _ _ => none)
theorem w_X10_openAt_h4 {η : am_E} {l : Launch} {N : Nat} {n : Nat} {K : am_K} {I : am_I} {F : am_F} {a0 : Nat} {r0 : Int} (h0 : (K a0).1 = 10) (f : Nat) : ∀ (x1 : Int) (x2 : Int) (x3 : Int), X10_openAt_h4 N K F I a0 f x1 x2 x3 = some r0 → Ok η l M_X10_openAt (am_qm η (am_pS 1 (r0, I) n K F) 0 0) 4 [(0, qr a0), (1, qi x1), (2, qi x2), (3, qi x3)] [] n K I F 0 0 := by
  induction f with
  | zero => intro x1 x2 x3 g; exact fi_none g
  | succ f ih => intro x1 x2 x3 g; exact w_X10_openAt_s4 (N := N) h0 ih g
def X10_openAt (N : Nat) (K : am_K) (F : am_F) (I : am_I) (a0 : Nat) (x1 : Int) : Option Int :=
  X10_openAt_h4 N K F I a0 N x1 0 0
theorem w_X10_openAt {η : am_E} {l : Launch} {N : Nat} {n : Nat} {K : am_K} {I : am_I} {F : am_F} {a0 : Nat} {r0 : Int} {x1 : Int} (h0 : (K a0).1 = 10) : X10_openAt N K F I a0 x1 = some r0 → Ok η l M_X10_openAt (am_qm η (am_pS 1 (r0, I) n K F) 0 0) 0 [(0, qr a0), (1, qi x1)] [] n K I F 0 0 := by
  unfold X10_openAt
  refine ok_iconst (q := 1) (x := 0) dX10_openAt_0 rfl rfl (by decide) ?_
  refine ok_istore_n (q := 2) (ls' := [(2, qi 0), (0, qr a0), (1, qi x1)]) dX10_openAt_1 rfl rfl (Nat.le_of_ble_eq_true rfl) rfl ?_
  refine ok_iconst (q := 3) (x := 0) dX10_openAt_2 rfl rfl (by decide) ?_
  refine ok_istore_n (q := 4) (ls' := [(3, qi 0), (2, qi 0), (0, qr a0), (1, qi x1)]) dX10_openAt_3 rfl rfl (Nat.le_of_ble_eq_true rfl) rfl ?_
  exact fun g => ok_pick [2, 3, 1, 0] rfl (w_X10_openAt_h4 (N := N) h0 N _ _ _ g)
theorem ct_X10_openAt {η : am_E} {l : Launch} {N : Nat} {n : Nat} {K : am_K} {I : am_I} {F : am_F} {a0 : Nat} {r0 : Int} {x1 : Int} (h0 : (K a0).1 = 10) : X10_openAt N K F I a0 x1 = some r0 → am_Ct η l yX10_openAt cX10_openAt 4 (some .int) 0 0 0 0 [qr a0, qi x1] n K I F (am_pS 1 (r0, I) n K F) := fun g => am_Ct.of false (by decide) (by decide) (Nat.le_of_ble_eq_true rfl) (fun _ => w_X10_openAt (N := N) h0 g)
def M_X10_openTakingMost : am_M := (yX10_openTakingMost.cls, cX10_openTakingMost, 3, (some .int), am_room 1 23 0 0, false)
def X10_openTakingMost_b45 (N : Nat) (K : am_K) (F : am_F) (I : am_I) (a0 : Nat) (k8 : Int → Int → Option Int) (x1 : Int) (x2 : Int) : Option Int :=
  if am_inI (x2 + 1) then am_lt (x2 + 1) (fun x2_2 => k8 x1 x2_2) else none
theorem w_X10_openTakingMost_b45 {η : am_E} {l : Launch} {N : Nat} {n : Nat} {K : am_K} {I : am_I} {F : am_F} {a0 : Nat} {r0 : Int} {k8 : Int → Int → Option Int} {x1 : Int} {x2 : Int} (h0 : (K a0).1 = 10) (H8 : ∀ (x1 : Int) (x2 : Int), k8 x1 x2 = some r0 → Ok η l M_X10_openTakingMost (am_qm η (am_pS 1 (r0, I) n K F) 0 0) 8 [(0, qr a0), (1, qi x1), (2, qi x2)] [] n K I F 0 0) : X10_openTakingMost_b45 N K F I a0 k8 x1 x2 = some r0 → Ok η l M_X10_openTakingMost (am_qm η (am_pS 1 (r0, I) n K F) 0 0) 45 [(0, qr a0), (1, qi x1), (2, qi x2)] [] n K I F 0 0 := by
  unfold X10_openTakingMost_b45
  refine fi_chk (fun h_1 => ?_)
  refine ok_iincL (q := 48) (fun x2_2 => [(2, qi x2_2), (0, qr a0), (1, qi x1)]) 2 dX10_openTakingMost_45 rfl rfl h_1 (Nat.le_of_ble_eq_true rfl) (fun _ => rfl) (fun x2_2 => ?_)
  refine ok_goto (q := 8) dX10_openTakingMost_48 rfl ?_
  exact fun g => ok_pick [1, 2, 0] rfl (H8 _ _ g)
def X10_openTakingMost_s8 (N : Nat) (K : am_K) (F : am_F) (I : am_I) (a0 : Nat) (k8 : Int → Int → Option Int) (x1 : Int) (x2 : Int) : Option Int :=
  if (K (F a0 5)).1 = 1 then if x2 < (I (F a0 5) 2) then (if (K (F a0 0)).1 = 101 then if (0 : Int) ≤ x2 ∧ x2 < (K (F a0 0)).2 then if (I (F a0 0) x2) = 0 then (X10_openTakingMost_b45 N K F I a0 k8 x1 x2) else (if (K (F a0 1)).1 = 100 then if (0 : Int) ≤ x2 ∧ x2 < (K (F a0 1)).2 then if (0 : Int) ≤ x1 ∧ x1 < (K (F a0 1)).2 then if (I (F a0 1) x1) < (I (F a0 1) x2) then (X10_openTakingMost_b45 N K F I a0 k8 x2 x2) else (X10_openTakingMost_b45 N K F I a0 k8 x1 x2) else none else none else none) else none else none) else (some (x1)) else none
theorem w_X10_openTakingMost_s8 {η : am_E} {l : Launch} {N : Nat} {n : Nat} {K : am_K} {I : am_I} {F : am_F} {a0 : Nat} {r0 : Int} {k8 : Int → Int → Option Int} {x1 : Int} {x2 : Int} (h0 : (K a0).1 = 10) (H8 : ∀ (x1 : Int) (x2 : Int), k8 x1 x2 = some r0 → Ok η l M_X10_openTakingMost (am_qm η (am_pS 1 (r0, I) n K F) 0 0) 8 [(0, qr a0), (1, qi x1), (2, qi x2)] [] n K I F 0 0) : X10_openTakingMost_s8 N K F I a0 k8 x1 x2 = some r0 → Ok η l M_X10_openTakingMost (am_qm η (am_pS 1 (r0, I) n K F) 0 0) 8 [(0, qr a0), (1, qi x1), (2, qi x2)] [] n K I F 0 0 := by
  unfold X10_openTakingMost_s8
  refine ok_iload_n (q := 9) 2 dX10_openTakingMost_8 rfl rfl rfl ?_
  refine ok_aload_n (q := 10) 0 dX10_openTakingMost_9 rfl rfl rfl ?_
  refine ok_getR (q := 13) (ci := 10) (k := 5) (x := F a0 5) dX10_openTakingMost_10 rfl fo_X10_27 h0 rfl ?_
  refine fi_chk (fun h_1 => ?_)
  refine ok_getI (q := 16) (ci := 1) (k := 2) (x := I (F a0 5) 2) dX10_openTakingMost_13 rfl fo_X10_35 h_1 rfl ?_
  refine ok_icmp_ge (q := 51) (q2 := 19) dX10_openTakingMost_16 rfl rfl ?_ ?_
  · skip
    refine ok_iload_n (q := 52) 1 dX10_openTakingMost_51 rfl rfl rfl ?_
    exact fi_ireturnP dX10_openTakingMost_52 rfl
  · skip
    refine ok_aload_n (q := 20) 0 dX10_openTakingMost_19 rfl rfl rfl ?_
    refine ok_getR (q := 23) (ci := 10) (k := 0) (x := F a0 0) dX10_openTakingMost_20 rfl fo_X10_9 h0 rfl ?_
    refine ok_iload_n (q := 24) 2 dX10_openTakingMost_23 rfl rfl rfl ?_
    refine fi_chk (fun h_2 => ?_)
    refine fi_chk (fun h_3 => ?_)
    refine ok_baload (q := 25) (v := I (F a0 0) x2) dX10_openTakingMost_24 rfl h_2 h_3.1 h_3.2 rfl ?_
    refine ok_if_eq (q := 45) (q2 := 28) dX10_openTakingMost_25 rfl rfl ?_ ?_
    · skip
      exact fun g => ok_pick [0, 1, 2] rfl (w_X10_openTakingMost_b45 (N := N) h0 H8 g)
    · skip
      refine ok_aload_n (q := 29) 0 dX10_openTakingMost_28 rfl rfl rfl ?_
      refine ok_getR (q := 32) (ci := 10) (k := 1) (x := F a0 1) dX10_openTakingMost_29 rfl fo_X10_15 h0 rfl ?_
      refine ok_iload_n (q := 33) 2 dX10_openTakingMost_32 rfl rfl rfl ?_
      refine fi_chk (fun h_4 => ?_)
      refine fi_chk (fun h_5 => ?_)
      refine ok_iaload (q := 34) (v := I (F a0 1) x2) dX10_openTakingMost_33 rfl h_4 h_5.1 h_5.2 rfl ?_
      refine ok_aload_n (q := 35) 0 dX10_openTakingMost_34 rfl rfl rfl ?_
      refine ok_getR (q := 38) (ci := 10) (k := 1) (x := F a0 1) dX10_openTakingMost_35 rfl fo_X10_15 h0 rfl ?_
      refine ok_iload_n (q := 39) 1 dX10_openTakingMost_38 rfl rfl rfl ?_
      refine fi_chk (fun h_6 => ?_)
      refine ok_iaload (q := 40) (v := I (F a0 1) x1) dX10_openTakingMost_39 rfl h_4 h_6.1 h_6.2 rfl ?_
      refine ok_icmp_le (q := 45) (q2 := 43) dX10_openTakingMost_40 rfl rfl ?_ ?_
      · skip
        exact fun g => ok_pick [0, 1, 2] rfl (w_X10_openTakingMost_b45 (N := N) h0 H8 g)
      · skip
        refine ok_iload_n (q := 44) 2 dX10_openTakingMost_43 rfl rfl rfl ?_
        refine ok_istore_n (q := 45) (ls' := [(1, qi x2), (0, qr a0), (2, qi x2)]) dX10_openTakingMost_44 rfl rfl (Nat.le_of_ble_eq_true rfl) rfl ?_
        exact fun g => ok_pick [1, 0, 2] rfl (w_X10_openTakingMost_b45 (N := N) h0 H8 g)
def X10_openTakingMost_h8 (N : Nat) (K : am_K) (F : am_F) (I : am_I) (a0 : Nat) : Nat → Int → Int → Option Int := am_it (fun kh => X10_openTakingMost_s8 N K F I a0 kh) (fun _ _ => none)
theorem w_X10_openTakingMost_h8 {η : am_E} {l : Launch} {N : Nat} {n : Nat} {K : am_K} {I : am_I} {F : am_F} {a0 : Nat} {r0 : Int} (h0 : (K a0).1 = 10) (f : Nat) : ∀ (x1 : Int) (x2 : Int), X10_openTakingMost_h8 N K F I a0 f x1 x2 = some r0 → Ok η l M_X10_openTakingMost (am_qm η (am_pS 1 (r0, I) n K F) 0 0) 8 [(0, qr a0), (1, qi x1), (2, qi x2)] [] n K I F 0 0 := by
  induction f with
  | zero => intro x1 x2 g; exact fi_none g
  | succ f ih => intro x1 x2 g; exact w_X10_openTakingMost_s8 (N := N) h0 ih g
def X10_openTakingMost (N : Nat) (K : am_K) (F : am_F) (I : am_I) (a0 : Nat) : Option Int :=
  am_cq (X10_openAt N K F I a0 0) (fun v_1 => X10_openTakingMost_h8 N K F I a0 N v_1 0)
theorem w_X10_openTakingMost {η : am_E} {l : Launch} {N : Nat} {n : Nat} {K : am_K} {I : am_I} {F : am_F} {a0 : Nat} {r0 : Int} (h0 : (K a0).1 = 10) : X10_openTakingMost N K F I a0 = some r0 → Ok η l M_X10_openTakingMost (am_qm η (am_pS 1 (r0, I) n K F) 0 0) 0 [(0, qr a0)] [] n K I F 0 0 := by
  unfold X10_openTakingMost
  refine ok_aload_n (q := 1) 0 dX10_openTakingMost_0 rfl rfl rfl ?_
  refine ok_iconst (q := 2) (x := 0) dX10_openTakingMost_1 rfl rfl (by decide) ?_
  refine fi_callV1P (q := 5) (as := [qi 0]) (st := []) dX10_openTakingMost_2 rfl mo_X10_54 h0 rfl (Nat.le_of_ble_eq_true rfl) rfl rfl (Nat.le_of_ble_eq_true rfl) (Nat.le_of_ble_eq_true rfl) (Nat.le_of_ble_eq_true rfl) (Nat.zero_le _) (Nat.zero_le _) (fun _ hr => ct_X10_openAt (N := N) h0 hr) (fun v_1 => ?_)
  refine ok_istore_n (q := 6) (ls' := [(1, qi v_1), (0, qr a0)]) dX10_openTakingMost_5 rfl rfl (Nat.le_of_ble_eq_true rfl) rfl ?_
  refine ok_iconst (q := 7) (x := 0) dX10_openTakingMost_6 rfl rfl (by decide) ?_
  refine ok_istore_n (q := 8) (ls' := [(2, qi 0), (1, qi v_1), (0, qr a0)]) dX10_openTakingMost_7 rfl rfl (Nat.le_of_ble_eq_true rfl) rfl ?_
  exact fun g => ok_pick [2, 1, 0] rfl (w_X10_openTakingMost_h8 (N := N) h0 N _ _ g)
theorem ct_X10_openTakingMost {η : am_E} {l : Launch} {N : Nat} {n : Nat} {K : am_K} {I : am_I} {F : am_F} {a0 : Nat} {r0 : Int} (h0 : (K a0).1 = 10) : X10_openTakingMost N K F I a0 = some r0 → am_Ct η l yX10_openTakingMost cX10_openTakingMost 3 (some .int) 1 23 0 0 [qr a0] n K I F (am_pS 1 (r0, I) n K F) := fun g => am_Ct.of false (by decide) (by decide) (Nat.le_of_ble_eq_true rfl) (fun _ => w_X10_openTakingMost (N := N) h0 g)
def M_X11_forgetRuling : am_M := (yX11_forgetRuling.cls, cX11_forgetRuling, 1, none, am_room 2 40 0 0, false)
def X11_forgetRuling (N : Nat) (K : am_K) (F : am_F) (a0 : Nat) (I : am_I) : Option (Int × am_I) :=
  if (K (F a0 5)).1 = 4 then am_cl (X4_clear N K F (F a0 5) I) (fun _ I_2 => if (K (F a0 6)).1 = 9 then am_cl (X9_forget N K F (F a0 6) I_2) (fun _ I_4 => some (0, I_4)) else none) else none
theorem w_X11_forgetRuling {η : am_E} {l : Launch} {N : Nat} {n : Nat} {K : am_K} {I : am_I} {F : am_F} {a0 : Nat} {r0 : Int × am_I} (h0 : (K a0).1 = 11) : X11_forgetRuling N K F a0 I = some r0 → Ok η l M_X11_forgetRuling (am_qm η (am_pS 0 r0 n K F) 0 0) 0 [(0, qr a0)] [] n K I F 0 0 := by
  unfold X11_forgetRuling
  refine ok_aload_n (q := 1) 0 dX11_forgetRuling_0 rfl rfl rfl ?_
  refine ok_getR (q := 4) (ci := 11) (k := 5) (x := F a0 5) dX11_forgetRuling_1 rfl fo_X11_51 h0 rfl ?_
  refine fi_chk (fun h_1 => ?_)
  refine fi_callV0S (q := 7) (as := []) (st := []) dX11_forgetRuling_4 rfl mo_X11_122 h_1 rfl (Nat.le_of_ble_eq_true rfl) rfl rfl (Nat.le_of_ble_eq_true rfl) (Nat.le_of_ble_eq_true rfl) (Nat.le_of_ble_eq_true rfl) (Nat.zero_le _) (Nat.zero_le _) (fun _ hr => ct_X4_clear (N := N) h_1 hr) (fun _ I_2 => ?_)
  refine ok_aload_n (q := 8) 0 dX11_forgetRuling_7 rfl rfl rfl ?_
  refine ok_getR (q := 11) (ci := 11) (k := 6) (x := F a0 6) dX11_forgetRuling_8 rfl fo_X11_65 h0 rfl ?_
  refine fi_chk (fun h_3 => ?_)
  refine fi_callV0S (q := 14) (as := []) (st := []) dX11_forgetRuling_11 rfl mo_X11_349 h_3 rfl (Nat.le_of_ble_eq_true rfl) rfl rfl (Nat.le_of_ble_eq_true rfl) (Nat.le_of_ble_eq_true rfl) (Nat.le_of_ble_eq_true rfl) (Nat.zero_le _) (Nat.zero_le _) (fun _ hr => ct_X9_forget (N := N) h_3 hr) (fun _ I_4 => ?_)
  exact fi_returnS dX11_forgetRuling_14 rfl
theorem ct_X11_forgetRuling {η : am_E} {l : Launch} {N : Nat} {n : Nat} {K : am_K} {I : am_I} {F : am_F} {a0 : Nat} {r0 : Int × am_I} (h0 : (K a0).1 = 11) : X11_forgetRuling N K F a0 I = some r0 → am_Ct η l yX11_forgetRuling cX11_forgetRuling 1 none 2 40 0 0 [qr a0] n K I F (am_pS 0 r0 n K F) := fun g => am_Ct.of false (by decide) (by decide) (Nat.le_of_ble_eq_true rfl) (fun _ => w_X11_forgetRuling (N := N) h0 g)
def M_X11_layBoard : am_M := (yX11_layBoard.cls, cX11_layBoard, 3, none, am_room 4 91 0 0, false)
def X11_layBoard (N : Nat) (K : am_K) (F : am_F) (a0 : Nat) (I : am_I) (x1 : Int) (x2 : Int) : Option (Int × am_I) :=
  if (K (F a0 0)).1 = 1 then am_cl (X1_lay N K F (F a0 0) I x1 x2) (fun _ I_2 => if (K (F a0 1)).1 = 8 then am_cl (X8_becomeFirst N K F (F a0 1) I_2) (fun _ I_4 => if (K (F a0 2)).1 = 6 then am_cl (X6_clear N K F (F a0 2) I_4) (fun _ I_6 => if (K (F a0 8)).1 = 104 then if (0 : Int) ≤ 0 ∧ 0 < (K (F a0 8)).2 then if (K (F (F a0 8) 0)).1 = 5 then am_cl (X5_become N K F (F (F a0 8) 0) I_6 0 0) (fun _ I_10 => if (0 : Int) ≤ 1 ∧ 1 < (K (F a0 8)).2 then if (K (F (F a0 8) 1)).1 = 5 then am_cl (X5_become N K F (F (F a0 8) 1) I_10 0 0) (fun _ I_13 => if (K (F a0 7)).1 = 2 then am_cl (X2_clear N K F (F a0 7) I_13) (fun _ I_15 => am_cl (X11_forgetRuling N K F a0 I_15) (fun _ I_16 => some (0, I_16))) else none) else none else none) else none else none else none) else none) else none) else none
theorem w_X11_layBoard {η : am_E} {l : Launch} {N : Nat} {n : Nat} {K : am_K} {I : am_I} {F : am_F} {a0 : Nat} {r0 : Int × am_I} {x1 : Int} {x2 : Int} (h0 : (K a0).1 = 11) : X11_layBoard N K F a0 I x1 x2 = some r0 → Ok η l M_X11_layBoard (am_qm η (am_pS 0 r0 n K F) 0 0) 0 [(0, qr a0), (1, qi x1), (2, qi x2)] [] n K I F 0 0 := by
  unfold X11_layBoard
  refine ok_aload_n (q := 1) 0 dX11_layBoard_0 rfl rfl rfl ?_
  refine ok_getR (q := 4) (ci := 11) (k := 0) (x := F a0 0) dX11_layBoard_1 rfl fo_X11_12 h0 rfl ?_
  refine ok_iload_n (q := 5) 1 dX11_layBoard_4 rfl rfl rfl ?_
  refine ok_iload_n (q := 6) 2 dX11_layBoard_5 rfl rfl rfl ?_
  refine fi_chk (fun h_1 => ?_)
  refine fi_callV0S (q := 9) (as := [qi x1, qi x2]) (st := []) dX11_layBoard_6 rfl mo_X11_342 h_1 rfl (Nat.le_of_ble_eq_true rfl) rfl rfl (Nat.le_of_ble_eq_true rfl) (Nat.le_of_ble_eq_true rfl) (Nat.le_of_ble_eq_true rfl) (Nat.zero_le _) (Nat.zero_le _) (fun _ hr => ct_X1_lay (N := N) h_1 hr) (fun _ I_2 => ?_)
  refine ok_aload_n (q := 10) 0 dX11_layBoard_9 rfl rfl rfl ?_
  refine ok_getR (q := 13) (ci := 11) (k := 1) (x := F a0 1) dX11_layBoard_10 rfl fo_X11_19 h0 rfl ?_
  refine fi_chk (fun h_3 => ?_)
  refine fi_callV0S (q := 16) (as := []) (st := []) dX11_layBoard_13 rfl mo_X11_345 h_3 rfl (Nat.le_of_ble_eq_true rfl) rfl rfl (Nat.le_of_ble_eq_true rfl) (Nat.le_of_ble_eq_true rfl) (Nat.le_of_ble_eq_true rfl) (Nat.zero_le _) (Nat.zero_le _) (fun _ hr => ct_X8_becomeFirst (N := N) h_3 hr) (fun _ I_4 => ?_)
  refine ok_aload_n (q := 17) 0 dX11_layBoard_16 rfl rfl rfl ?_
  refine ok_getR (q := 20) (ci := 11) (k := 2) (x := F a0 2) dX11_layBoard_17 rfl fo_X11_26 h0 rfl ?_
  refine fi_chk (fun h_5 => ?_)
  refine fi_callV0S (q := 23) (as := []) (st := []) dX11_layBoard_20 rfl mo_X11_348 h_5 rfl (Nat.le_of_ble_eq_true rfl) rfl rfl (Nat.le_of_ble_eq_true rfl) (Nat.le_of_ble_eq_true rfl) (Nat.le_of_ble_eq_true rfl) (Nat.zero_le _) (Nat.zero_le _) (fun _ hr => ct_X6_clear (N := N) h_5 hr) (fun _ I_6 => ?_)
  refine ok_aload_n (q := 24) 0 dX11_layBoard_23 rfl rfl rfl ?_
  refine ok_getR (q := 27) (ci := 11) (k := 8) (x := F a0 8) dX11_layBoard_24 rfl fo_X11_79 h0 rfl ?_
  refine ok_iconst (q := 28) (x := 0) dX11_layBoard_27 rfl rfl (by decide) ?_
  refine fi_chk (fun h_7 => ?_)
  refine fi_chk (fun h_8 => ?_)
  refine ok_aaload (q := 29) (i := 1) (v := F (F a0 8) 0) dX11_layBoard_28 rfl h_7 (by decide) rfl rfl h_8.1 h_8.2 rfl ?_
  refine ok_iconst (q := 30) (x := 0) dX11_layBoard_29 rfl rfl (by decide) ?_
  refine ok_lconst (q := 31) (x := 0) dX11_layBoard_30 rfl rfl (by decide) ?_
  refine fi_chk (fun h_9 => ?_)
  refine fi_callV0S (q := 34) (as := [qi 0, ql 0]) (st := []) dX11_layBoard_31 rfl mo_X11_320 h_9 rfl (Nat.le_of_ble_eq_true rfl) rfl rfl (Nat.le_of_ble_eq_true rfl) (Nat.le_of_ble_eq_true rfl) (Nat.le_of_ble_eq_true rfl) (Nat.zero_le _) (Nat.zero_le _) (fun _ hr => ct_X5_become (N := N) h_9 hr) (fun _ I_10 => ?_)
  refine ok_aload_n (q := 35) 0 dX11_layBoard_34 rfl rfl rfl ?_
  refine ok_getR (q := 38) (ci := 11) (k := 8) (x := F a0 8) dX11_layBoard_35 rfl fo_X11_79 h0 rfl ?_
  refine ok_iconst (q := 39) (x := 1) dX11_layBoard_38 rfl rfl (by decide) ?_
  refine fi_chk (fun h_11 => ?_)
  refine ok_aaload (q := 40) (i := 1) (v := F (F a0 8) 1) dX11_layBoard_39 rfl h_7 (by decide) rfl rfl h_11.1 h_11.2 rfl ?_
  refine ok_iconst (q := 41) (x := 0) dX11_layBoard_40 rfl rfl (by decide) ?_
  refine ok_lconst (q := 42) (x := 0) dX11_layBoard_41 rfl rfl (by decide) ?_
  refine fi_chk (fun h_12 => ?_)
  refine fi_callV0S (q := 45) (as := [qi 0, ql 0]) (st := []) dX11_layBoard_42 rfl mo_X11_320 h_12 rfl (Nat.le_of_ble_eq_true rfl) rfl rfl (Nat.le_of_ble_eq_true rfl) (Nat.le_of_ble_eq_true rfl) (Nat.le_of_ble_eq_true rfl) (Nat.zero_le _) (Nat.zero_le _) (fun _ hr => ct_X5_become (N := N) h_12 hr) (fun _ I_13 => ?_)
  refine ok_aload_n (q := 46) 0 dX11_layBoard_45 rfl rfl rfl ?_
  refine ok_getR (q := 49) (ci := 11) (k := 7) (x := F a0 7) dX11_layBoard_46 rfl fo_X11_72 h0 rfl ?_
  refine fi_chk (fun h_14 => ?_)
  refine fi_callV0S (q := 52) (as := []) (st := []) dX11_layBoard_49 rfl mo_X11_244 h_14 rfl (Nat.le_of_ble_eq_true rfl) rfl rfl (Nat.le_of_ble_eq_true rfl) (Nat.le_of_ble_eq_true rfl) (Nat.le_of_ble_eq_true rfl) (Nat.zero_le _) (Nat.zero_le _) (fun _ hr => ct_X2_clear (N := N) h_14 hr) (fun _ I_15 => ?_)
  refine ok_aload_n (q := 53) 0 dX11_layBoard_52 rfl rfl rfl ?_
  refine fi_callV0S (q := 56) (as := []) (st := []) dX11_layBoard_53 rfl mo_X11_119 h0 rfl (Nat.le_of_ble_eq_true rfl) rfl rfl (Nat.le_of_ble_eq_true rfl) (Nat.le_of_ble_eq_true rfl) (Nat.le_of_ble_eq_true rfl) (Nat.zero_le _) (Nat.zero_le _) (fun _ hr => ct_X11_forgetRuling (N := N) h0 hr) (fun _ I_16 => ?_)
  exact fi_returnS dX11_layBoard_56 rfl
theorem ct_X11_layBoard {η : am_E} {l : Launch} {N : Nat} {n : Nat} {K : am_K} {I : am_I} {F : am_F} {a0 : Nat} {r0 : Int × am_I} {x1 : Int} {x2 : Int} (h0 : (K a0).1 = 11) : X11_layBoard N K F a0 I x1 x2 = some r0 → am_Ct η l yX11_layBoard cX11_layBoard 3 none 4 91 0 0 [qr a0, qi x1, qi x2] n K I F (am_pS 0 r0 n K F) := fun g => am_Ct.of false (by decide) (by decide) (Nat.le_of_ble_eq_true rfl) (fun _ => w_X11_layBoard (N := N) h0 g)
def M_X11_init (mc ms : Nat) : am_M := (yX11_init.cls, cX11_init, 1, none, am_room 5 113 mc ms, true)
def X11_init (N : Nat) (a0 : Nat) (n : Nat) (K : am_K) (I : am_I) (F : am_F) : Option am_A :=
  if a0 ≠ 0 then am_nw n (1, 0) K I F (fun n_2 K_3 I_4 F_5 => am_mo (0 + 1) (0 + 15) (if n ≠ 0 then am_ca (X1_init N n n_2 K_3 I_4 F_5) (fun _ n_10 K_11 I_12 F_13 c_14 z_15 => am_mo ((0 + 1) + c_14) ((0 + 15) + z_15) (if (K_11 a0).1 = 11 then am_lt (am_u2 F_13 a0 0 n) (fun F_19 => am_nw n_10 (8, 0) K_11 I_12 F_19 (fun n_20 K_21 I_22 F_23 => am_mo (((0 + 1) + c_14) + 1) (((0 + 15) + z_15) + 7) (if n_10 ≠ 0 then am_ca (X8_init N n_10 n_20 K_21 I_22 F_23) (fun _ n_28 K_29 I_30 F_31 c_32 z_33 => am_mo ((((0 + 1) + c_14) + 1) + c_32) ((((0 + 15) + z_15) + 7) + z_33) (if (K_29 a0).1 = 11 then am_lt (am_u2 F_31 a0 1 n_10) (fun F_37 => am_nw n_28 (6, 0) K_29 I_30 F_37 (fun n_38 K_39 I_40 F_41 => am_mo (((((0 + 1) + c_14) + 1) + c_32) + 1) (((((0 + 15) + z_15) + 7) + z_33) + 3) (if n_28 ≠ 0 then am_ca (X6_init N n_28 n_38 K_39 I_40 F_41) (fun _ n_46 K_47 I_48 F_49 c_50 z_51 => am_mo ((((((0 + 1) + c_14) + 1) + c_32) + 1) + c_50) ((((((0 + 15) + z_15) + 7) + z_33) + 3) + z_51) (if (K_47 a0).1 = 11 then am_lt (am_u2 F_49 a0 2 n_28) (fun F_55 => am_nw n_46 (10, 0) K_47 I_48 F_55 (fun n_56 K_57 I_58 F_59 => am_mo (((((((0 + 1) + c_14) + 1) + c_32) + 1) + c_50) + 1) (((((((0 + 15) + z_15) + 7) + z_33) + 3) + z_51) + 7) (if (K_57 a0).1 = 11 then if n_46 ≠ 0 then am_ca (X10_init N n_46 n_56 K_57 I_58 F_59 (F_59 a0 0) (F_59 a0 1)) (fun _ n_65 K_66 I_67 F_68 c_69 z_70 => am_mo ((((((((0 + 1) + c_14) + 1) + c_32) + 1) + c_50) + 1) + c_69) ((((((((0 + 15) + z_15) + 7) + z_33) + 3) + z_51) + 7) + z_70) (if (K_66 a0).1 = 11 then am_lt (am_u2 F_68 a0 3 n_46) (fun F_74 => am_nw n_65 (3, 0) K_66 I_67 F_74 (fun n_75 K_76 I_77 F_78 => am_mo (((((((((0 + 1) + c_14) + 1) + c_32) + 1) + c_50) + 1) + c_69) + 1) (((((((((0 + 15) + z_15) + 7) + z_33) + 3) + z_51) + 7) + z_70) + 3) (if (K_76 a0).1 = 11 then if n_65 ≠ 0 then am_ca (X3_init N n_65 n_75 K_76 I_77 F_78 (F_78 a0 0)) (fun _ n_84 K_85 I_86 F_87 c_88 z_89 => am_mo ((((((((((0 + 1) + c_14) + 1) + c_32) + 1) + c_50) + 1) + c_69) + 1) + c_88) ((((((((((0 + 15) + z_15) + 7) + z_33) + 3) + z_51) + 7) + z_70) + 3) + z_89) (if (K_85 a0).1 = 11 then am_lt (am_u2 F_87 a0 4 n_65) (fun F_93 => am_nw n_84 (4, 0) K_85 I_86 F_93 (fun n_94 K_95 I_96 F_97 => am_mo (((((((((((0 + 1) + c_14) + 1) + c_32) + 1) + c_50) + 1) + c_69) + 1) + c_88) + 1) (((((((((((0 + 15) + z_15) + 7) + z_33) + 3) + z_51) + 7) + z_70) + 3) + z_89) + 4) (if n_84 ≠ 0 then am_ca (X4_init N n_84 n_94 K_95 I_96 F_97) (fun _ n_102 K_103 I_104 F_105 c_106 z_107 => am_mo ((((((((((((0 + 1) + c_14) + 1) + c_32) + 1) + c_50) + 1) + c_69) + 1) + c_88) + 1) + c_106) ((((((((((((0 + 15) + z_15) + 7) + z_33) + 3) + z_51) + 7) + z_70) + 3) + z_89) + 4) + z_107) (if (K_103 a0).1 = 11 then am_lt (am_u2 F_105 a0 5 n_84) (fun F_111 => am_nw n_102 (9, 0) K_103 I_104 F_111 (fun n_112 K_113 I_114 F_115 => am_mo (((((((((((((0 + 1) + c_14) + 1) + c_32) + 1) + c_50) + 1) + c_69) + 1) + c_88) + 1) + c_106) + 1) (((((((((((((0 + 15) + z_15) + 7) + z_33) + 3) + z_51) + 7) + z_70) + 3) + z_89) + 4) + z_107) + 13) (if (K_113 a0).1 = 11 then am_nw n_112 (0, 0) K_113 I_114 F_115 (fun n_120 K_121 I_122 F_123 => am_mo ((((((((((((((0 + 1) + c_14) + 1) + c_32) + 1) + c_50) + 1) + c_69) + 1) + c_88) + 1) + c_106) + 1) + 1) ((((((((((((((0 + 15) + z_15) + 7) + z_33) + 3) + z_51) + 7) + z_70) + 3) + z_89) + 4) + z_107) + 13) + 9) (if (K_121 a0).1 = 11 then if n_112 ≠ 0 then am_ca (X0_init N n_112 n_120 K_121 I_122 F_123 (F_123 a0 0) (F_123 a0 1) (F_123 a0 3) (F_123 a0 4)) (fun _ n_129 K_130 I_131 F_132 c_133 z_134 => am_mo (((((((((((((((0 + 1) + c_14) + 1) + c_32) + 1) + c_50) + 1) + c_69) + 1) + c_88) + 1) + c_106) + 1) + 1) + c_133) (((((((((((((((0 + 15) + z_15) + 7) + z_33) + 3) + z_51) + 7) + z_70) + 3) + z_89) + 4) + z_107) + 13) + 9) + z_134) (if n_102 ≠ 0 then if (K_130 n_102).1 = 9 then am_ca (X9_init N n_102 n_129 K_130 I_131 F_132 (F_115 a0 0) (F_115 a0 4) n_112) (fun _ n_139 K_140 I_141 F_142 c_143 z_144 => am_mo ((((((((((((((((0 + 1) + c_14) + 1) + c_32) + 1) + c_50) + 1) + c_69) + 1) + c_88) + 1) + c_106) + 1) + 1) + c_133) + c_143) ((((((((((((((((0 + 15) + z_15) + 7) + z_33) + 3) + z_51) + 7) + z_70) + 3) + z_89) + 4) + z_107) + 13) + 9) + z_134) + z_144) (if (K_140 a0).1 = 11 then am_lt (am_u2 F_142 a0 6 n_102) (fun F_148 => am_nw n_139 (2, 0) K_140 I_141 F_148 (fun n_149 K_150 I_151 F_152 => am_mo (((((((((((((((((0 + 1) + c_14) + 1) + c_32) + 1) + c_50) + 1) + c_69) + 1) + c_88) + 1) + c_106) + 1) + 1) + c_133) + c_143) + 1) (((((((((((((((((0 + 15) + z_15) + 7) + z_33) + 3) + z_51) + 7) + z_70) + 3) + z_89) + 4) + z_107) + 13) + 9) + z_134) + z_144) + 5) (if n_139 ≠ 0 then am_ca (X2_init N n_139 n_149 K_150 I_151 F_152) (fun _ n_157 K_158 I_159 F_160 c_161 z_162 => am_mo ((((((((((((((((((0 + 1) + c_14) + 1) + c_32) + 1) + c_50) + 1) + c_69) + 1) + c_88) + 1) + c_106) + 1) + 1) + c_133) + c_143) + 1) + c_161) ((((((((((((((((((0 + 15) + z_15) + 7) + z_33) + 3) + z_51) + 7) + z_70) + 3) + z_89) + 4) + z_107) + 13) + 9) + z_134) + z_144) + 5) + z_162) (if (K_158 a0).1 = 11 then am_lt (am_u2 F_160 a0 7 n_139) (fun F_166 => if (0 : Int) ≤ 2 ∧ 2 ≤ (60000000 : Int) then am_nw n_157 (104, 2) K_158 I_159 F_166 (fun n_167 K_168 I_169 F_170 => am_mo (((((((((((((((((((0 + 1) + c_14) + 1) + c_32) + 1) + c_50) + 1) + c_69) + 1) + c_88) + 1) + c_106) + 1) + 1) + c_133) + c_143) + 1) + c_161) + 1) (((((((((((((((((((0 + 15) + z_15) + 7) + z_33) + 3) + z_51) + 7) + z_70) + 3) + z_89) + 4) + z_107) + 13) + 9) + z_134) + z_144) + 5) + z_162) + (2 : Int).toNat) (am_nw n_167 (5, 0) K_168 I_169 F_170 (fun n_175 K_176 I_177 F_178 => am_mo ((((((((((((((((((((0 + 1) + c_14) + 1) + c_32) + 1) + c_50) + 1) + c_69) + 1) + c_88) + 1) + c_106) + 1) + 1) + c_133) + c_143) + 1) + c_161) + 1) + 1) ((((((((((((((((((((0 + 15) + z_15) + 7) + z_33) + 3) + z_51) + 7) + z_70) + 3) + z_89) + 4) + z_107) + 13) + 9) + z_134) + z_144) + 5) + z_162) + (2 : Int).toNat) + 2) (if n_167 ≠ 0 then am_ca (X5_init N n_167 n_175 K_176 I_177 F_178) (fun _ n_183 K_184 I_185 F_186 c_187 z_188 => am_mo (((((((((((((((((((((0 + 1) + c_14) + 1) + c_32) + 1) + c_50) + 1) + c_69) + 1) + c_88) + 1) + c_106) + 1) + 1) + c_133) + c_143) + 1) + c_161) + 1) + 1) + c_187) (((((((((((((((((((((0 + 15) + z_15) + 7) + z_33) + 3) + z_51) + 7) + z_70) + 3) + z_89) + 4) + z_107) + 13) + 9) + z_134) + z_144) + 5) + z_162) + (2 : Int).toNat) + 2) + z_188) (if (K_184 n_157).1 = 104 then if (K_184 n_167).1 = 5 then if (0 : Int) ≤ 0 ∧ 0 < (K_184 n_157).2 then am_lt (am_u2 F_186 n_157 0 n_167) (fun F_194 => am_nw n_183 (5, 0) K_184 I_185 F_194 (fun n_198 K_199 I_200 F_201 => am_mo ((((((((((((((((((((((0 + 1) + c_14) + 1) + c_32) + 1) + c_50) + 1) + c_69) + 1) + c_88) + 1) + c_106) + 1) + 1) + c_133) + c_143) + 1) + c_161) + 1) + 1) + c_187) + 1) ((((((((((((((((((((((0 + 15) + z_15) + 7) + z_33) + 3) + z_51) + 7) + z_70) + 3) + z_89) + 4) + z_107) + 13) + 9) + z_134) + z_144) + 5) + z_162) + (2 : Int).toNat) + 2) + z_188) + 2) (if n_183 ≠ 0 then am_ca (X5_init N n_183 n_198 K_199 I_200 F_201) (fun _ n_206 K_207 I_208 F_209 c_210 z_211 => am_mo (((((((((((((((((((((((0 + 1) + c_14) + 1) + c_32) + 1) + c_50) + 1) + c_69) + 1) + c_88) + 1) + c_106) + 1) + 1) + c_133) + c_143) + 1) + c_161) + 1) + 1) + c_187) + 1) + c_210) (((((((((((((((((((((((0 + 15) + z_15) + 7) + z_33) + 3) + z_51) + 7) + z_70) + 3) + z_89) + 4) + z_107) + 13) + 9) + z_134) + z_144) + 5) + z_162) + (2 : Int).toNat) + 2) + z_188) + 2) + z_211) (if (K_207 n_157).1 = 104 then if (K_207 n_183).1 = 5 then if (0 : Int) ≤ 1 ∧ 1 < (K_207 n_157).2 then am_lt (am_u2 F_209 n_157 1 n_183) (fun F_217 => if (K_207 a0).1 = 11 then am_lt (am_u2 F_217 a0 8 n_157) (fun F_222 => am_lt (am_u2 I_208 a0 9 0) (fun I_223 => am_cl (X11_layBoard N K_207 F_222 a0 I_223 2 3) (fun _ I_224 => some (0, n_206, K_207, I_224, F_222, (((((((((((((((((((((((0 + 1) + c_14) + 1) + c_32) + 1) + c_50) + 1) + c_69) + 1) + c_88) + 1) + c_106) + 1) + 1) + c_133) + c_143) + 1) + c_161) + 1) + 1) + c_187) + 1) + c_210), (((((((((((((((((((((((0 + 15) + z_15) + 7) + z_33) + 3) + z_51) + 7) + z_70) + 3) + z_89) + 4) + z_107) + 13) + 9) + z_134) + z_144) + 5) + z_162) + (2 : Int).toNat) + 2) + z_188) + 2) + z_211))))) else none) else none else none else none)) else none))) else none else none else none)) else none)))) else none) else none)) else none))) else none)) else none else none)) else none else none)) else none))) else none)) else none))) else none)) else none else none))) else none)) else none else none))) else none)) else none))) else none)) else none))) else none)) else none)) else none
theorem w_X11_init {η : am_E} {l : Launch} {N : Nat} {n : Nat} {K : am_K} {I : am_I} {F : am_F} {a0 : Nat} {r0 : am_A} (h0 : (K a0).1 = 11) : X11_init N a0 n K I F = some r0 → Ok η l (M_X11_init (am_ac1 r0) (am_az1 r0)) (am_qm η (am_pA 0 r0) (am_ac1 r0) (am_az1 r0)) 0 [(0, qr a0)] [] n K I F 0 0 := by
  unfold X11_init
  refine ok_aload_n (q := 1) 0 dX11_init_0 rfl rfl rfl ?_
  refine fi_chk (fun h_1 => ?_)
  refine ok_objInit (q := 4) dX11_init_1 rfl oi_X11_3 h_1 (Nat.le_of_ble_eq_true rfl) (Nat.le_of_ble_eq_true rfl) (Nat.le_of_ble_eq_true rfl) ?_
  refine ok_aload_n (q := 5) 0 dX11_init_4 rfl rfl rfl ?_
  refine fi_new (q := 8) dX11_init_5 rfl nw_X11_9 (Nat.le_refl _) (Nat.le_refl _) (fun n_2 K_3 I_4 F_5 hc_7 hz_8 h_6 => ?_)
  refine ok_dup (q := 9) dX11_init_8 rfl rfl ?_
  refine fi_chk (fun h_9 => ?_)
  refine fi_callI0A (q := 12) (as := []) (st := [qr n, qr a0]) dX11_init_9 rfl mo_X11_11 h_9 rfl rfl (Nat.le_of_ble_eq_true rfl) (Nat.le_of_ble_eq_true rfl) (Nat.le_of_ble_eq_true rfl) (Nat.le_refl _) (Nat.le_refl _) (fun _ hr => ct_X1_init (N := N) (congrArg Prod.fst h_6) hr) (fun _ n_10 K_11 I_12 F_13 c_14 z_15 hc_16 hz_17 => ?_)
  refine fi_chk (fun h_18 => ?_)
  refine ok_putRF (q := 15) (ci := 11) (k := 0) dX11_init_12 rfl fo_X11_12 h_18 ft_11_0 rfl ff_11_0 rfl rfl (fun F_19 => ?_)
  refine ok_aload_n (q := 16) 0 dX11_init_15 rfl rfl rfl ?_
  refine fi_new (q := 19) dX11_init_16 rfl nw_X11_16 (Nat.le_refl _) (Nat.le_refl _) (fun n_20 K_21 I_22 F_23 hc_25 hz_26 h_24 => ?_)
  refine ok_dup (q := 20) dX11_init_19 rfl rfl ?_
  refine fi_chk (fun h_27 => ?_)
  refine fi_callI0A (q := 23) (as := []) (st := [qr n_10, qr a0]) dX11_init_20 rfl mo_X11_18 h_27 rfl rfl (Nat.le_of_ble_eq_true rfl) (Nat.le_of_ble_eq_true rfl) (Nat.le_of_ble_eq_true rfl) (Nat.le_refl _) (Nat.le_refl _) (fun _ hr => ct_X8_init (N := N) (congrArg Prod.fst h_24) hr) (fun _ n_28 K_29 I_30 F_31 c_32 z_33 hc_34 hz_35 => ?_)
  refine fi_chk (fun h_36 => ?_)
  refine ok_putRF (q := 26) (ci := 11) (k := 1) dX11_init_23 rfl fo_X11_19 h_36 ft_11_1 rfl ff_11_1 rfl rfl (fun F_37 => ?_)
  refine ok_aload_n (q := 27) 0 dX11_init_26 rfl rfl rfl ?_
  refine fi_new (q := 30) dX11_init_27 rfl nw_X11_23 (Nat.le_refl _) (Nat.le_refl _) (fun n_38 K_39 I_40 F_41 hc_43 hz_44 h_42 => ?_)
  refine ok_dup (q := 31) dX11_init_30 rfl rfl ?_
  refine fi_chk (fun h_45 => ?_)
  refine fi_callI0A (q := 34) (as := []) (st := [qr n_28, qr a0]) dX11_init_31 rfl mo_X11_25 h_45 rfl rfl (Nat.le_of_ble_eq_true rfl) (Nat.le_of_ble_eq_true rfl) (Nat.le_of_ble_eq_true rfl) (Nat.le_refl _) (Nat.le_refl _) (fun _ hr => ct_X6_init (N := N) (congrArg Prod.fst h_42) hr) (fun _ n_46 K_47 I_48 F_49 c_50 z_51 hc_52 hz_53 => ?_)
  refine fi_chk (fun h_54 => ?_)
  refine ok_putRF (q := 37) (ci := 11) (k := 2) dX11_init_34 rfl fo_X11_26 h_54 ft_11_2 rfl ff_11_2 rfl rfl (fun F_55 => ?_)
  refine ok_aload_n (q := 38) 0 dX11_init_37 rfl rfl rfl ?_
  refine fi_new (q := 41) dX11_init_38 rfl nw_X11_30 (Nat.le_refl _) (Nat.le_refl _) (fun n_56 K_57 I_58 F_59 hc_61 hz_62 h_60 => ?_)
  refine ok_dup (q := 42) dX11_init_41 rfl rfl ?_
  refine ok_aload_n (q := 43) 0 dX11_init_42 rfl rfl rfl ?_
  refine fi_chk (fun h_63 => ?_)
  refine ok_getR (q := 46) (ci := 11) (k := 0) (x := F_59 a0 0) dX11_init_43 rfl fo_X11_12 h_63 rfl ?_
  refine ok_aload_n (q := 47) 0 dX11_init_46 rfl rfl rfl ?_
  refine ok_getR (q := 50) (ci := 11) (k := 1) (x := F_59 a0 1) dX11_init_47 rfl fo_X11_19 h_63 rfl ?_
  refine fi_chk (fun h_64 => ?_)
  refine fi_callI0A (q := 53) (as := [qr (F_59 a0 0), qr (F_59 a0 1)]) (st := [qr n_46, qr a0]) dX11_init_50 rfl mo_X11_32 h_64 rfl rfl (Nat.le_of_ble_eq_true rfl) (Nat.le_of_ble_eq_true rfl) (Nat.le_of_ble_eq_true rfl) (Nat.le_refl _) (Nat.le_refl _) (fun _ hr => ct_X10_init (N := N) (congrArg Prod.fst h_60) hr) (fun _ n_65 K_66 I_67 F_68 c_69 z_70 hc_71 hz_72 => ?_)
  refine fi_chk (fun h_73 => ?_)
  refine ok_putRF (q := 56) (ci := 11) (k := 3) dX11_init_53 rfl fo_X11_35 h_73 ft_11_3 rfl ff_11_3 rfl rfl (fun F_74 => ?_)
  refine ok_aload_n (q := 57) 0 dX11_init_56 rfl rfl rfl ?_
  refine fi_new (q := 60) dX11_init_57 rfl nw_X11_39 (Nat.le_refl _) (Nat.le_refl _) (fun n_75 K_76 I_77 F_78 hc_80 hz_81 h_79 => ?_)
  refine ok_dup (q := 61) dX11_init_60 rfl rfl ?_
  refine ok_aload_n (q := 62) 0 dX11_init_61 rfl rfl rfl ?_
  refine fi_chk (fun h_82 => ?_)
  refine ok_getR (q := 65) (ci := 11) (k := 0) (x := F_78 a0 0) dX11_init_62 rfl fo_X11_12 h_82 rfl ?_
  refine fi_chk (fun h_83 => ?_)
  refine fi_callI0A (q := 68) (as := [qr (F_78 a0 0)]) (st := [qr n_65, qr a0]) dX11_init_65 rfl mo_X11_41 h_83 rfl rfl (Nat.le_of_ble_eq_true rfl) (Nat.le_of_ble_eq_true rfl) (Nat.le_of_ble_eq_true rfl) (Nat.le_refl _) (Nat.le_refl _) (fun _ hr => ct_X3_init (N := N) (congrArg Prod.fst h_79) hr) (fun _ n_84 K_85 I_86 F_87 c_88 z_89 hc_90 hz_91 => ?_)
  refine fi_chk (fun h_92 => ?_)
  refine ok_putRF (q := 71) (ci := 11) (k := 4) dX11_init_68 rfl fo_X11_44 h_92 ft_11_4 rfl ff_11_4 rfl rfl (fun F_93 => ?_)
  refine ok_aload_n (q := 72) 0 dX11_init_71 rfl rfl rfl ?_
  refine fi_new (q := 75) dX11_init_72 rfl nw_X11_48 (Nat.le_refl _) (Nat.le_refl _) (fun n_94 K_95 I_96 F_97 hc_99 hz_100 h_98 => ?_)
  refine ok_dup (q := 76) dX11_init_75 rfl rfl ?_
  refine fi_chk (fun h_101 => ?_)
  refine fi_callI0A (q := 79) (as := []) (st := [qr n_84, qr a0]) dX11_init_76 rfl mo_X11_50 h_101 rfl rfl (Nat.le_of_ble_eq_true rfl) (Nat.le_of_ble_eq_true rfl) (Nat.le_of_ble_eq_true rfl) (Nat.le_refl _) (Nat.le_refl _) (fun _ hr => ct_X4_init (N := N) (congrArg Prod.fst h_98) hr) (fun _ n_102 K_103 I_104 F_105 c_106 z_107 hc_108 hz_109 => ?_)
  refine fi_chk (fun h_110 => ?_)
  refine ok_putRF (q := 82) (ci := 11) (k := 5) dX11_init_79 rfl fo_X11_51 h_110 ft_11_5 rfl ff_11_5 rfl rfl (fun F_111 => ?_)
  refine ok_aload_n (q := 83) 0 dX11_init_82 rfl rfl rfl ?_
  refine fi_new (q := 86) dX11_init_83 rfl nw_X11_55 (Nat.le_refl _) (Nat.le_refl _) (fun n_112 K_113 I_114 F_115 hc_117 hz_118 h_116 => ?_)
  refine ok_dup (q := 87) dX11_init_86 rfl rfl ?_
  refine ok_aload_n (q := 88) 0 dX11_init_87 rfl rfl rfl ?_
  refine fi_chk (fun h_119 => ?_)
  refine ok_getR (q := 91) (ci := 11) (k := 0) (x := F_115 a0 0) dX11_init_88 rfl fo_X11_12 h_119 rfl ?_
  refine ok_aload_n (q := 92) 0 dX11_init_91 rfl rfl rfl ?_
  refine ok_getR (q := 95) (ci := 11) (k := 4) (x := F_115 a0 4) dX11_init_92 rfl fo_X11_44 h_119 rfl ?_
  refine fi_new (q := 98) dX11_init_95 rfl nw_X11_57 (Nat.le_refl _) (Nat.le_refl _) (fun n_120 K_121 I_122 F_123 hc_125 hz_126 h_124 => ?_)
  refine ok_dup (q := 99) dX11_init_98 rfl rfl ?_
  refine ok_aload_n (q := 100) 0 dX11_init_99 rfl rfl rfl ?_
  refine fi_chk (fun h_127 => ?_)
  refine ok_getR (q := 103) (ci := 11) (k := 0) (x := F_123 a0 0) dX11_init_100 rfl fo_X11_12 h_127 rfl ?_
  refine ok_aload_n (q := 104) 0 dX11_init_103 rfl rfl rfl ?_
  refine ok_getR (q := 107) (ci := 11) (k := 1) (x := F_123 a0 1) dX11_init_104 rfl fo_X11_19 h_127 rfl ?_
  refine ok_aload_n (q := 108) 0 dX11_init_107 rfl rfl rfl ?_
  refine ok_getR (q := 111) (ci := 11) (k := 3) (x := F_123 a0 3) dX11_init_108 rfl fo_X11_35 h_127 rfl ?_
  refine ok_aload_n (q := 112) 0 dX11_init_111 rfl rfl rfl ?_
  refine ok_getR (q := 115) (ci := 11) (k := 4) (x := F_123 a0 4) dX11_init_112 rfl fo_X11_44 h_127 rfl ?_
  refine fi_chk (fun h_128 => ?_)
  refine fi_callI0A (q := 118) (as := [qr (F_123 a0 0), qr (F_123 a0 1), qr (F_123 a0 3), qr (F_123 a0 4)]) (st := [qr n_112, qr (F_115 a0 4), qr (F_115 a0 0), qr n_102, qr n_102, qr a0]) dX11_init_115 rfl mo_X11_59 h_128 rfl rfl (Nat.le_of_ble_eq_true rfl) (Nat.le_of_ble_eq_true rfl) (Nat.le_of_ble_eq_true rfl) (Nat.le_refl _) (Nat.le_refl _) (fun _ hr => ct_X0_init (N := N) (congrArg Prod.fst h_124) hr) (fun _ n_129 K_130 I_131 F_132 c_133 z_134 hc_135 hz_136 => ?_)
  refine fi_chk (fun h_137 => ?_)
  refine fi_chk (fun h_138 => ?_)
  refine fi_callI0A (q := 121) (as := [qr (F_115 a0 0), qr (F_115 a0 4), qr n_112]) (st := [qr n_102, qr a0]) dX11_init_118 rfl mo_X11_62 h_137 rfl rfl (Nat.le_of_ble_eq_true rfl) (Nat.le_of_ble_eq_true rfl) (Nat.le_of_ble_eq_true rfl) (Nat.le_refl _) (Nat.le_refl _) (fun _ hr => ct_X9_init (N := N) h_138 hr) (fun _ n_139 K_140 I_141 F_142 c_143 z_144 hc_145 hz_146 => ?_)
  refine fi_chk (fun h_147 => ?_)
  refine ok_putRF (q := 124) (ci := 11) (k := 6) dX11_init_121 rfl fo_X11_65 h_147 ft_11_6 rfl ff_11_6 rfl rfl (fun F_148 => ?_)
  refine ok_aload_n (q := 125) 0 dX11_init_124 rfl rfl rfl ?_
  refine fi_new (q := 128) dX11_init_125 rfl nw_X11_69 (Nat.le_refl _) (Nat.le_refl _) (fun n_149 K_150 I_151 F_152 hc_154 hz_155 h_153 => ?_)
  refine ok_dup (q := 129) dX11_init_128 rfl rfl ?_
  refine fi_chk (fun h_156 => ?_)
  refine fi_callI0A (q := 132) (as := []) (st := [qr n_139, qr a0]) dX11_init_129 rfl mo_X11_71 h_156 rfl rfl (Nat.le_of_ble_eq_true rfl) (Nat.le_of_ble_eq_true rfl) (Nat.le_of_ble_eq_true rfl) (Nat.le_refl _) (Nat.le_refl _) (fun _ hr => ct_X2_init (N := N) (congrArg Prod.fst h_153) hr) (fun _ n_157 K_158 I_159 F_160 c_161 z_162 hc_163 hz_164 => ?_)
  refine fi_chk (fun h_165 => ?_)
  refine ok_putRF (q := 135) (ci := 11) (k := 7) dX11_init_132 rfl fo_X11_72 h_165 ft_11_7 rfl ff_11_7 rfl rfl (fun F_166 => ?_)
  refine ok_aload_n (q := 136) 0 dX11_init_135 rfl rfl rfl ?_
  refine ok_iconst (q := 137) (x := 2) dX11_init_136 rfl rfl (by decide) ?_
  refine fi_chk (fun h_171 => ?_)
  refine fi_anew (q := 140) dX11_init_137 rfl h_171 an_X11_76 (Nat.le_refl _) (Nat.le_refl _) (fun n_167 K_168 I_169 F_170 hc_173 hz_174 h_172 => ?_)
  refine ok_dup (q := 141) dX11_init_140 rfl rfl ?_
  refine ok_iconst (q := 142) (x := 0) dX11_init_141 rfl rfl (by decide) ?_
  refine fi_new (q := 145) dX11_init_142 rfl nw_X11_76 (Nat.le_refl _) (Nat.le_refl _) (fun n_175 K_176 I_177 F_178 hc_180 hz_181 h_179 => ?_)
  refine ok_dup (q := 146) dX11_init_145 rfl rfl ?_
  refine fi_chk (fun h_182 => ?_)
  refine fi_callI0A (q := 149) (as := []) (st := [qr n_167, qi 0, qr n_157, qr n_157, qr a0]) dX11_init_146 rfl mo_X11_78 h_182 rfl rfl (Nat.le_of_ble_eq_true rfl) (Nat.le_of_ble_eq_true rfl) (Nat.le_of_ble_eq_true rfl) (Nat.le_refl _) (Nat.le_refl _) (fun _ hr => ct_X5_init (N := N) (congrArg Prod.fst h_179) hr) (fun _ n_183 K_184 I_185 F_186 c_187 z_188 hc_189 hz_190 => ?_)
  refine fi_chk (fun h_195 => ?_)
  refine fi_chk (fun h_196 => ?_)
  refine fi_chk (fun h_197 => ?_)
  refine ok_aast (q := 150) dX11_init_149 rfl h_195 h_196 h_197.1 h_197.2 (fun F_194 => ?_)
  refine ok_dup (q := 151) dX11_init_150 rfl rfl ?_
  refine ok_iconst (q := 152) (x := 1) dX11_init_151 rfl rfl (by decide) ?_
  refine fi_new (q := 155) dX11_init_152 rfl nw_X11_76 (Nat.le_refl _) (Nat.le_refl _) (fun n_198 K_199 I_200 F_201 hc_203 hz_204 h_202 => ?_)
  refine ok_dup (q := 156) dX11_init_155 rfl rfl ?_
  refine fi_chk (fun h_205 => ?_)
  refine fi_callI0A (q := 159) (as := []) (st := [qr n_183, qi 1, qr n_157, qr n_157, qr a0]) dX11_init_156 rfl mo_X11_78 h_205 rfl rfl (Nat.le_of_ble_eq_true rfl) (Nat.le_of_ble_eq_true rfl) (Nat.le_of_ble_eq_true rfl) (Nat.le_refl _) (Nat.le_refl _) (fun _ hr => ct_X5_init (N := N) (congrArg Prod.fst h_202) hr) (fun _ n_206 K_207 I_208 F_209 c_210 z_211 hc_212 hz_213 => ?_)
  refine fi_chk (fun h_218 => ?_)
  refine fi_chk (fun h_219 => ?_)
  refine fi_chk (fun h_220 => ?_)
  refine ok_aast (q := 160) dX11_init_159 rfl h_218 h_219 h_220.1 h_220.2 (fun F_217 => ?_)
  refine fi_chk (fun h_221 => ?_)
  refine ok_putRF (q := 163) (ci := 11) (k := 8) dX11_init_160 rfl fo_X11_79 h_221 ft_11_8 rfl ff_11_8 rfl rfl (fun F_222 => ?_)
  refine ok_aload_n (q := 164) 0 dX11_init_163 rfl rfl rfl ?_
  refine ok_iconst (q := 165) (x := 0) dX11_init_164 rfl rfl (by decide) ?_
  refine ok_putI (q := 168) (ci := 11) (k := 9) dX11_init_165 rfl fo_X11_83 h_221 ft_11_9 ff_11_9 (fun I_223 => ?_)
  refine ok_aload_n (q := 169) 0 dX11_init_168 rfl rfl rfl ?_
  refine ok_iconst (q := 170) (x := 2) dX11_init_169 rfl rfl (by decide) ?_
  refine ok_iconst (q := 171) (x := 3) dX11_init_170 rfl rfl (by decide) ?_
  refine fi_callV0S (q := 174) (as := [qi 2, qi 3]) (st := []) dX11_init_171 rfl mo_X11_87 h_221 rfl (Nat.le_of_ble_eq_true rfl) rfl rfl (Nat.le_of_ble_eq_true rfl) (Nat.le_of_ble_eq_true rfl) (Nat.le_of_ble_eq_true rfl) hc_212 hz_213 (fun _ hr => ct_X11_layBoard (N := N) h_221 hr) (fun _ I_224 => ?_)
  exact fi_returnA dX11_init_174 rfl
theorem ct_X11_init {η : am_E} {l : Launch} {N : Nat} {n : Nat} {K : am_K} {I : am_I} {F : am_F} {a0 : Nat} {r0 : am_A} (h0 : (K a0).1 = 11) : X11_init N a0 n K I F = some r0 → am_Ct η l yX11_init cX11_init 1 none 5 113 (am_ac1 r0) (am_az1 r0) [qr a0] n K I F (am_pA 0 r0) := fun g => am_Ct.of true (by decide) (by decide) (Nat.le_of_ble_eq_true rfl) (fun _ => w_X11_init (N := N) h0 g)
def M_X11_refuse : am_M := (yX11_refuse.cls, cX11_refuse, 2, (some .int), am_room 0 0 0 0, false)
def X11_refuse (N : Nat) (K : am_K) (F : am_F) (a0 : Nat) (I : am_I) (x1 : Int) : Option (Int × am_I) :=
  am_lt (am_u2 I a0 9 x1) (fun I_1 => some ((-1), I_1))
theorem w_X11_refuse {η : am_E} {l : Launch} {N : Nat} {n : Nat} {K : am_K} {I : am_I} {F : am_F} {a0 : Nat} {r0 : Int × am_I} {x1 : Int} (h0 : (K a0).1 = 11) : X11_refuse N K F a0 I x1 = some r0 → Ok η l M_X11_refuse (am_qm η (am_pS 1 r0 n K F) 0 0) 0 [(0, qr a0), (1, qi x1)] [] n K I F 0 0 := by
  unfold X11_refuse
  refine ok_aload_n (q := 1) 0 dX11_refuse_0 rfl rfl rfl ?_
  refine ok_iload_n (q := 2) 1 dX11_refuse_1 rfl rfl rfl ?_
  refine ok_putI (q := 5) (ci := 11) (k := 9) dX11_refuse_2 rfl fo_X11_83 h0 ft_11_9 ff_11_9 (fun I_1 => ?_)
  refine ok_iconst (q := 6) (x := -1) dX11_refuse_5 rfl rfl (by decide) ?_
  exact fi_ireturnS dX11_refuse_6 rfl
theorem ct_X11_refuse {η : am_E} {l : Launch} {N : Nat} {n : Nat} {K : am_K} {I : am_I} {F : am_F} {a0 : Nat} {r0 : Int × am_I} {x1 : Int} (h0 : (K a0).1 = 11) : X11_refuse N K F a0 I x1 = some r0 → am_Ct η l yX11_refuse cX11_refuse 2 (some .int) 0 0 0 0 [qr a0, qi x1] n K I F (am_pS 1 r0 n K F) := fun g => am_Ct.of false (by decide) (by decide) (Nat.le_of_ble_eq_true rfl) (fun _ => w_X11_refuse (N := N) h0 g)
def M_X11_accept : am_M := (yX11_accept.cls, cX11_accept, 2, (some .int), am_room 0 0 0 0, false)
def X11_accept (N : Nat) (K : am_K) (F : am_F) (a0 : Nat) (I : am_I) (x1 : Int) : Option (Int × am_I) :=
  am_lt (am_u2 I a0 9 0) (fun I_1 => some (x1, I_1))
theorem w_X11_accept {η : am_E} {l : Launch} {N : Nat} {n : Nat} {K : am_K} {I : am_I} {F : am_F} {a0 : Nat} {r0 : Int × am_I} {x1 : Int} (h0 : (K a0).1 = 11) : X11_accept N K F a0 I x1 = some r0 → Ok η l M_X11_accept (am_qm η (am_pS 1 r0 n K F) 0 0) 0 [(0, qr a0), (1, qi x1)] [] n K I F 0 0 := by
  unfold X11_accept
  refine ok_aload_n (q := 1) 0 dX11_accept_0 rfl rfl rfl ?_
  refine ok_iconst (q := 2) (x := 0) dX11_accept_1 rfl rfl (by decide) ?_
  refine ok_putI (q := 5) (ci := 11) (k := 9) dX11_accept_2 rfl fo_X11_83 h0 ft_11_9 ff_11_9 (fun I_1 => ?_)
  refine ok_iload_n (q := 6) 1 dX11_accept_5 rfl rfl rfl ?_
  exact fi_ireturnS dX11_accept_6 rfl
theorem ct_X11_accept {η : am_E} {l : Launch} {N : Nat} {n : Nat} {K : am_K} {I : am_I} {F : am_F} {a0 : Nat} {r0 : Int × am_I} {x1 : Int} (h0 : (K a0).1 = 11) : X11_accept N K F a0 I x1 = some r0 → am_Ct η l yX11_accept cX11_accept 2 (some .int) 0 0 0 0 [qr a0, qi x1] n K I F (am_pS 1 r0 n K F) := fun g => am_Ct.of false (by decide) (by decide) (Nat.le_of_ble_eq_true rfl) (fun _ => w_X11_accept (N := N) h0 g)
def M_X11_board : am_M := (yX11_board.cls, cX11_board, 3, (some .int), am_room 5 113 0 0, false)
def X11_board_b21 (N : Nat) (K : am_K) (F : am_F) (a0 : Nat) (I : am_I) : Option (Int × am_I) :=
  am_cl (X11_refuse N K F a0 I 7) (fun v_1 I_2 => some (v_1, I_2))
theorem w_X11_board_b21 {η : am_E} {l : Launch} {N : Nat} {n : Nat} {K : am_K} {I : am_I} {F : am_F} {a0 : Nat} {r0 : Int × am_I} (h0 : (K a0).1 = 11) : X11_board_b21 N K F a0 I = some r0 → Ok η l M_X11_board (am_qm η (am_pS 1 r0 n K F) 0 0) 21 [(0, qr a0)] [] n K I F 0 0 := by
  unfold X11_board_b21
  refine ok_aload_n (q := 22) 0 dX11_board_21 rfl rfl rfl ?_
  refine ok_bipush (q := 24) (x := 7) dX11_board_22 rfl rfl (by decide) ?_
  refine fi_callV1S (q := 27) (as := [qi 7]) (st := []) dX11_board_24 rfl mo_X11_91 h0 rfl (Nat.le_of_ble_eq_true rfl) rfl rfl (Nat.le_of_ble_eq_true rfl) (Nat.le_of_ble_eq_true rfl) (Nat.le_of_ble_eq_true rfl) (Nat.zero_le _) (Nat.zero_le _) (fun _ hr => ct_X11_refuse (N := N) h0 hr) (fun v_1 I_2 => ?_)
  exact fi_ireturnS dX11_board_27 rfl
def X11_board_b10 (N : Nat) (K : am_K) (F : am_F) (a0 : Nat) (I : am_I) (x1 : Int) (x2 : Int) : Option (Int × am_I) :=
  if 1 ≤ x2 then (if 8 < x2 then (X11_board_b21 N K F a0 I) else (am_cl (X11_layBoard N K F a0 I x1 x2) (fun _ I_1 => if (K (F a0 0)).1 = 1 then am_cl (X11_accept N K F a0 I_1 (I_1 (F a0 0) 2)) (fun v_3 I_4 => some (v_3, I_4)) else none))) else (X11_board_b21 N K F a0 I)
theorem w_X11_board_b10 {η : am_E} {l : Launch} {N : Nat} {n : Nat} {K : am_K} {I : am_I} {F : am_F} {a0 : Nat} {r0 : Int × am_I} {x1 : Int} {x2 : Int} (h0 : (K a0).1 = 11) : X11_board_b10 N K F a0 I x1 x2 = some r0 → Ok η l M_X11_board (am_qm η (am_pS 1 r0 n K F) 0 0) 10 [(0, qr a0), (1, qi x1), (2, qi x2)] [] n K I F 0 0 := by
  unfold X11_board_b10
  refine ok_iload_n (q := 11) 2 dX11_board_10 rfl rfl rfl ?_
  refine ok_iconst (q := 12) (x := 1) dX11_board_11 rfl rfl (by decide) ?_
  refine ok_icmp_lt (q := 21) (q2 := 15) dX11_board_12 rfl rfl ?_ ?_
  · skip
    exact fun g => ok_pick [0] rfl (w_X11_board_b21 (N := N) h0 g)
  · skip
    refine ok_iload_n (q := 16) 2 dX11_board_15 rfl rfl rfl ?_
    refine ok_bipush (q := 18) (x := 8) dX11_board_16 rfl rfl (by decide) ?_
    refine ok_icmp_le (q := 28) (q2 := 21) dX11_board_18 rfl rfl ?_ ?_
    · skip
      refine ok_aload_n (q := 29) 0 dX11_board_28 rfl rfl rfl ?_
      refine ok_iload_n (q := 30) 1 dX11_board_29 rfl rfl rfl ?_
      refine ok_iload_n (q := 31) 2 dX11_board_30 rfl rfl rfl ?_
      refine fi_callV0S (q := 34) (as := [qi x1, qi x2]) (st := []) dX11_board_31 rfl mo_X11_87 h0 rfl (Nat.le_of_ble_eq_true rfl) rfl rfl (Nat.le_of_ble_eq_true rfl) (Nat.le_of_ble_eq_true rfl) (Nat.le_of_ble_eq_true rfl) (Nat.zero_le _) (Nat.zero_le _) (fun _ hr => ct_X11_layBoard (N := N) h0 hr) (fun _ I_1 => ?_)
      refine ok_aload_n (q := 35) 0 dX11_board_34 rfl rfl rfl ?_
      refine ok_aload_n (q := 36) 0 dX11_board_35 rfl rfl rfl ?_
      refine ok_getR (q := 39) (ci := 11) (k := 0) (x := F a0 0) dX11_board_36 rfl fo_X11_12 h0 rfl ?_
      refine fi_chk (fun h_2 => ?_)
      refine ok_getI (q := 42) (ci := 1) (k := 2) (x := I_1 (F a0 0) 2) dX11_board_39 rfl fo_X11_95 h_2 rfl ?_
      refine fi_callV1S (q := 45) (as := [qi (I_1 (F a0 0) 2)]) (st := []) dX11_board_42 rfl mo_X11_98 h0 rfl (Nat.le_of_ble_eq_true rfl) rfl rfl (Nat.le_of_ble_eq_true rfl) (Nat.le_of_ble_eq_true rfl) (Nat.le_of_ble_eq_true rfl) (Nat.zero_le _) (Nat.zero_le _) (fun _ hr => ct_X11_accept (N := N) h0 hr) (fun v_3 I_4 => ?_)
      exact fi_ireturnS dX11_board_45 rfl
    · skip
      exact fun g => ok_pick [0] rfl (w_X11_board_b21 (N := N) h0 g)
def X11_board (N : Nat) (K : am_K) (F : am_F) (a0 : Nat) (I : am_I) (x1 : Int) (x2 : Int) : Option (Int × am_I) :=
  if x1 = 2 then (X11_board_b10 N K F a0 I x1 x2) else (if x1 = 4 then (X11_board_b10 N K F a0 I x1 x2) else (X11_board_b21 N K F a0 I))
theorem w_X11_board {η : am_E} {l : Launch} {N : Nat} {n : Nat} {K : am_K} {I : am_I} {F : am_F} {a0 : Nat} {r0 : Int × am_I} {x1 : Int} {x2 : Int} (h0 : (K a0).1 = 11) : X11_board N K F a0 I x1 x2 = some r0 → Ok η l M_X11_board (am_qm η (am_pS 1 r0 n K F) 0 0) 0 [(0, qr a0), (1, qi x1), (2, qi x2)] [] n K I F 0 0 := by
  unfold X11_board
  refine ok_iload_n (q := 1) 1 dX11_board_0 rfl rfl rfl ?_
  refine ok_iconst (q := 2) (x := 2) dX11_board_1 rfl rfl (by decide) ?_
  refine ok_icmp_eq (q := 10) (q2 := 5) dX11_board_2 rfl rfl ?_ ?_
  · skip
    exact fun g => ok_pick [0, 1, 2] rfl (w_X11_board_b10 (N := N) h0 g)
  · skip
    refine ok_iload_n (q := 6) 1 dX11_board_5 rfl rfl rfl ?_
    refine ok_iconst (q := 7) (x := 4) dX11_board_6 rfl rfl (by decide) ?_
    refine ok_icmp_ne (q := 21) (q2 := 10) dX11_board_7 rfl rfl ?_ ?_
    · skip
      exact fun g => ok_pick [0] rfl (w_X11_board_b21 (N := N) h0 g)
    · skip
      exact fun g => ok_pick [0, 1, 2] rfl (w_X11_board_b10 (N := N) h0 g)
theorem ct_X11_board {η : am_E} {l : Launch} {N : Nat} {n : Nat} {K : am_K} {I : am_I} {F : am_F} {a0 : Nat} {r0 : Int × am_I} {x1 : Int} {x2 : Int} (h0 : (K a0).1 = 11) : X11_board N K F a0 I x1 x2 = some r0 → am_Ct η l yX11_board cX11_board 3 (some .int) 5 113 0 0 [qr a0, qi x1, qi x2] n K I F (am_pS 1 r0 n K F) := fun g => am_Ct.of false (by decide) (by decide) (Nat.le_of_ble_eq_true rfl) (fun _ => w_X11_board (N := N) h0 g)
def M_X11_whyNoPit : am_M := (yX11_whyNoPit.cls, cX11_whyNoPit, 3, (some .int), am_room 1 22 0 0, false)
def X11_whyNoPit_b15 (N : Nat) (K : am_K) (F : am_F) (I : am_I) (a0 : Nat) : Option Int :=
  some (2)
theorem w_X11_whyNoPit_b15 {η : am_E} {l : Launch} {N : Nat} {n : Nat} {K : am_K} {I : am_I} {F : am_F} {a0 : Nat} {r0 : Int} (h0 : (K a0).1 = 11) : X11_whyNoPit_b15 N K F I a0 = some r0 → Ok η l M_X11_whyNoPit (am_qm η (am_pS 1 (r0, I) n K F) 0 0) 15 [(0, qr a0)] [] n K I F 0 0 := by
  unfold X11_whyNoPit_b15
  refine ok_iconst (q := 16) (x := 2) dX11_whyNoPit_15 rfl rfl (by decide) ?_
  exact fi_ireturnP dX11_whyNoPit_16 rfl
def X11_whyNoPit_b32 (N : Nat) (K : am_K) (F : am_F) (I : am_I) (a0 : Nat) : Option Int :=
  some (3)
theorem w_X11_whyNoPit_b32 {η : am_E} {l : Launch} {N : Nat} {n : Nat} {K : am_K} {I : am_I} {F : am_F} {a0 : Nat} {r0 : Int} (h0 : (K a0).1 = 11) : X11_whyNoPit_b32 N K F I a0 = some r0 → Ok η l M_X11_whyNoPit (am_qm η (am_pS 1 (r0, I) n K F) 0 0) 32 [(0, qr a0)] [] n K I F 0 0 := by
  unfold X11_whyNoPit_b32
  refine ok_iconst (q := 33) (x := 3) dX11_whyNoPit_32 rfl rfl (by decide) ?_
  exact fi_ireturnP dX11_whyNoPit_33 rfl
def X11_whyNoPit_b59 (N : Nat) (K : am_K) (F : am_F) (I : am_I) (a0 : Nat) (s0 : Int) : Option Int :=
  some (s0)
theorem w_X11_whyNoPit_b59 {η : am_E} {l : Launch} {N : Nat} {n : Nat} {K : am_K} {I : am_I} {F : am_F} {a0 : Nat} {r0 : Int} {s0 : Int} (h0 : (K a0).1 = 11) : X11_whyNoPit_b59 N K F I a0 s0 = some r0 → Ok η l M_X11_whyNoPit (am_qm η (am_pS 1 (r0, I) n K F) 0 0) 59 [(0, qr a0)] [qi s0] n K I F 0 0 := by
  unfold X11_whyNoPit_b59
  exact fi_ireturnP dX11_whyNoPit_59 rfl
def X11_whyNoPit (N : Nat) (K : am_K) (F : am_F) (I : am_I) (a0 : Nat) (x1 : Int) (x2 : Int) : Option Int :=
  if 0 ≤ x1 then (if (K (F a0 0)).1 = 1 then if (I (F a0 0) 0) ≤ x1 then (X11_whyNoPit_b15 N K F I a0 ) else (if 0 ≤ x2 then (if (I (F a0 0) 1) ≤ x2 then (X11_whyNoPit_b32 N K F I a0 ) else (am_cq (X1_pitAt N K F I (F a0 0) x1 x2) (fun v_2 => if (K (F (F a0 0) 4)).1 = 101 then if (0 : Int) ≤ v_2 ∧ v_2 < (K (F (F a0 0) 4)).2 then if (I (F (F a0 0) 4) v_2) = 0 then (X11_whyNoPit_b59 N K F I a0 0) else (X11_whyNoPit_b59 N K F I a0 1) else none else none))) else (X11_whyNoPit_b32 N K F I a0 )) else none) else (X11_whyNoPit_b15 N K F I a0 )
theorem w_X11_whyNoPit {η : am_E} {l : Launch} {N : Nat} {n : Nat} {K : am_K} {I : am_I} {F : am_F} {a0 : Nat} {r0 : Int} {x1 : Int} {x2 : Int} (h0 : (K a0).1 = 11) : X11_whyNoPit N K F I a0 x1 x2 = some r0 → Ok η l M_X11_whyNoPit (am_qm η (am_pS 1 (r0, I) n K F) 0 0) 0 [(0, qr a0), (1, qi x1), (2, qi x2)] [] n K I F 0 0 := by
  unfold X11_whyNoPit
  refine ok_iload_n (q := 1) 1 dX11_whyNoPit_0 rfl rfl rfl ?_
  refine ok_if_lt (q := 15) (q2 := 4) dX11_whyNoPit_1 rfl rfl ?_ ?_
  · skip
    exact fun g => ok_pick [0] rfl (w_X11_whyNoPit_b15 (N := N) h0 g)
  · skip
    refine ok_iload_n (q := 5) 1 dX11_whyNoPit_4 rfl rfl rfl ?_
    refine ok_aload_n (q := 6) 0 dX11_whyNoPit_5 rfl rfl rfl ?_
    refine ok_getR (q := 9) (ci := 11) (k := 0) (x := F a0 0) dX11_whyNoPit_6 rfl fo_X11_12 h0 rfl ?_
    refine fi_chk (fun h_1 => ?_)
    refine ok_getI (q := 12) (ci := 1) (k := 0) (x := I (F a0 0) 0) dX11_whyNoPit_9 rfl fo_X11_336 h_1 rfl ?_
    refine ok_icmp_lt (q := 17) (q2 := 15) dX11_whyNoPit_12 rfl rfl ?_ ?_
    · skip
      refine ok_iload_n (q := 18) 2 dX11_whyNoPit_17 rfl rfl rfl ?_
      refine ok_if_lt (q := 32) (q2 := 21) dX11_whyNoPit_18 rfl rfl ?_ ?_
      · skip
        exact fun g => ok_pick [0] rfl (w_X11_whyNoPit_b32 (N := N) h0 g)
      · skip
        refine ok_iload_n (q := 22) 2 dX11_whyNoPit_21 rfl rfl rfl ?_
        refine ok_aload_n (q := 23) 0 dX11_whyNoPit_22 rfl rfl rfl ?_
        refine ok_getR (q := 26) (ci := 11) (k := 0) (x := F a0 0) dX11_whyNoPit_23 rfl fo_X11_12 h0 rfl ?_
        refine ok_getI (q := 29) (ci := 1) (k := 1) (x := I (F a0 0) 1) dX11_whyNoPit_26 rfl fo_X11_339 h_1 rfl ?_
        refine ok_icmp_lt (q := 34) (q2 := 32) dX11_whyNoPit_29 rfl rfl ?_ ?_
        · skip
          refine ok_aload_n (q := 35) 0 dX11_whyNoPit_34 rfl rfl rfl ?_
          refine ok_getR (q := 38) (ci := 11) (k := 0) (x := F a0 0) dX11_whyNoPit_35 rfl fo_X11_12 h0 rfl ?_
          refine ok_getR (q := 41) (ci := 1) (k := 4) (x := F (F a0 0) 4) dX11_whyNoPit_38 rfl fo_X11_330 h_1 rfl ?_
          refine ok_aload_n (q := 42) 0 dX11_whyNoPit_41 rfl rfl rfl ?_
          refine ok_getR (q := 45) (ci := 11) (k := 0) (x := F a0 0) dX11_whyNoPit_42 rfl fo_X11_12 h0 rfl ?_
          refine ok_iload_n (q := 46) 1 dX11_whyNoPit_45 rfl rfl rfl ?_
          refine ok_iload_n (q := 47) 2 dX11_whyNoPit_46 rfl rfl rfl ?_
          refine fi_callV1P (q := 50) (as := [qi x1, qi x2]) (st := [qr (F (F a0 0) 4)]) dX11_whyNoPit_47 rfl mo_X11_105 h_1 rfl (Nat.le_of_ble_eq_true rfl) rfl rfl (Nat.le_of_ble_eq_true rfl) (Nat.le_of_ble_eq_true rfl) (Nat.le_of_ble_eq_true rfl) (Nat.zero_le _) (Nat.zero_le _) (fun _ hr => ct_X1_pitAt (N := N) h_1 hr) (fun v_2 => ?_)
          refine fi_chk (fun h_3 => ?_)
          refine fi_chk (fun h_4 => ?_)
          refine ok_baload (q := 51) (v := I (F (F a0 0) 4) v_2) dX11_whyNoPit_50 rfl h_3 h_4.1 h_4.2 rfl ?_
          refine ok_if_eq (q := 58) (q2 := 54) dX11_whyNoPit_51 rfl rfl ?_ ?_
          · skip
            refine ok_iconst (q := 59) (x := 0) dX11_whyNoPit_58 rfl rfl (by decide) ?_
            exact fun g => ok_pick [0] rfl (w_X11_whyNoPit_b59 (N := N) h0 g)
          · skip
            refine ok_iconst (q := 55) (x := 1) dX11_whyNoPit_54 rfl rfl (by decide) ?_
            refine ok_goto (q := 59) dX11_whyNoPit_55 rfl ?_
            exact fun g => ok_pick [0] rfl (w_X11_whyNoPit_b59 (N := N) h0 g)
        · skip
          exact fun g => ok_pick [0] rfl (w_X11_whyNoPit_b32 (N := N) h0 g)
    · skip
      exact fun g => ok_pick [0] rfl (w_X11_whyNoPit_b15 (N := N) h0 g)
theorem ct_X11_whyNoPit {η : am_E} {l : Launch} {N : Nat} {n : Nat} {K : am_K} {I : am_I} {F : am_F} {a0 : Nat} {r0 : Int} {x1 : Int} {x2 : Int} (h0 : (K a0).1 = 11) : X11_whyNoPit N K F I a0 x1 x2 = some r0 → am_Ct η l yX11_whyNoPit cX11_whyNoPit 3 (some .int) 1 22 0 0 [qr a0, qi x1, qi x2] n K I F (am_pS 1 (r0, I) n K F) := fun g => am_Ct.of false (by decide) (by decide) (Nat.le_of_ble_eq_true rfl) (fun _ => w_X11_whyNoPit (N := N) h0 g)
def M_X11_lack : am_M := (yX11_lack.cls, cX11_lack, 5, (some .int), am_room 4 89 0 0, false)
def X11_lack_b52 (N : Nat) (K : am_K) (F : am_F) (a0 : Nat) (I : am_I) : Option (Int × am_I) :=
  am_cl (X11_refuse N K F a0 I 7) (fun v_1 I_2 => some (v_1, I_2))
theorem w_X11_lack_b52 {η : am_E} {l : Launch} {N : Nat} {n : Nat} {K : am_K} {I : am_I} {F : am_F} {a0 : Nat} {r0 : Int × am_I} (h0 : (K a0).1 = 11) : X11_lack_b52 N K F a0 I = some r0 → Ok η l M_X11_lack (am_qm η (am_pS 1 r0 n K F) 0 0) 52 [(0, qr a0)] [] n K I F 0 0 := by
  unfold X11_lack_b52
  refine ok_aload_n (q := 53) 0 dX11_lack_52 rfl rfl rfl ?_
  refine ok_bipush (q := 55) (x := 7) dX11_lack_53 rfl rfl (by decide) ?_
  refine fi_callV1S (q := 58) (as := [qi 7]) (st := []) dX11_lack_55 rfl mo_X11_91 h0 rfl (Nat.le_of_ble_eq_true rfl) rfl rfl (Nat.le_of_ble_eq_true rfl) (Nat.le_of_ble_eq_true rfl) (Nat.le_of_ble_eq_true rfl) (Nat.zero_le _) (Nat.zero_le _) (fun _ hr => ct_X11_refuse (N := N) h0 hr) (fun v_1 I_2 => ?_)
  exact fi_ireturnS dX11_lack_58 rfl
def X11_lack (N : Nat) (K : am_K) (F : am_F) (a0 : Nat) (I : am_I) (x1 : Int) (x2 : Int) : Option (Int × am_I) :=
  am_cq (X11_whyNoPit N K F I a0 x1 x2) (fun v_1 => if v_1 = 0 then (if (K (F a0 0)).1 = 1 then am_cq (X1_pitAt N K F I (F a0 0) x1 x2) (fun v_3 => if (K (F a0 2)).1 = 6 then if (K (F (F a0 2) 0)).1 = 100 then if (0 : Int) ≤ v_3 ∧ v_3 < (K (F (F a0 2) 0)).2 then if (I (F (F a0 2) 0) v_3) ≤ 0 then (if (I (F a0 0) 3) ≤ 1 then (X11_lack_b52 N K F a0 I) else (am_cl (X1_takeOut N K F (F a0 0) I v_3) (fun _ I_7 => am_cl (X11_forgetRuling N K F a0 I_7) (fun _ I_8 => am_cl (X11_accept N K F a0 I_8 (I_8 (F a0 0) 3)) (fun v_9 I_10 => some (v_9, I_10)))))) else (X11_lack_b52 N K F a0 I) else none else none else none) else none) else (am_cl (X11_refuse N K F a0 I v_1) (fun v_11 I_12 => some (v_11, I_12))))
theorem w_X11_lack {η : am_E} {l : Launch} {N : Nat} {n : Nat} {K : am_K} {I : am_I} {F : am_F} {a0 : Nat} {r0 : Int × am_I} {x1 : Int} {x2 : Int} (h0 : (K a0).1 = 11) : X11_lack N K F a0 I x1 x2 = some r0 → Ok η l M_X11_lack (am_qm η (am_pS 1 r0 n K F) 0 0) 0 [(0, qr a0), (1, qi x1), (2, qi x2)] [] n K I F 0 0 := by
  unfold X11_lack
  refine ok_aload_n (q := 1) 0 dX11_lack_0 rfl rfl rfl ?_
  refine ok_iload_n (q := 2) 1 dX11_lack_1 rfl rfl rfl ?_
  refine ok_iload_n (q := 3) 2 dX11_lack_2 rfl rfl rfl ?_
  refine fi_callV1P (q := 6) (as := [qi x1, qi x2]) (st := []) dX11_lack_3 rfl mo_X11_101 h0 rfl (Nat.le_of_ble_eq_true rfl) rfl rfl (Nat.le_of_ble_eq_true rfl) (Nat.le_of_ble_eq_true rfl) (Nat.le_of_ble_eq_true rfl) (Nat.zero_le _) (Nat.zero_le _) (fun _ hr => ct_X11_whyNoPit (N := N) h0 hr) (fun v_1 => ?_)
  refine ok_istore_n (q := 7) (ls' := [(3, qi v_1), (0, qr a0), (1, qi x1), (2, qi x2)]) dX11_lack_6 rfl rfl (Nat.le_of_ble_eq_true rfl) rfl ?_
  refine ok_iload_n (q := 8) 0 dX11_lack_7 rfl rfl rfl ?_
  refine ok_if_eq (q := 17) (q2 := 11) dX11_lack_8 rfl rfl ?_ ?_
  · skip
    refine ok_aload_n (q := 18) 1 dX11_lack_17 rfl rfl rfl ?_
    refine ok_getR (q := 21) (ci := 11) (k := 0) (x := F a0 0) dX11_lack_18 rfl fo_X11_12 h0 rfl ?_
    refine ok_iload_n (q := 22) 2 dX11_lack_21 rfl rfl rfl ?_
    refine ok_iload_n (q := 23) 3 dX11_lack_22 rfl rfl rfl ?_
    refine fi_chk (fun h_2 => ?_)
    refine fi_callV1P (q := 26) (as := [qi x1, qi x2]) (st := []) dX11_lack_23 rfl mo_X11_105 h_2 rfl (Nat.le_of_ble_eq_true rfl) rfl rfl (Nat.le_of_ble_eq_true rfl) (Nat.le_of_ble_eq_true rfl) (Nat.le_of_ble_eq_true rfl) (Nat.zero_le _) (Nat.zero_le _) (fun _ hr => ct_X1_pitAt (N := N) h_2 hr) (fun v_3 => ?_)
    refine ok_istore (q := 28) (ls' := [(4, qi v_3), (3, qi v_1), (0, qr a0), (1, qi x1), (2, qi x2)]) dX11_lack_26 rfl (Nat.le_of_ble_eq_true rfl) rfl ?_
    refine ok_aload_n (q := 29) 2 dX11_lack_28 rfl rfl rfl ?_
    refine ok_getR (q := 32) (ci := 11) (k := 2) (x := F a0 2) dX11_lack_29 rfl fo_X11_26 h0 rfl ?_
    refine fi_chk (fun h_4 => ?_)
    refine ok_getR (q := 35) (ci := 6) (k := 0) (x := F (F a0 2) 0) dX11_lack_32 rfl fo_X11_108 h_4 rfl ?_
    refine ok_iload (q := 37) 0 dX11_lack_35 rfl rfl ?_
    refine fi_chk (fun h_5 => ?_)
    refine fi_chk (fun h_6 => ?_)
    refine ok_iaload (q := 38) (v := I (F (F a0 2) 0) v_3) dX11_lack_37 rfl h_5 h_6.1 h_6.2 rfl ?_
    refine ok_if_gt (q := 52) (q2 := 41) dX11_lack_38 rfl rfl ?_ ?_
    · skip
      exact fun g => ok_pick [2] rfl (w_X11_lack_b52 (N := N) h0 g)
    · skip
      refine ok_aload_n (q := 42) 2 dX11_lack_41 rfl rfl rfl ?_
      refine ok_getR (q := 45) (ci := 11) (k := 0) (x := F a0 0) dX11_lack_42 rfl fo_X11_12 h0 rfl ?_
      refine ok_getI (q := 48) (ci := 1) (k := 3) (x := I (F a0 0) 3) dX11_lack_45 rfl fo_X11_112 h_2 rfl ?_
      refine ok_iconst (q := 49) (x := 1) dX11_lack_48 rfl rfl (by decide) ?_
      refine ok_icmp_gt (q := 59) (q2 := 52) dX11_lack_49 rfl rfl ?_ ?_
      · skip
        refine ok_aload_n (q := 60) 2 dX11_lack_59 rfl rfl rfl ?_
        refine ok_getR (q := 63) (ci := 11) (k := 0) (x := F a0 0) dX11_lack_60 rfl fo_X11_12 h0 rfl ?_
        refine ok_iload (q := 65) 0 dX11_lack_63 rfl rfl ?_
        refine fi_callV0S (q := 68) (as := [qi v_3]) (st := []) dX11_lack_65 rfl mo_X11_115 h_2 rfl (Nat.le_of_ble_eq_true rfl) rfl rfl (Nat.le_of_ble_eq_true rfl) (Nat.le_of_ble_eq_true rfl) (Nat.le_of_ble_eq_true rfl) (Nat.zero_le _) (Nat.zero_le _) (fun _ hr => ct_X1_takeOut (N := N) h_2 hr) (fun _ I_7 => ?_)
        refine ok_aload_n (q := 69) 2 dX11_lack_68 rfl rfl rfl ?_
        refine fi_callV0S (q := 72) (as := []) (st := []) dX11_lack_69 rfl mo_X11_119 h0 rfl (Nat.le_of_ble_eq_true rfl) rfl rfl (Nat.le_of_ble_eq_true rfl) (Nat.le_of_ble_eq_true rfl) (Nat.le_of_ble_eq_true rfl) (Nat.zero_le _) (Nat.zero_le _) (fun _ hr => ct_X11_forgetRuling (N := N) h0 hr) (fun _ I_8 => ?_)
        refine ok_aload_n (q := 73) 2 dX11_lack_72 rfl rfl rfl ?_
        refine ok_aload_n (q := 74) 2 dX11_lack_73 rfl rfl rfl ?_
        refine ok_getR (q := 77) (ci := 11) (k := 0) (x := F a0 0) dX11_lack_74 rfl fo_X11_12 h0 rfl ?_
        refine ok_getI (q := 80) (ci := 1) (k := 3) (x := I_8 (F a0 0) 3) dX11_lack_77 rfl fo_X11_112 h_2 rfl ?_
        refine fi_callV1S (q := 83) (as := [qi (I_8 (F a0 0) 3)]) (st := []) dX11_lack_80 rfl mo_X11_98 h0 rfl (Nat.le_of_ble_eq_true rfl) rfl rfl (Nat.le_of_ble_eq_true rfl) (Nat.le_of_ble_eq_true rfl) (Nat.le_of_ble_eq_true rfl) (Nat.zero_le _) (Nat.zero_le _) (fun _ hr => ct_X11_accept (N := N) h0 hr) (fun v_9 I_10 => ?_)
        exact fi_ireturnS dX11_lack_83 rfl
      · skip
        exact fun g => ok_pick [2] rfl (w_X11_lack_b52 (N := N) h0 g)
  · skip
    refine ok_aload_n (q := 12) 1 dX11_lack_11 rfl rfl rfl ?_
    refine ok_iload_n (q := 13) 0 dX11_lack_12 rfl rfl rfl ?_
    refine fi_callV1S (q := 16) (as := [qi v_1]) (st := []) dX11_lack_13 rfl mo_X11_91 h0 rfl (Nat.le_of_ble_eq_true rfl) rfl rfl (Nat.le_of_ble_eq_true rfl) (Nat.le_of_ble_eq_true rfl) (Nat.le_of_ble_eq_true rfl) (Nat.zero_le _) (Nat.zero_le _) (fun _ hr => ct_X11_refuse (N := N) h0 hr) (fun v_11 I_12 => ?_)
    exact fi_ireturnS dX11_lack_16 rfl
theorem ct_X11_lack {η : am_E} {l : Launch} {N : Nat} {n : Nat} {K : am_K} {I : am_I} {F : am_F} {a0 : Nat} {r0 : Int × am_I} {x1 : Int} {x2 : Int} (h0 : (K a0).1 = 11) : X11_lack N K F a0 I x1 x2 = some r0 → am_Ct η l yX11_lack cX11_lack 5 (some .int) 4 89 0 0 [qr a0, qi x1, qi x2] n K I F (am_pS 1 r0 n K F) := fun g => am_Ct.of false (by decide) (by decide) (Nat.le_of_ble_eq_true rfl) (fun _ => w_X11_lack (N := N) h0 g)
def M_X11_seeds : am_M := (yX11_seeds.cls, cX11_seeds, 5, (some .int), am_room 2 45 0 0, false)
def X11_seeds_b30 (N : Nat) (K : am_K) (F : am_F) (a0 : Nat) (I : am_I) : Option (Int × am_I) :=
  am_cl (X11_refuse N K F a0 I 7) (fun v_1 I_2 => some (v_1, I_2))
theorem w_X11_seeds_b30 {η : am_E} {l : Launch} {N : Nat} {n : Nat} {K : am_K} {I : am_I} {F : am_F} {a0 : Nat} {r0 : Int × am_I} (h0 : (K a0).1 = 11) : X11_seeds_b30 N K F a0 I = some r0 → Ok η l M_X11_seeds (am_qm η (am_pS 1 r0 n K F) 0 0) 30 [(0, qr a0)] [] n K I F 0 0 := by
  unfold X11_seeds_b30
  refine ok_aload_n (q := 31) 0 dX11_seeds_30 rfl rfl rfl ?_
  refine ok_bipush (q := 33) (x := 7) dX11_seeds_31 rfl rfl (by decide) ?_
  refine fi_callV1S (q := 36) (as := [qi 7]) (st := []) dX11_seeds_33 rfl mo_X11_91 h0 rfl (Nat.le_of_ble_eq_true rfl) rfl rfl (Nat.le_of_ble_eq_true rfl) (Nat.le_of_ble_eq_true rfl) (Nat.le_of_ble_eq_true rfl) (Nat.zero_le _) (Nat.zero_le _) (fun _ hr => ct_X11_refuse (N := N) h0 hr) (fun v_1 I_2 => ?_)
  exact fi_ireturnS dX11_seeds_36 rfl
def X11_seeds (N : Nat) (K : am_K) (F : am_F) (a0 : Nat) (I : am_I) (x1 : Int) (x2 : Int) (x3 : Int) : Option (Int × am_I) :=
  am_cq (X11_whyNoPit N K F I a0 x1 x2) (fun v_1 => if v_1 = 0 then (if 0 ≤ x3 then (if 60 < x3 then (X11_seeds_b30 N K F a0 I) else (if (K (F a0 2)).1 = 6 then if (K (F a0 0)).1 = 1 then am_cq (X1_pitAt N K F I (F a0 0) x1 x2) (fun v_4 => if (K (F (F a0 2) 0)).1 = 100 then if F (F a0 2) 0 ≠ 1 then if (0 : Int) ≤ v_4 ∧ v_4 < (K (F (F a0 2) 0)).2 then am_lt (am_u2 I (F (F a0 2) 0) v_4 x3) (fun I_8 => if (K (F a0 5)).1 = 4 then am_cl (X4_clear N K F (F a0 5) I_8) (fun _ I_10 => am_cq (X1_seedsIn N K F I_10 (F a0 0) (F (F a0 2) 0)) (fun v_11 => am_cl (X11_accept N K F a0 I_10 v_11) (fun v_12 I_13 => some (v_12, I_13)))) else none) else none else none else none) else none else none)) else (X11_seeds_b30 N K F a0 I)) else (am_cl (X11_refuse N K F a0 I v_1) (fun v_14 I_15 => some (v_14, I_15))))
theorem w_X11_seeds {η : am_E} {l : Launch} {N : Nat} {n : Nat} {K : am_K} {I : am_I} {F : am_F} {a0 : Nat} {r0 : Int × am_I} {x1 : Int} {x2 : Int} {x3 : Int} (h0 : (K a0).1 = 11) : X11_seeds N K F a0 I x1 x2 x3 = some r0 → Ok η l M_X11_seeds (am_qm η (am_pS 1 r0 n K F) 0 0) 0 [(0, qr a0), (1, qi x1), (2, qi x2), (3, qi x3)] [] n K I F 0 0 := by
  unfold X11_seeds
  refine ok_aload_n (q := 1) 0 dX11_seeds_0 rfl rfl rfl ?_
  refine ok_iload_n (q := 2) 1 dX11_seeds_1 rfl rfl rfl ?_
  refine ok_iload_n (q := 3) 2 dX11_seeds_2 rfl rfl rfl ?_
  refine fi_callV1P (q := 6) (as := [qi x1, qi x2]) (st := []) dX11_seeds_3 rfl mo_X11_101 h0 rfl (Nat.le_of_ble_eq_true rfl) rfl rfl (Nat.le_of_ble_eq_true rfl) (Nat.le_of_ble_eq_true rfl) (Nat.le_of_ble_eq_true rfl) (Nat.zero_le _) (Nat.zero_le _) (fun _ hr => ct_X11_whyNoPit (N := N) h0 hr) (fun v_1 => ?_)
  refine ok_istore (q := 8) (ls' := [(4, qi v_1), (0, qr a0), (1, qi x1), (2, qi x2), (3, qi x3)]) dX11_seeds_6 rfl (Nat.le_of_ble_eq_true rfl) rfl ?_
  refine ok_iload (q := 10) 0 dX11_seeds_8 rfl rfl ?_
  refine ok_if_eq (q := 20) (q2 := 13) dX11_seeds_10 rfl rfl ?_ ?_
  · skip
    refine ok_iload_n (q := 21) 4 dX11_seeds_20 rfl rfl rfl ?_
    refine ok_if_lt (q := 30) (q2 := 24) dX11_seeds_21 rfl rfl ?_ ?_
    · skip
      exact fun g => ok_pick [1] rfl (w_X11_seeds_b30 (N := N) h0 g)
    · skip
      refine ok_iload_n (q := 25) 4 dX11_seeds_24 rfl rfl rfl ?_
      refine ok_bipush (q := 27) (x := 60) dX11_seeds_25 rfl rfl (by decide) ?_
      refine ok_icmp_le (q := 37) (q2 := 30) dX11_seeds_27 rfl rfl ?_ ?_
      · skip
        refine ok_aload_n (q := 38) 1 dX11_seeds_37 rfl rfl rfl ?_
        refine ok_getR (q := 41) (ci := 11) (k := 2) (x := F a0 2) dX11_seeds_38 rfl fo_X11_26 h0 rfl ?_
        refine fi_chk (fun h_2 => ?_)
        refine ok_getR (q := 44) (ci := 6) (k := 0) (x := F (F a0 2) 0) dX11_seeds_41 rfl fo_X11_108 h_2 rfl ?_
        refine ok_aload_n (q := 45) 1 dX11_seeds_44 rfl rfl rfl ?_
        refine ok_getR (q := 48) (ci := 11) (k := 0) (x := F a0 0) dX11_seeds_45 rfl fo_X11_12 h0 rfl ?_
        refine ok_iload_n (q := 49) 2 dX11_seeds_48 rfl rfl rfl ?_
        refine ok_iload_n (q := 50) 3 dX11_seeds_49 rfl rfl rfl ?_
        refine fi_chk (fun h_3 => ?_)
        refine fi_callV1P (q := 53) (as := [qi x1, qi x2]) (st := [qr (F (F a0 2) 0)]) dX11_seeds_50 rfl mo_X11_105 h_3 rfl (Nat.le_of_ble_eq_true rfl) rfl rfl (Nat.le_of_ble_eq_true rfl) (Nat.le_of_ble_eq_true rfl) (Nat.le_of_ble_eq_true rfl) (Nat.zero_le _) (Nat.zero_le _) (fun _ hr => ct_X1_pitAt (N := N) h_3 hr) (fun v_4 => ?_)
        refine ok_iload_n (q := 54) 4 dX11_seeds_53 rfl rfl rfl ?_
        refine fi_chk (fun h_5 => ?_)
        refine fi_chk (fun h_6 => ?_)
        refine fi_chk (fun h_7 => ?_)
        refine ok_iastore (q := 55) dX11_seeds_54 rfl h_5 h_6 h_7.1 h_7.2 (fun I_8 => ?_)
        refine ok_aload_n (q := 56) 1 dX11_seeds_55 rfl rfl rfl ?_
        refine ok_getR (q := 59) (ci := 11) (k := 5) (x := F a0 5) dX11_seeds_56 rfl fo_X11_51 h0 rfl ?_
        refine fi_chk (fun h_9 => ?_)
        refine fi_callV0S (q := 62) (as := []) (st := []) dX11_seeds_59 rfl mo_X11_122 h_9 rfl (Nat.le_of_ble_eq_true rfl) rfl rfl (Nat.le_of_ble_eq_true rfl) (Nat.le_of_ble_eq_true rfl) (Nat.le_of_ble_eq_true rfl) (Nat.zero_le _) (Nat.zero_le _) (fun _ hr => ct_X4_clear (N := N) h_9 hr) (fun _ I_10 => ?_)
        refine ok_aload_n (q := 63) 1 dX11_seeds_62 rfl rfl rfl ?_
        refine ok_aload_n (q := 64) 1 dX11_seeds_63 rfl rfl rfl ?_
        refine ok_getR (q := 67) (ci := 11) (k := 0) (x := F a0 0) dX11_seeds_64 rfl fo_X11_12 h0 rfl ?_
        refine ok_aload_n (q := 68) 1 dX11_seeds_67 rfl rfl rfl ?_
        refine ok_getR (q := 71) (ci := 11) (k := 2) (x := F a0 2) dX11_seeds_68 rfl fo_X11_26 h0 rfl ?_
        refine ok_getR (q := 74) (ci := 6) (k := 0) (x := F (F a0 2) 0) dX11_seeds_71 rfl fo_X11_108 h_2 rfl ?_
        refine fi_callV1P (q := 77) (as := [qr (F (F a0 2) 0)]) (st := [qr a0]) dX11_seeds_74 rfl mo_X11_125 h_3 rfl (Nat.le_of_ble_eq_true rfl) rfl rfl (Nat.le_of_ble_eq_true rfl) (Nat.le_of_ble_eq_true rfl) (Nat.le_of_ble_eq_true rfl) (Nat.zero_le _) (Nat.zero_le _) (fun _ hr => ct_X1_seedsIn (N := N) h_3 hr) (fun v_11 => ?_)
        refine fi_callV1S (q := 80) (as := [qi v_11]) (st := []) dX11_seeds_77 rfl mo_X11_98 h0 rfl (Nat.le_of_ble_eq_true rfl) rfl rfl (Nat.le_of_ble_eq_true rfl) (Nat.le_of_ble_eq_true rfl) (Nat.le_of_ble_eq_true rfl) (Nat.zero_le _) (Nat.zero_le _) (fun _ hr => ct_X11_accept (N := N) h0 hr) (fun v_12 I_13 => ?_)
        exact fi_ireturnS dX11_seeds_80 rfl
      · skip
        exact fun g => ok_pick [1] rfl (w_X11_seeds_b30 (N := N) h0 g)
  · skip
    refine ok_aload_n (q := 14) 1 dX11_seeds_13 rfl rfl rfl ?_
    refine ok_iload (q := 16) 0 dX11_seeds_14 rfl rfl ?_
    refine fi_callV1S (q := 19) (as := [qi v_1]) (st := []) dX11_seeds_16 rfl mo_X11_91 h0 rfl (Nat.le_of_ble_eq_true rfl) rfl rfl (Nat.le_of_ble_eq_true rfl) (Nat.le_of_ble_eq_true rfl) (Nat.le_of_ble_eq_true rfl) (Nat.zero_le _) (Nat.zero_le _) (fun _ hr => ct_X11_refuse (N := N) h0 hr) (fun v_14 I_15 => ?_)
    exact fi_ireturnS dX11_seeds_19 rfl
theorem ct_X11_seeds {η : am_E} {l : Launch} {N : Nat} {n : Nat} {K : am_K} {I : am_I} {F : am_F} {a0 : Nat} {r0 : Int × am_I} {x1 : Int} {x2 : Int} {x3 : Int} (h0 : (K a0).1 = 11) : X11_seeds N K F a0 I x1 x2 x3 = some r0 → am_Ct η l yX11_seeds cX11_seeds 5 (some .int) 2 45 0 0 [qr a0, qi x1, qi x2, qi x3] n K I F (am_pS 1 r0 n K F) := fun g => am_Ct.of false (by decide) (by decide) (Nat.le_of_ble_eq_true rfl) (fun _ => w_X11_seeds (N := N) h0 g)
def M_X11_isSide : am_M := (yX11_isSide.cls, cX11_isSide, 1, (some .boolean), am_room 0 0 0 0, false)
def X11_isSide_b14 (N : Nat) (K : am_K) (F : am_F) (I : am_I) (s0 : Int) : Option Int :=
  if s0 = 0 ∨ s0 = 1 then some (s0) else none
theorem w_X11_isSide_b14 {η : am_E} {l : Launch} {N : Nat} {n : Nat} {K : am_K} {I : am_I} {F : am_F} {r0 : Int} {s0 : Int} : X11_isSide_b14 N K F I s0 = some r0 → Ok η l M_X11_isSide (am_qm η (am_pS 1 (r0, I) n K F) 0 0) 14 [] [qi s0] n K I F 0 0 := by
  unfold X11_isSide_b14
  refine fi_chk (fun h_1 => ?_)
  exact fi_zreturnP dX11_isSide_14 rfl h_1
def X11_isSide_b9 (N : Nat) (K : am_K) (F : am_F) (I : am_I) : Option Int :=
  X11_isSide_b14 N K F I 1
theorem w_X11_isSide_b9 {η : am_E} {l : Launch} {N : Nat} {n : Nat} {K : am_K} {I : am_I} {F : am_F} {r0 : Int} : X11_isSide_b9 N K F I = some r0 → Ok η l M_X11_isSide (am_qm η (am_pS 1 (r0, I) n K F) 0 0) 9 [] [] n K I F 0 0 := by
  unfold X11_isSide_b9
  refine ok_iconst (q := 10) (x := 1) dX11_isSide_9 rfl rfl (by decide) ?_
  refine ok_goto (q := 14) dX11_isSide_10 rfl ?_
  exact fun g => ok_pick [] rfl (w_X11_isSide_b14 (N := N) g)
def X11_isSide (N : Nat) (K : am_K) (F : am_F) (I : am_I) (x0 : Int) : Option Int :=
  if x0 = 0 then (X11_isSide_b9 N K F I ) else (if x0 = 1 then (X11_isSide_b9 N K F I ) else (X11_isSide_b14 N K F I 0))
theorem w_X11_isSide {η : am_E} {l : Launch} {N : Nat} {n : Nat} {K : am_K} {I : am_I} {F : am_F} {r0 : Int} {x0 : Int} : X11_isSide N K F I x0 = some r0 → Ok η l M_X11_isSide (am_qm η (am_pS 1 (r0, I) n K F) 0 0) 0 [(0, qi x0)] [] n K I F 0 0 := by
  unfold X11_isSide
  refine ok_iload_n (q := 1) 0 dX11_isSide_0 rfl rfl rfl ?_
  refine ok_if_eq (q := 9) (q2 := 4) dX11_isSide_1 rfl rfl ?_ ?_
  · skip
    exact fun g => ok_pick [] rfl (w_X11_isSide_b9 (N := N) g)
  · skip
    refine ok_iload_n (q := 5) 0 dX11_isSide_4 rfl rfl rfl ?_
    refine ok_iconst (q := 6) (x := 1) dX11_isSide_5 rfl rfl (by decide) ?_
    refine ok_icmp_ne (q := 13) (q2 := 9) dX11_isSide_6 rfl rfl ?_ ?_
    · skip
      refine ok_iconst (q := 14) (x := 0) dX11_isSide_13 rfl rfl (by decide) ?_
      exact fun g => ok_pick [] rfl (w_X11_isSide_b14 (N := N) g)
    · skip
      exact fun g => ok_pick [] rfl (w_X11_isSide_b9 (N := N) g)
theorem ct_X11_isSide {η : am_E} {l : Launch} {N : Nat} {n : Nat} {K : am_K} {I : am_I} {F : am_F} {r0 : Int} {x0 : Int} : X11_isSide N K F I x0 = some r0 → am_Ct η l yX11_isSide cX11_isSide 1 (some .boolean) 0 0 0 0 [qi x0] n K I F (am_pS 1 (r0, I) n K F) := fun g => am_Ct.of false (by decide) (by decide) (Nat.le_of_ble_eq_true rfl) (fun _ => w_X11_isSide (N := N) g)
def M_X11_store : am_M := (yX11_store.cls, cX11_store, 3, (some .int), am_room 1 21 0 0, false)
def X11_store_b24 (N : Nat) (K : am_K) (F : am_F) (a0 : Nat) (I : am_I) : Option (Int × am_I) :=
  am_cl (X11_refuse N K F a0 I 7) (fun v_1 I_2 => some (v_1, I_2))
theorem w_X11_store_b24 {η : am_E} {l : Launch} {N : Nat} {n : Nat} {K : am_K} {I : am_I} {F : am_F} {a0 : Nat} {r0 : Int × am_I} (h0 : (K a0).1 = 11) : X11_store_b24 N K F a0 I = some r0 → Ok η l M_X11_store (am_qm η (am_pS 1 r0 n K F) 0 0) 24 [(0, qr a0)] [] n K I F 0 0 := by
  unfold X11_store_b24
  refine ok_aload_n (q := 25) 0 dX11_store_24 rfl rfl rfl ?_
  refine ok_bipush (q := 27) (x := 7) dX11_store_25 rfl rfl (by decide) ?_
  refine fi_callV1S (q := 30) (as := [qi 7]) (st := []) dX11_store_27 rfl mo_X11_91 h0 rfl (Nat.le_of_ble_eq_true rfl) rfl rfl (Nat.le_of_ble_eq_true rfl) (Nat.le_of_ble_eq_true rfl) (Nat.le_of_ble_eq_true rfl) (Nat.zero_le _) (Nat.zero_le _) (fun _ hr => ct_X11_refuse (N := N) h0 hr) (fun v_1 I_2 => ?_)
  exact fi_ireturnS dX11_store_30 rfl
def X11_store (N : Nat) (K : am_K) (F : am_F) (a0 : Nat) (I : am_I) (x1 : Int) (x2 : Int) : Option (Int × am_I) :=
  am_cq (X11_isSide N K F I x1) (fun v_1 => if v_1 = 0 then (am_cl (X11_refuse N K F a0 I 3) (fun v_11 I_12 => some (v_11, I_12))) else (if 0 ≤ x2 then (if 1000 < x2 then (X11_store_b24 N K F a0 I) else (if (K (F a0 2)).1 = 6 then if (K (F (F a0 2) 1)).1 = 100 then if F (F a0 2) 1 ≠ 1 then if (0 : Int) ≤ x1 ∧ x1 < (K (F (F a0 2) 1)).2 then am_lt (am_u2 I (F (F a0 2) 1) x1 x2) (fun I_6 => if (K (F a0 5)).1 = 4 then am_cl (X4_clear N K F (F a0 5) I_6) (fun _ I_8 => am_cl (X11_accept N K F a0 I_8 x2) (fun v_9 I_10 => some (v_9, I_10))) else none) else none else none else none else none)) else (X11_store_b24 N K F a0 I)))
theorem w_X11_store {η : am_E} {l : Launch} {N : Nat} {n : Nat} {K : am_K} {I : am_I} {F : am_F} {a0 : Nat} {r0 : Int × am_I} {x1 : Int} {x2 : Int} (h0 : (K a0).1 = 11) : X11_store N K F a0 I x1 x2 = some r0 → Ok η l M_X11_store (am_qm η (am_pS 1 r0 n K F) 0 0) 0 [(0, qr a0), (1, qi x1), (2, qi x2)] [] n K I F 0 0 := by
  unfold X11_store
  refine ok_iload_n (q := 1) 1 dX11_store_0 rfl rfl rfl ?_
  refine fi_callS1P (q := 4) (as := [qi x1]) (st := []) dX11_store_1 rfl mo_X11_129 rfl rfl (Nat.le_of_ble_eq_true rfl) (Nat.le_of_ble_eq_true rfl) (Nat.le_of_ble_eq_true rfl) (Nat.zero_le _) (Nat.zero_le _) (fun _ hr => ct_X11_isSide (N := N) hr) (fun v_1 => ?_)
  refine ok_if_ne (q := 13) (q2 := 7) dX11_store_4 rfl rfl ?_ ?_
  · skip
    refine ok_iload_n (q := 14) 2 dX11_store_13 rfl rfl rfl ?_
    refine ok_if_lt (q := 24) (q2 := 17) dX11_store_14 rfl rfl ?_ ?_
    · skip
      exact fun g => ok_pick [0] rfl (w_X11_store_b24 (N := N) h0 g)
    · skip
      refine ok_iload_n (q := 18) 2 dX11_store_17 rfl rfl rfl ?_
      refine ok_sipush (q := 21) (x := 1000) dX11_store_18 rfl rfl (by decide) ?_
      refine ok_icmp_le (q := 31) (q2 := 24) dX11_store_21 rfl rfl ?_ ?_
      · skip
        refine ok_aload_n (q := 32) 0 dX11_store_31 rfl rfl rfl ?_
        refine ok_getR (q := 35) (ci := 11) (k := 2) (x := F a0 2) dX11_store_32 rfl fo_X11_26 h0 rfl ?_
        refine fi_chk (fun h_2 => ?_)
        refine ok_getR (q := 38) (ci := 6) (k := 1) (x := F (F a0 2) 1) dX11_store_35 rfl fo_X11_133 h_2 rfl ?_
        refine ok_iload_n (q := 39) 1 dX11_store_38 rfl rfl rfl ?_
        refine ok_iload_n (q := 40) 2 dX11_store_39 rfl rfl rfl ?_
        refine fi_chk (fun h_3 => ?_)
        refine fi_chk (fun h_4 => ?_)
        refine fi_chk (fun h_5 => ?_)
        refine ok_iastore (q := 41) dX11_store_40 rfl h_3 h_4 h_5.1 h_5.2 (fun I_6 => ?_)
        refine ok_aload_n (q := 42) 0 dX11_store_41 rfl rfl rfl ?_
        refine ok_getR (q := 45) (ci := 11) (k := 5) (x := F a0 5) dX11_store_42 rfl fo_X11_51 h0 rfl ?_
        refine fi_chk (fun h_7 => ?_)
        refine fi_callV0S (q := 48) (as := []) (st := []) dX11_store_45 rfl mo_X11_122 h_7 rfl (Nat.le_of_ble_eq_true rfl) rfl rfl (Nat.le_of_ble_eq_true rfl) (Nat.le_of_ble_eq_true rfl) (Nat.le_of_ble_eq_true rfl) (Nat.zero_le _) (Nat.zero_le _) (fun _ hr => ct_X4_clear (N := N) h_7 hr) (fun _ I_8 => ?_)
        refine ok_aload_n (q := 49) 0 dX11_store_48 rfl rfl rfl ?_
        refine ok_iload_n (q := 50) 2 dX11_store_49 rfl rfl rfl ?_
        refine fi_callV1S (q := 53) (as := [qi x2]) (st := []) dX11_store_50 rfl mo_X11_98 h0 rfl (Nat.le_of_ble_eq_true rfl) rfl rfl (Nat.le_of_ble_eq_true rfl) (Nat.le_of_ble_eq_true rfl) (Nat.le_of_ble_eq_true rfl) (Nat.zero_le _) (Nat.zero_le _) (fun _ hr => ct_X11_accept (N := N) h0 hr) (fun v_9 I_10 => ?_)
        exact fi_ireturnS dX11_store_53 rfl
      · skip
        exact fun g => ok_pick [0] rfl (w_X11_store_b24 (N := N) h0 g)
  · skip
    refine ok_aload_n (q := 8) 0 dX11_store_7 rfl rfl rfl ?_
    refine ok_iconst (q := 9) (x := 3) dX11_store_8 rfl rfl (by decide) ?_
    refine fi_callV1S (q := 12) (as := [qi 3]) (st := []) dX11_store_9 rfl mo_X11_91 h0 rfl (Nat.le_of_ble_eq_true rfl) rfl rfl (Nat.le_of_ble_eq_true rfl) (Nat.le_of_ble_eq_true rfl) (Nat.le_of_ble_eq_true rfl) (Nat.zero_le _) (Nat.zero_le _) (fun _ hr => ct_X11_refuse (N := N) h0 hr) (fun v_11 I_12 => ?_)
    exact fi_ireturnS dX11_store_12 rfl
theorem ct_X11_store {η : am_E} {l : Launch} {N : Nat} {n : Nat} {K : am_K} {I : am_I} {F : am_F} {a0 : Nat} {r0 : Int × am_I} {x1 : Int} {x2 : Int} (h0 : (K a0).1 = 11) : X11_store N K F a0 I x1 x2 = some r0 → am_Ct η l yX11_store cX11_store 3 (some .int) 1 21 0 0 [qr a0, qi x1, qi x2] n K I F (am_pS 1 r0 n K F) := fun g => am_Ct.of false (by decide) (by decide) (Nat.le_of_ble_eq_true rfl) (fun _ => w_X11_store (N := N) h0 g)
def M_X11_side : am_M := (yX11_side.cls, cX11_side, 2, (some .int), am_room 1 21 0 0, false)
def X11_side (N : Nat) (K : am_K) (F : am_F) (a0 : Nat) (I : am_I) (x1 : Int) : Option (Int × am_I) :=
  am_cq (X11_isSide N K F I x1) (fun v_1 => if v_1 = 0 then (am_cl (X11_refuse N K F a0 I 3) (fun v_8 I_9 => some (v_8, I_9))) else (if (K (F a0 2)).1 = 6 then am_lt (am_u2 I (F a0 2) 2 x1) (fun I_3 => if (K (F a0 5)).1 = 4 then am_cl (X4_clear N K F (F a0 5) I_3) (fun _ I_5 => am_cl (X11_accept N K F a0 I_5 x1) (fun v_6 I_7 => some (v_6, I_7))) else none) else none))
theorem w_X11_side {η : am_E} {l : Launch} {N : Nat} {n : Nat} {K : am_K} {I : am_I} {F : am_F} {a0 : Nat} {r0 : Int × am_I} {x1 : Int} (h0 : (K a0).1 = 11) : X11_side N K F a0 I x1 = some r0 → Ok η l M_X11_side (am_qm η (am_pS 1 r0 n K F) 0 0) 0 [(0, qr a0), (1, qi x1)] [] n K I F 0 0 := by
  unfold X11_side
  refine ok_iload_n (q := 1) 1 dX11_side_0 rfl rfl rfl ?_
  refine fi_callS1P (q := 4) (as := [qi x1]) (st := []) dX11_side_1 rfl mo_X11_129 rfl rfl (Nat.le_of_ble_eq_true rfl) (Nat.le_of_ble_eq_true rfl) (Nat.le_of_ble_eq_true rfl) (Nat.zero_le _) (Nat.zero_le _) (fun _ hr => ct_X11_isSide (N := N) hr) (fun v_1 => ?_)
  refine ok_if_ne (q := 13) (q2 := 7) dX11_side_4 rfl rfl ?_ ?_
  · skip
    refine ok_aload_n (q := 14) 0 dX11_side_13 rfl rfl rfl ?_
    refine ok_getR (q := 17) (ci := 11) (k := 2) (x := F a0 2) dX11_side_14 rfl fo_X11_26 h0 rfl ?_
    refine ok_iload_n (q := 18) 1 dX11_side_17 rfl rfl rfl ?_
    refine fi_chk (fun h_2 => ?_)
    refine ok_putI (q := 21) (ci := 6) (k := 2) dX11_side_18 rfl fo_X11_136 h_2 ft_6_2 ff_6_2 (fun I_3 => ?_)
    refine ok_aload_n (q := 22) 0 dX11_side_21 rfl rfl rfl ?_
    refine ok_getR (q := 25) (ci := 11) (k := 5) (x := F a0 5) dX11_side_22 rfl fo_X11_51 h0 rfl ?_
    refine fi_chk (fun h_4 => ?_)
    refine fi_callV0S (q := 28) (as := []) (st := []) dX11_side_25 rfl mo_X11_122 h_4 rfl (Nat.le_of_ble_eq_true rfl) rfl rfl (Nat.le_of_ble_eq_true rfl) (Nat.le_of_ble_eq_true rfl) (Nat.le_of_ble_eq_true rfl) (Nat.zero_le _) (Nat.zero_le _) (fun _ hr => ct_X4_clear (N := N) h_4 hr) (fun _ I_5 => ?_)
    refine ok_aload_n (q := 29) 0 dX11_side_28 rfl rfl rfl ?_
    refine ok_iload_n (q := 30) 1 dX11_side_29 rfl rfl rfl ?_
    refine fi_callV1S (q := 33) (as := [qi x1]) (st := []) dX11_side_30 rfl mo_X11_98 h0 rfl (Nat.le_of_ble_eq_true rfl) rfl rfl (Nat.le_of_ble_eq_true rfl) (Nat.le_of_ble_eq_true rfl) (Nat.le_of_ble_eq_true rfl) (Nat.zero_le _) (Nat.zero_le _) (fun _ hr => ct_X11_accept (N := N) h0 hr) (fun v_6 I_7 => ?_)
    exact fi_ireturnS dX11_side_33 rfl
  · skip
    refine ok_aload_n (q := 8) 0 dX11_side_7 rfl rfl rfl ?_
    refine ok_iconst (q := 9) (x := 3) dX11_side_8 rfl rfl (by decide) ?_
    refine fi_callV1S (q := 12) (as := [qi 3]) (st := []) dX11_side_9 rfl mo_X11_91 h0 rfl (Nat.le_of_ble_eq_true rfl) rfl rfl (Nat.le_of_ble_eq_true rfl) (Nat.le_of_ble_eq_true rfl) (Nat.le_of_ble_eq_true rfl) (Nat.zero_le _) (Nat.zero_le _) (fun _ hr => ct_X11_refuse (N := N) h0 hr) (fun v_8 I_9 => ?_)
    exact fi_ireturnS dX11_side_12 rfl
theorem ct_X11_side {η : am_E} {l : Launch} {N : Nat} {n : Nat} {K : am_K} {I : am_I} {F : am_F} {a0 : Nat} {r0 : Int × am_I} {x1 : Int} (h0 : (K a0).1 = 11) : X11_side N K F a0 I x1 = some r0 → am_Ct η l yX11_side cX11_side 2 (some .int) 1 21 0 0 [qr a0, qi x1] n K I F (am_pS 1 r0 n K F) := fun g => am_Ct.of false (by decide) (by decide) (Nat.le_of_ble_eq_true rfl) (fun _ => w_X11_side (N := N) h0 g)
