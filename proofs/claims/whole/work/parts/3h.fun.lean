def M_X11_goOn (mc ms : Nat) : am_M := (yX11_goOn.cls, cX11_goOn, 3, (some .int), am_room 7 170 mc ms, false)
def X11_goOn_b28 (N : Nat) (a0 : Nat) (n : Nat) (K : am_K) (I : am_I) (F : am_F) (c z : Nat) : Option am_A :=
  am_mo c z (if (K a0).1 = 11 then am_cl (X11_refuse N K F a0 I 7) (fun v_4 I_5 => some (v_4, n, K, I_5, F, c, z)) else none)
theorem w_X11_goOn_b28 {η : am_E} {l : Launch} {N : Nat} {n : Nat} {K : am_K} {I : am_I} {F : am_F} {c z : Nat} {a0 : Nat} {r0 : am_A} : X11_goOn_b28 N a0 n K I F c z = some r0 → Ok η l (M_X11_goOn (am_ac1 r0) (am_az1 r0)) (am_qm η (am_pA 1 r0) (am_ac1 r0) (am_az1 r0)) 28 [(0, qr a0)] [] n K I F c z := by
  unfold X11_goOn_b28
  refine fi_mo (fun hc_1 hz_2 => ?_)
  refine ok_aload_n (q := 29) 0 dX11_goOn_28 rfl rfl rfl ?_
  refine ok_bipush (q := 31) (x := 7) dX11_goOn_29 rfl rfl (by decide) ?_
  refine fi_chk (fun h_3 => ?_)
  refine fi_callV1S (q := 34) (as := [qi 7]) (st := []) dX11_goOn_31 rfl mo_X11_91 h_3 rfl (Nat.le_of_ble_eq_true rfl) rfl rfl (Nat.le_of_ble_eq_true rfl) (Nat.le_of_ble_eq_true rfl) (Nat.le_of_ble_eq_true rfl) hc_1 hz_2 (fun _ hr => ct_X11_refuse (N := N) h_3 hr) (fun v_4 I_5 => ?_)
  exact fi_ireturnA dX11_goOn_34 rfl
def X11_goOn_b65 (N : Nat) (a0 : Nat) (n : Nat) (K : am_K) (I : am_I) (F : am_F) (c z : Nat) : Option am_A :=
  am_mo c z (if (K a0).1 = 11 then if (K (F a0 6)).1 = 9 then am_cq (X9_layersLeft N K F I (F a0 6)) (fun v_5 => am_cl (X11_accept N K F a0 I v_5) (fun v_6 I_7 => some (v_6, n, K, I_7, F, c, z))) else none else none)
theorem w_X11_goOn_b65 {η : am_E} {l : Launch} {N : Nat} {n : Nat} {K : am_K} {I : am_I} {F : am_F} {c z : Nat} {a0 : Nat} {r0 : am_A} : X11_goOn_b65 N a0 n K I F c z = some r0 → Ok η l (M_X11_goOn (am_ac1 r0) (am_az1 r0)) (am_qm η (am_pA 1 r0) (am_ac1 r0) (am_az1 r0)) 65 [(0, qr a0)] [] n K I F c z := by
  unfold X11_goOn_b65
  refine fi_mo (fun hc_1 hz_2 => ?_)
  refine ok_aload_n (q := 66) 0 dX11_goOn_65 rfl rfl rfl ?_
  refine ok_aload_n (q := 67) 0 dX11_goOn_66 rfl rfl rfl ?_
  refine fi_chk (fun h_3 => ?_)
  refine ok_getR (q := 70) (ci := 11) (k := 6) (x := F a0 6) dX11_goOn_67 rfl fo_X11_65 h_3 rfl ?_
  refine fi_chk (fun h_4 => ?_)
  refine fi_callV1P (q := 73) (as := []) (st := [qr a0]) dX11_goOn_70 rfl mo_X11_251 h_4 rfl (Nat.le_of_ble_eq_true rfl) rfl rfl (Nat.le_of_ble_eq_true rfl) (Nat.le_of_ble_eq_true rfl) (Nat.le_of_ble_eq_true rfl) hc_1 hz_2 (fun _ hr => ct_X9_layersLeft (N := N) h_4 hr) (fun v_5 => ?_)
  refine fi_callV1S (q := 76) (as := [qi v_5]) (st := []) dX11_goOn_73 rfl mo_X11_98 h_3 rfl (Nat.le_of_ble_eq_true rfl) rfl rfl (Nat.le_of_ble_eq_true rfl) (Nat.le_of_ble_eq_true rfl) (Nat.le_of_ble_eq_true rfl) hc_1 hz_2 (fun _ hr => ct_X11_accept (N := N) h_3 hr) (fun v_6 I_7 => ?_)
  exact fi_ireturnA dX11_goOn_76 rfl
def X11_goOn_s37 (N : Nat) (a0 : Nat) (k37 : Nat → am_K → am_I → am_F → Nat → Nat → Int → Int → Option am_A) (n : Nat) (K : am_K) (I : am_I) (F : am_F) (c z : Nat) (x1 : Int) (x2 : Int) : Option am_A :=
  am_mo c z (if x2 < x1 then (if (K a0).1 = 11 then if (K (F a0 6)).1 = 9 then am_cq (X9_layersLeft N K F I (F a0 6)) (fun v_5 => if 0 < v_5 then (am_ca (X9_solveNextLayer N (F a0 6) n K I F) (fun _ n_6 K_7 I_8 F_9 c_10 z_11 => am_mo (c + c_10) (z + z_11) (if am_inI (x2 + 1) then am_lt (x2 + 1) (fun x2_15 => k37 n_6 K_7 I_8 F_9 (c + c_10) (z + z_11) x1 x2_15) else none))) else (X11_goOn_b65 N a0 n K I F c z)) else none else none) else (X11_goOn_b65 N a0 n K I F c z))
theorem w_X11_goOn_s37 {η : am_E} {l : Launch} {N : Nat} {n : Nat} {K : am_K} {I : am_I} {F : am_F} {c z : Nat} {a0 : Nat} {r0 : am_A} {k37 : Nat → am_K → am_I → am_F → Nat → Nat → Int → Int → Option am_A} {x1 : Int} {x2 : Int} (H37 : ∀ (n : Nat) (K : am_K) (I : am_I) (F : am_F) (c : Nat) (z : Nat) (x1 : Int) (x2 : Int), k37 n K I F c z x1 x2 = some r0 → Ok η l (M_X11_goOn (am_ac1 r0) (am_az1 r0)) (am_qm η (am_pA 1 r0) (am_ac1 r0) (am_az1 r0)) 37 [(0, qr a0), (1, qi x1), (2, qi x2)] [] n K I F c z) : X11_goOn_s37 N a0 k37 n K I F c z x1 x2 = some r0 → Ok η l (M_X11_goOn (am_ac1 r0) (am_az1 r0)) (am_qm η (am_pA 1 r0) (am_ac1 r0) (am_az1 r0)) 37 [(0, qr a0), (1, qi x1), (2, qi x2)] [] n K I F c z := by
  unfold X11_goOn_s37
  refine fi_mo (fun hc_1 hz_2 => ?_)
  refine ok_iload_n (q := 38) 2 dX11_goOn_37 rfl rfl rfl ?_
  refine ok_iload_n (q := 39) 1 dX11_goOn_38 rfl rfl rfl ?_
  refine ok_icmp_ge (q := 65) (q2 := 42) dX11_goOn_39 rfl rfl ?_ ?_
  · skip
    exact fun g => ok_pick [0] rfl (w_X11_goOn_b65 (N := N) g)
  · skip
    refine ok_aload_n (q := 43) 0 dX11_goOn_42 rfl rfl rfl ?_
    refine fi_chk (fun h_3 => ?_)
    refine ok_getR (q := 46) (ci := 11) (k := 6) (x := F a0 6) dX11_goOn_43 rfl fo_X11_65 h_3 rfl ?_
    refine fi_chk (fun h_4 => ?_)
    refine fi_callV1P (q := 49) (as := []) (st := []) dX11_goOn_46 rfl mo_X11_251 h_4 rfl (Nat.le_of_ble_eq_true rfl) rfl rfl (Nat.le_of_ble_eq_true rfl) (Nat.le_of_ble_eq_true rfl) (Nat.le_of_ble_eq_true rfl) hc_1 hz_2 (fun _ hr => ct_X9_layersLeft (N := N) h_4 hr) (fun v_5 => ?_)
    refine ok_if_le (q := 65) (q2 := 52) dX11_goOn_49 rfl rfl ?_ ?_
    · skip
      exact fun g => ok_pick [0] rfl (w_X11_goOn_b65 (N := N) g)
    · skip
      refine ok_aload_n (q := 53) 0 dX11_goOn_52 rfl rfl rfl ?_
      refine ok_getR (q := 56) (ci := 11) (k := 6) (x := F a0 6) dX11_goOn_53 rfl fo_X11_65 h_3 rfl ?_
      refine fi_callV0A (q := 59) (as := []) (st := []) dX11_goOn_56 rfl mo_X11_254 h_4 rfl (Nat.le_of_ble_eq_true rfl) rfl rfl (Nat.le_of_ble_eq_true rfl) (Nat.le_of_ble_eq_true rfl) (Nat.le_of_ble_eq_true rfl) (Nat.le_refl _) (Nat.le_refl _) (fun _ hr => ct_X9_solveNextLayer (N := N) h_4 hr) (fun _ n_6 K_7 I_8 F_9 c_10 z_11 hc_12 hz_13 => ?_)
      refine fi_chk (fun h_14 => ?_)
      refine ok_iincL (q := 62) (fun x2_15 => [(2, qi x2_15), (0, qr a0), (1, qi x1)]) 2 dX11_goOn_59 rfl rfl h_14 (Nat.le_of_ble_eq_true rfl) (fun _ => rfl) (fun x2_15 => ?_)
      refine ok_goto (q := 37) dX11_goOn_62 rfl ?_
      exact fun g => ok_pick [1, 2, 0] rfl (H37 _ _ _ _ _ _ _ _ g)
def X11_goOn_h37 (N : Nat) (a0 : Nat) : Nat → Nat → am_K → am_I → am_F → Nat → Nat → Int → Int → Option am_A := am_it (fun kh => X11_goOn_s37 N a0 kh) (fun _ _ _ _ _ _ _ _ => none)
theorem w_X11_goOn_h37 {η : am_E} {l : Launch} {N : Nat}  {a0 : Nat} {r0 : am_A} (f : Nat) : ∀ (n : Nat) (K : am_K) (I : am_I) (F : am_F) (c : Nat) (z : Nat) (x1 : Int) (x2 : Int), X11_goOn_h37 N a0 f n K I F c z x1 x2 = some r0 → Ok η l (M_X11_goOn (am_ac1 r0) (am_az1 r0)) (am_qm η (am_pA 1 r0) (am_ac1 r0) (am_az1 r0)) 37 [(0, qr a0), (1, qi x1), (2, qi x2)] [] n K I F c z := by
  induction f with
  | zero => intro n K I F c z x1 x2 g; exact fi_none g
  | succ f ih => intro n K I F c z x1 x2 g; exact w_X11_goOn_s37 (N := N) ih g
def X11_goOn (N : Nat) (a0 : Nat) (n : Nat) (K : am_K) (I : am_I) (F : am_F) (x1 : Int) : Option am_A :=
  if (K (F a0 6)).1 = 9 then if (I (F a0 6) 1) = 0 then (am_cl (X11_refuse N K F a0 I 9) (fun v_2 I_3 => some (v_2, n, K, I_3, F, 0, 0))) else (if 1 ≤ x1 then (if 13 < x1 then (X11_goOn_b28 N a0 n K I F 0 0) else (X11_goOn_h37 N a0 N n K I F 0 0 x1 0)) else (X11_goOn_b28 N a0 n K I F 0 0)) else none
theorem w_X11_goOn {η : am_E} {l : Launch} {N : Nat} {n : Nat} {K : am_K} {I : am_I} {F : am_F} {a0 : Nat} {r0 : am_A} {x1 : Int} (h0 : (K a0).1 = 11) : X11_goOn N a0 n K I F x1 = some r0 → Ok η l (M_X11_goOn (am_ac1 r0) (am_az1 r0)) (am_qm η (am_pA 1 r0) (am_ac1 r0) (am_az1 r0)) 0 [(0, qr a0), (1, qi x1)] [] n K I F 0 0 := by
  unfold X11_goOn
  refine ok_aload_n (q := 1) 0 dX11_goOn_0 rfl rfl rfl ?_
  refine ok_getR (q := 4) (ci := 11) (k := 6) (x := F a0 6) dX11_goOn_1 rfl fo_X11_65 h0 rfl ?_
  refine fi_chk (fun h_1 => ?_)
  refine ok_getI (q := 7) (ci := 9) (k := 1) (x := I (F a0 6) 1) dX11_goOn_4 rfl fo_X11_248 h_1 rfl ?_
  refine ok_if_ne (q := 17) (q2 := 10) dX11_goOn_7 rfl rfl ?_ ?_
  · skip
    refine ok_iload_n (q := 18) 1 dX11_goOn_17 rfl rfl rfl ?_
    refine ok_iconst (q := 19) (x := 1) dX11_goOn_18 rfl rfl (by decide) ?_
    refine ok_icmp_lt (q := 28) (q2 := 22) dX11_goOn_19 rfl rfl ?_ ?_
    · skip
      exact fun g => ok_pick [0] rfl (w_X11_goOn_b28 (N := N) g)
    · skip
      refine ok_iload_n (q := 23) 1 dX11_goOn_22 rfl rfl rfl ?_
      refine ok_bipush (q := 25) (x := 13) dX11_goOn_23 rfl rfl (by decide) ?_
      refine ok_icmp_le (q := 35) (q2 := 28) dX11_goOn_25 rfl rfl ?_ ?_
      · skip
        refine ok_iconst (q := 36) (x := 0) dX11_goOn_35 rfl rfl (by decide) ?_
        refine ok_istore_n (q := 37) (ls' := [(2, qi 0), (0, qr a0), (1, qi x1)]) dX11_goOn_36 rfl rfl (Nat.le_of_ble_eq_true rfl) rfl ?_
        exact fun g => ok_pick [1, 2, 0] rfl (w_X11_goOn_h37 (N := N) N _ _ _ _ _ _ _ _ g)
      · skip
        exact fun g => ok_pick [0] rfl (w_X11_goOn_b28 (N := N) g)
  · skip
    refine ok_aload_n (q := 11) 0 dX11_goOn_10 rfl rfl rfl ?_
    refine ok_bipush (q := 13) (x := 9) dX11_goOn_11 rfl rfl (by decide) ?_
    refine fi_callV1S (q := 16) (as := [qi 9]) (st := []) dX11_goOn_13 rfl mo_X11_91 h0 rfl (Nat.le_of_ble_eq_true rfl) rfl rfl (Nat.le_of_ble_eq_true rfl) (Nat.le_of_ble_eq_true rfl) (Nat.le_of_ble_eq_true rfl) (Nat.zero_le _) (Nat.zero_le _) (fun _ hr => ct_X11_refuse (N := N) h0 hr) (fun v_2 I_3 => ?_)
    exact fi_ireturnA dX11_goOn_16 rfl
theorem ct_X11_goOn {η : am_E} {l : Launch} {N : Nat} {n : Nat} {K : am_K} {I : am_I} {F : am_F} {a0 : Nat} {r0 : am_A} {x1 : Int} (h0 : (K a0).1 = 11) : X11_goOn N a0 n K I F x1 = some r0 → am_Ct η l yX11_goOn cX11_goOn 3 (some .int) 7 170 (am_ac1 r0) (am_az1 r0) [qr a0, qi x1] n K I F (am_pA 1 r0) := fun g => am_Ct.of false (by decide) (by decide) (Nat.le_of_ble_eq_true rfl) (fun _ => w_X11_goOn (N := N) h0 g)
def M_X11_value : am_M := (yX11_value.cls, cX11_value, 3, (some .int), am_room 2 42 0 0, false)
def X11_value (N : Nat) (K : am_K) (F : am_F) (a0 : Nat) (I : am_I) (x1 : Int) : Option (Int × am_I) :=
  if (K (F a0 6)).1 = 9 then am_cq (X9_whyNotSolved N K F I (F a0 6) x1) (fun v_2 => if v_2 = 0 then (if (K (F (F a0 6) 4)).1 = 100 then if (0 : Int) ≤ x1 ∧ x1 < (K (F (F a0 6) 4)).2 then am_cl (X11_accept N K F a0 I (I (F (F a0 6) 4) x1)) (fun v_5 I_6 => some (v_5, I_6)) else none else none) else (am_cl (X11_refuse N K F a0 I v_2) (fun v_7 I_8 => some (v_7, I_8)))) else none
theorem w_X11_value {η : am_E} {l : Launch} {N : Nat} {n : Nat} {K : am_K} {I : am_I} {F : am_F} {a0 : Nat} {r0 : Int × am_I} {x1 : Int} (h0 : (K a0).1 = 11) : X11_value N K F a0 I x1 = some r0 → Ok η l M_X11_value (am_qm η (am_pS 1 r0 n K F) 0 0) 0 [(0, qr a0), (1, qi x1)] [] n K I F 0 0 := by
  unfold X11_value
  refine ok_aload_n (q := 1) 0 dX11_value_0 rfl rfl rfl ?_
  refine ok_getR (q := 4) (ci := 11) (k := 6) (x := F a0 6) dX11_value_1 rfl fo_X11_65 h0 rfl ?_
  refine ok_iload_n (q := 5) 1 dX11_value_4 rfl rfl rfl ?_
  refine fi_chk (fun h_1 => ?_)
  refine fi_callV1P (q := 8) (as := [qi x1]) (st := []) dX11_value_5 rfl mo_X11_257 h_1 rfl (Nat.le_of_ble_eq_true rfl) rfl rfl (Nat.le_of_ble_eq_true rfl) (Nat.le_of_ble_eq_true rfl) (Nat.le_of_ble_eq_true rfl) (Nat.zero_le _) (Nat.zero_le _) (fun _ hr => ct_X9_whyNotSolved (N := N) h_1 hr) (fun v_2 => ?_)
  refine ok_istore_n (q := 9) (ls' := [(2, qi v_2), (0, qr a0), (1, qi x1)]) dX11_value_8 rfl rfl (Nat.le_of_ble_eq_true rfl) rfl ?_
  refine ok_iload_n (q := 10) 0 dX11_value_9 rfl rfl rfl ?_
  refine ok_if_eq (q := 19) (q2 := 13) dX11_value_10 rfl rfl ?_ ?_
  · skip
    refine ok_aload_n (q := 20) 1 dX11_value_19 rfl rfl rfl ?_
    refine ok_aload_n (q := 21) 1 dX11_value_20 rfl rfl rfl ?_
    refine ok_getR (q := 24) (ci := 11) (k := 6) (x := F a0 6) dX11_value_21 rfl fo_X11_65 h0 rfl ?_
    refine ok_getR (q := 27) (ci := 9) (k := 4) (x := F (F a0 6) 4) dX11_value_24 rfl fo_X11_260 h_1 rfl ?_
    refine ok_iload_n (q := 28) 2 dX11_value_27 rfl rfl rfl ?_
    refine fi_chk (fun h_3 => ?_)
    refine fi_chk (fun h_4 => ?_)
    refine ok_iaload (q := 29) (v := I (F (F a0 6) 4) x1) dX11_value_28 rfl h_3 h_4.1 h_4.2 rfl ?_
    refine fi_callV1S (q := 32) (as := [qi (I (F (F a0 6) 4) x1)]) (st := []) dX11_value_29 rfl mo_X11_98 h0 rfl (Nat.le_of_ble_eq_true rfl) rfl rfl (Nat.le_of_ble_eq_true rfl) (Nat.le_of_ble_eq_true rfl) (Nat.le_of_ble_eq_true rfl) (Nat.zero_le _) (Nat.zero_le _) (fun _ hr => ct_X11_accept (N := N) h0 hr) (fun v_5 I_6 => ?_)
    exact fi_ireturnS dX11_value_32 rfl
  · skip
    refine ok_aload_n (q := 14) 1 dX11_value_13 rfl rfl rfl ?_
    refine ok_iload_n (q := 15) 0 dX11_value_14 rfl rfl rfl ?_
    refine fi_callV1S (q := 18) (as := [qi v_2]) (st := []) dX11_value_15 rfl mo_X11_91 h0 rfl (Nat.le_of_ble_eq_true rfl) rfl rfl (Nat.le_of_ble_eq_true rfl) (Nat.le_of_ble_eq_true rfl) (Nat.le_of_ble_eq_true rfl) (Nat.zero_le _) (Nat.zero_le _) (fun _ hr => ct_X11_refuse (N := N) h0 hr) (fun v_7 I_8 => ?_)
    exact fi_ireturnS dX11_value_18 rfl
theorem ct_X11_value {η : am_E} {l : Launch} {N : Nat} {n : Nat} {K : am_K} {I : am_I} {F : am_F} {a0 : Nat} {r0 : Int × am_I} {x1 : Int} (h0 : (K a0).1 = 11) : X11_value N K F a0 I x1 = some r0 → am_Ct η l yX11_value cX11_value 3 (some .int) 2 42 0 0 [qr a0, qi x1] n K I F (am_pS 1 r0 n K F) := fun g => am_Ct.of false (by decide) (by decide) (Nat.le_of_ble_eq_true rfl) (fun _ => w_X11_value (N := N) h0 g)
def M_X11_rank : am_M := (yX11_rank.cls, cX11_rank, 3, (some .int), am_room 2 42 0 0, false)
def X11_rank (N : Nat) (K : am_K) (F : am_F) (a0 : Nat) (I : am_I) (x1 : Int) : Option (Int × am_I) :=
  if (K (F a0 6)).1 = 9 then am_cq (X9_whyNotSolved N K F I (F a0 6) x1) (fun v_2 => if v_2 = 0 then (if (K (F (F a0 6) 5)).1 = 100 then if (0 : Int) ≤ x1 ∧ x1 < (K (F (F a0 6) 5)).2 then am_cl (X11_accept N K F a0 I (I (F (F a0 6) 5) x1)) (fun v_5 I_6 => some (v_5, I_6)) else none else none) else (am_cl (X11_refuse N K F a0 I v_2) (fun v_7 I_8 => some (v_7, I_8)))) else none
theorem w_X11_rank {η : am_E} {l : Launch} {N : Nat} {n : Nat} {K : am_K} {I : am_I} {F : am_F} {a0 : Nat} {r0 : Int × am_I} {x1 : Int} (h0 : (K a0).1 = 11) : X11_rank N K F a0 I x1 = some r0 → Ok η l M_X11_rank (am_qm η (am_pS 1 r0 n K F) 0 0) 0 [(0, qr a0), (1, qi x1)] [] n K I F 0 0 := by
  unfold X11_rank
  refine ok_aload_n (q := 1) 0 dX11_rank_0 rfl rfl rfl ?_
  refine ok_getR (q := 4) (ci := 11) (k := 6) (x := F a0 6) dX11_rank_1 rfl fo_X11_65 h0 rfl ?_
  refine ok_iload_n (q := 5) 1 dX11_rank_4 rfl rfl rfl ?_
  refine fi_chk (fun h_1 => ?_)
  refine fi_callV1P (q := 8) (as := [qi x1]) (st := []) dX11_rank_5 rfl mo_X11_257 h_1 rfl (Nat.le_of_ble_eq_true rfl) rfl rfl (Nat.le_of_ble_eq_true rfl) (Nat.le_of_ble_eq_true rfl) (Nat.le_of_ble_eq_true rfl) (Nat.zero_le _) (Nat.zero_le _) (fun _ hr => ct_X9_whyNotSolved (N := N) h_1 hr) (fun v_2 => ?_)
  refine ok_istore_n (q := 9) (ls' := [(2, qi v_2), (0, qr a0), (1, qi x1)]) dX11_rank_8 rfl rfl (Nat.le_of_ble_eq_true rfl) rfl ?_
  refine ok_iload_n (q := 10) 0 dX11_rank_9 rfl rfl rfl ?_
  refine ok_if_eq (q := 19) (q2 := 13) dX11_rank_10 rfl rfl ?_ ?_
  · skip
    refine ok_aload_n (q := 20) 1 dX11_rank_19 rfl rfl rfl ?_
    refine ok_aload_n (q := 21) 1 dX11_rank_20 rfl rfl rfl ?_
    refine ok_getR (q := 24) (ci := 11) (k := 6) (x := F a0 6) dX11_rank_21 rfl fo_X11_65 h0 rfl ?_
    refine ok_getR (q := 27) (ci := 9) (k := 5) (x := F (F a0 6) 5) dX11_rank_24 rfl fo_X11_263 h_1 rfl ?_
    refine ok_iload_n (q := 28) 2 dX11_rank_27 rfl rfl rfl ?_
    refine fi_chk (fun h_3 => ?_)
    refine fi_chk (fun h_4 => ?_)
    refine ok_iaload (q := 29) (v := I (F (F a0 6) 5) x1) dX11_rank_28 rfl h_3 h_4.1 h_4.2 rfl ?_
    refine fi_callV1S (q := 32) (as := [qi (I (F (F a0 6) 5) x1)]) (st := []) dX11_rank_29 rfl mo_X11_98 h0 rfl (Nat.le_of_ble_eq_true rfl) rfl rfl (Nat.le_of_ble_eq_true rfl) (Nat.le_of_ble_eq_true rfl) (Nat.le_of_ble_eq_true rfl) (Nat.zero_le _) (Nat.zero_le _) (fun _ hr => ct_X11_accept (N := N) h0 hr) (fun v_5 I_6 => ?_)
    exact fi_ireturnS dX11_rank_32 rfl
  · skip
    refine ok_aload_n (q := 14) 1 dX11_rank_13 rfl rfl rfl ?_
    refine ok_iload_n (q := 15) 0 dX11_rank_14 rfl rfl rfl ?_
    refine fi_callV1S (q := 18) (as := [qi v_2]) (st := []) dX11_rank_15 rfl mo_X11_91 h0 rfl (Nat.le_of_ble_eq_true rfl) rfl rfl (Nat.le_of_ble_eq_true rfl) (Nat.le_of_ble_eq_true rfl) (Nat.le_of_ble_eq_true rfl) (Nat.zero_le _) (Nat.zero_le _) (fun _ hr => ct_X11_refuse (N := N) h0 hr) (fun v_7 I_8 => ?_)
    exact fi_ireturnS dX11_rank_18 rfl
theorem ct_X11_rank {η : am_E} {l : Launch} {N : Nat} {n : Nat} {K : am_K} {I : am_I} {F : am_F} {a0 : Nat} {r0 : Int × am_I} {x1 : Int} (h0 : (K a0).1 = 11) : X11_rank N K F a0 I x1 = some r0 → am_Ct η l yX11_rank cX11_rank 3 (some .int) 2 42 0 0 [qr a0, qi x1] n K I F (am_pS 1 r0 n K F) := fun g => am_Ct.of false (by decide) (by decide) (Nat.le_of_ble_eq_true rfl) (fun _ => w_X11_rank (N := N) h0 g)
def M_X11_best : am_M := (yX11_best.cls, cX11_best, 4, (some .int), am_room 3 65 0 0, false)
def X11_best (N : Nat) (K : am_K) (F : am_F) (a0 : Nat) (I : am_I) (x1 : Int) : Option (Int × am_I) :=
  if (K (F a0 6)).1 = 9 then am_cq (X9_whyNotSolved N K F I (F a0 6) x1) (fun v_2 => if v_2 = 0 then (am_cq (X9_bestEdge N K F I (F a0 6) x1) (fun v_3 => if v_3 < 0 then (am_cl (X11_refuse N K F a0 I 5) (fun v_7 I_8 => some (v_7, I_8))) else (am_cq (X0_pitOf N K F I v_3) (fun v_4 => am_cl (X11_accept N K F a0 I v_4) (fun v_5 I_6 => some (v_5, I_6)))))) else (am_cl (X11_refuse N K F a0 I v_2) (fun v_9 I_10 => some (v_9, I_10)))) else none
theorem w_X11_best {η : am_E} {l : Launch} {N : Nat} {n : Nat} {K : am_K} {I : am_I} {F : am_F} {a0 : Nat} {r0 : Int × am_I} {x1 : Int} (h0 : (K a0).1 = 11) : X11_best N K F a0 I x1 = some r0 → Ok η l M_X11_best (am_qm η (am_pS 1 r0 n K F) 0 0) 0 [(0, qr a0), (1, qi x1)] [] n K I F 0 0 := by
  unfold X11_best
  refine ok_aload_n (q := 1) 0 dX11_best_0 rfl rfl rfl ?_
  refine ok_getR (q := 4) (ci := 11) (k := 6) (x := F a0 6) dX11_best_1 rfl fo_X11_65 h0 rfl ?_
  refine ok_iload_n (q := 5) 1 dX11_best_4 rfl rfl rfl ?_
  refine fi_chk (fun h_1 => ?_)
  refine fi_callV1P (q := 8) (as := [qi x1]) (st := []) dX11_best_5 rfl mo_X11_257 h_1 rfl (Nat.le_of_ble_eq_true rfl) rfl rfl (Nat.le_of_ble_eq_true rfl) (Nat.le_of_ble_eq_true rfl) (Nat.le_of_ble_eq_true rfl) (Nat.zero_le _) (Nat.zero_le _) (fun _ hr => ct_X9_whyNotSolved (N := N) h_1 hr) (fun v_2 => ?_)
  refine ok_istore_n (q := 9) (ls' := [(2, qi v_2), (0, qr a0), (1, qi x1)]) dX11_best_8 rfl rfl (Nat.le_of_ble_eq_true rfl) rfl ?_
  refine ok_iload_n (q := 10) 0 dX11_best_9 rfl rfl rfl ?_
  refine ok_if_eq (q := 19) (q2 := 13) dX11_best_10 rfl rfl ?_ ?_
  · skip
    refine ok_aload_n (q := 20) 1 dX11_best_19 rfl rfl rfl ?_
    refine ok_getR (q := 23) (ci := 11) (k := 6) (x := F a0 6) dX11_best_20 rfl fo_X11_65 h0 rfl ?_
    refine ok_iload_n (q := 24) 2 dX11_best_23 rfl rfl rfl ?_
    refine fi_callV1P (q := 27) (as := [qi x1]) (st := []) dX11_best_24 rfl mo_X11_266 h_1 rfl (Nat.le_of_ble_eq_true rfl) rfl rfl (Nat.le_of_ble_eq_true rfl) (Nat.le_of_ble_eq_true rfl) (Nat.le_of_ble_eq_true rfl) (Nat.zero_le _) (Nat.zero_le _) (fun _ hr => ct_X9_bestEdge (N := N) h_1 hr) (fun v_3 => ?_)
    refine ok_istore_n (q := 28) (ls' := [(3, qi v_3), (2, qi v_2), (0, qr a0), (1, qi x1)]) dX11_best_27 rfl rfl (Nat.le_of_ble_eq_true rfl) rfl ?_
    refine ok_iload_n (q := 29) 0 dX11_best_28 rfl rfl rfl ?_
    refine ok_if_ge (q := 38) (q2 := 32) dX11_best_29 rfl rfl ?_ ?_
    · skip
      refine ok_aload_n (q := 39) 2 dX11_best_38 rfl rfl rfl ?_
      refine ok_iload_n (q := 40) 0 dX11_best_39 rfl rfl rfl ?_
      refine fi_callS1P (q := 43) (as := [qi v_3]) (st := [qr a0]) dX11_best_40 rfl mo_X11_269 rfl rfl (Nat.le_of_ble_eq_true rfl) (Nat.le_of_ble_eq_true rfl) (Nat.le_of_ble_eq_true rfl) (Nat.zero_le _) (Nat.zero_le _) (fun _ hr => ct_X0_pitOf (N := N) hr) (fun v_4 => ?_)
      refine fi_callV1S (q := 46) (as := [qi v_4]) (st := []) dX11_best_43 rfl mo_X11_98 h0 rfl (Nat.le_of_ble_eq_true rfl) rfl rfl (Nat.le_of_ble_eq_true rfl) (Nat.le_of_ble_eq_true rfl) (Nat.le_of_ble_eq_true rfl) (Nat.zero_le _) (Nat.zero_le _) (fun _ hr => ct_X11_accept (N := N) h0 hr) (fun v_5 I_6 => ?_)
      exact fi_ireturnS dX11_best_46 rfl
    · skip
      refine ok_aload_n (q := 33) 2 dX11_best_32 rfl rfl rfl ?_
      refine ok_iconst (q := 34) (x := 5) dX11_best_33 rfl rfl (by decide) ?_
      refine fi_callV1S (q := 37) (as := [qi 5]) (st := []) dX11_best_34 rfl mo_X11_91 h0 rfl (Nat.le_of_ble_eq_true rfl) rfl rfl (Nat.le_of_ble_eq_true rfl) (Nat.le_of_ble_eq_true rfl) (Nat.le_of_ble_eq_true rfl) (Nat.zero_le _) (Nat.zero_le _) (fun _ hr => ct_X11_refuse (N := N) h0 hr) (fun v_7 I_8 => ?_)
      exact fi_ireturnS dX11_best_37 rfl
  · skip
    refine ok_aload_n (q := 14) 1 dX11_best_13 rfl rfl rfl ?_
    refine ok_iload_n (q := 15) 0 dX11_best_14 rfl rfl rfl ?_
    refine fi_callV1S (q := 18) (as := [qi v_2]) (st := []) dX11_best_15 rfl mo_X11_91 h0 rfl (Nat.le_of_ble_eq_true rfl) rfl rfl (Nat.le_of_ble_eq_true rfl) (Nat.le_of_ble_eq_true rfl) (Nat.le_of_ble_eq_true rfl) (Nat.zero_le _) (Nat.zero_le _) (fun _ hr => ct_X11_refuse (N := N) h0 hr) (fun v_9 I_10 => ?_)
    exact fi_ireturnS dX11_best_18 rfl
theorem ct_X11_best {η : am_E} {l : Launch} {N : Nat} {n : Nat} {K : am_K} {I : am_I} {F : am_F} {a0 : Nat} {r0 : Int × am_I} {x1 : Int} (h0 : (K a0).1 = 11) : X11_best N K F a0 I x1 = some r0 → am_Ct η l yX11_best cX11_best 4 (some .int) 3 65 0 0 [qr a0, qi x1] n K I F (am_pS 1 r0 n K F) := fun g => am_Ct.of false (by decide) (by decide) (Nat.le_of_ble_eq_true rfl) (fun _ => w_X11_best (N := N) h0 g)
def M_X11_reaches : am_M := (yX11_reaches.cls, cX11_reaches, 5, (some .int), am_room 2 43 0 0, false)
def X11_reaches_b34 (N : Nat) (K : am_K) (F : am_F) (a0 : Nat) (I : am_I) : Option (Int × am_I) :=
  am_cl (X11_refuse N K F a0 I 3) (fun v_1 I_2 => some (v_1, I_2))
theorem w_X11_reaches_b34 {η : am_E} {l : Launch} {N : Nat} {n : Nat} {K : am_K} {I : am_I} {F : am_F} {a0 : Nat} {r0 : Int × am_I} (h0 : (K a0).1 = 11) : X11_reaches_b34 N K F a0 I = some r0 → Ok η l M_X11_reaches (am_qm η (am_pS 1 r0 n K F) 0 0) 34 [(0, qr a0)] [] n K I F 0 0 := by
  unfold X11_reaches_b34
  refine ok_aload_n (q := 35) 0 dX11_reaches_34 rfl rfl rfl ?_
  refine ok_iconst (q := 36) (x := 3) dX11_reaches_35 rfl rfl (by decide) ?_
  refine fi_callV1S (q := 39) (as := [qi 3]) (st := []) dX11_reaches_36 rfl mo_X11_91 h0 rfl (Nat.le_of_ble_eq_true rfl) rfl rfl (Nat.le_of_ble_eq_true rfl) (Nat.le_of_ble_eq_true rfl) (Nat.le_of_ble_eq_true rfl) (Nat.zero_le _) (Nat.zero_le _) (fun _ hr => ct_X11_refuse (N := N) h0 hr) (fun v_1 I_2 => ?_)
  exact fi_ireturnS dX11_reaches_39 rfl
def X11_reaches (N : Nat) (K : am_K) (F : am_F) (a0 : Nat) (I : am_I) (x1 : Int) (x2 : Int) : Option (Int × am_I) :=
  if (K (F a0 6)).1 = 9 then am_cq (X9_whyNotSolved N K F I (F a0 6) x1) (fun v_2 => if v_2 = 0 then (if 0 ≤ x2 then (if (K (F a0 0)).1 = 1 then if (I (F a0 0) 2) ≤ x2 then (X11_reaches_b34 N K F a0 I) else (if (K (F (F a0 6) 0)).1 = 0 then am_cq (X0_edgeFrom N K F I (F (F a0 6) 0) x1 x2) (fun v_5 => if v_5 < 0 then (am_cl (X11_refuse N K F a0 I 5) (fun v_9 I_10 => some (v_9, I_10))) else (am_cq (X9_reachOf N K F I (F a0 6) v_5) (fun v_6 => am_cl (X11_accept N K F a0 I v_6) (fun v_7 I_8 => some (v_7, I_8))))) else none) else none) else (X11_reaches_b34 N K F a0 I)) else (am_cl (X11_refuse N K F a0 I v_2) (fun v_11 I_12 => some (v_11, I_12)))) else none
theorem w_X11_reaches {η : am_E} {l : Launch} {N : Nat} {n : Nat} {K : am_K} {I : am_I} {F : am_F} {a0 : Nat} {r0 : Int × am_I} {x1 : Int} {x2 : Int} (h0 : (K a0).1 = 11) : X11_reaches N K F a0 I x1 x2 = some r0 → Ok η l M_X11_reaches (am_qm η (am_pS 1 r0 n K F) 0 0) 0 [(0, qr a0), (1, qi x1), (2, qi x2)] [] n K I F 0 0 := by
  unfold X11_reaches
  refine ok_aload_n (q := 1) 0 dX11_reaches_0 rfl rfl rfl ?_
  refine ok_getR (q := 4) (ci := 11) (k := 6) (x := F a0 6) dX11_reaches_1 rfl fo_X11_65 h0 rfl ?_
  refine ok_iload_n (q := 5) 1 dX11_reaches_4 rfl rfl rfl ?_
  refine fi_chk (fun h_1 => ?_)
  refine fi_callV1P (q := 8) (as := [qi x1]) (st := []) dX11_reaches_5 rfl mo_X11_257 h_1 rfl (Nat.le_of_ble_eq_true rfl) rfl rfl (Nat.le_of_ble_eq_true rfl) (Nat.le_of_ble_eq_true rfl) (Nat.le_of_ble_eq_true rfl) (Nat.zero_le _) (Nat.zero_le _) (fun _ hr => ct_X9_whyNotSolved (N := N) h_1 hr) (fun v_2 => ?_)
  refine ok_istore_n (q := 9) (ls' := [(3, qi v_2), (0, qr a0), (1, qi x1), (2, qi x2)]) dX11_reaches_8 rfl rfl (Nat.le_of_ble_eq_true rfl) rfl ?_
  refine ok_iload_n (q := 10) 0 dX11_reaches_9 rfl rfl rfl ?_
  refine ok_if_eq (q := 19) (q2 := 13) dX11_reaches_10 rfl rfl ?_ ?_
  · skip
    refine ok_iload_n (q := 20) 3 dX11_reaches_19 rfl rfl rfl ?_
    refine ok_if_lt (q := 34) (q2 := 23) dX11_reaches_20 rfl rfl ?_ ?_
    · skip
      exact fun g => ok_pick [1] rfl (w_X11_reaches_b34 (N := N) h0 g)
    · skip
      refine ok_iload_n (q := 24) 3 dX11_reaches_23 rfl rfl rfl ?_
      refine ok_aload_n (q := 25) 1 dX11_reaches_24 rfl rfl rfl ?_
      refine ok_getR (q := 28) (ci := 11) (k := 0) (x := F a0 0) dX11_reaches_25 rfl fo_X11_12 h0 rfl ?_
      refine fi_chk (fun h_3 => ?_)
      refine ok_getI (q := 31) (ci := 1) (k := 2) (x := I (F a0 0) 2) dX11_reaches_28 rfl fo_X11_95 h_3 rfl ?_
      refine ok_icmp_lt (q := 40) (q2 := 34) dX11_reaches_31 rfl rfl ?_ ?_
      · skip
        refine ok_aload_n (q := 41) 1 dX11_reaches_40 rfl rfl rfl ?_
        refine ok_getR (q := 44) (ci := 11) (k := 6) (x := F a0 6) dX11_reaches_41 rfl fo_X11_65 h0 rfl ?_
        refine ok_getR (q := 47) (ci := 9) (k := 0) (x := F (F a0 6) 0) dX11_reaches_44 rfl fo_X11_272 h_1 rfl ?_
        refine ok_iload_n (q := 48) 2 dX11_reaches_47 rfl rfl rfl ?_
        refine ok_iload_n (q := 49) 3 dX11_reaches_48 rfl rfl rfl ?_
        refine fi_chk (fun h_4 => ?_)
        refine fi_callV1P (q := 52) (as := [qi x1, qi x2]) (st := []) dX11_reaches_49 rfl mo_X11_276 h_4 rfl (Nat.le_of_ble_eq_true rfl) rfl rfl (Nat.le_of_ble_eq_true rfl) (Nat.le_of_ble_eq_true rfl) (Nat.le_of_ble_eq_true rfl) (Nat.zero_le _) (Nat.zero_le _) (fun _ hr => ct_X0_edgeFrom (N := N) h_4 hr) (fun v_5 => ?_)
        refine ok_istore (q := 54) (ls' := [(4, qi v_5), (3, qi v_2), (0, qr a0), (1, qi x1), (2, qi x2)]) dX11_reaches_52 rfl (Nat.le_of_ble_eq_true rfl) rfl ?_
        refine ok_iload (q := 56) 0 dX11_reaches_54 rfl rfl ?_
        refine ok_if_ge (q := 65) (q2 := 59) dX11_reaches_56 rfl rfl ?_ ?_
        · skip
          refine ok_aload_n (q := 66) 2 dX11_reaches_65 rfl rfl rfl ?_
          refine ok_aload_n (q := 67) 2 dX11_reaches_66 rfl rfl rfl ?_
          refine ok_getR (q := 70) (ci := 11) (k := 6) (x := F a0 6) dX11_reaches_67 rfl fo_X11_65 h0 rfl ?_
          refine ok_iload (q := 72) 0 dX11_reaches_70 rfl rfl ?_
          refine fi_callV1P (q := 75) (as := [qi v_5]) (st := [qr a0]) dX11_reaches_72 rfl mo_X11_279 h_1 rfl (Nat.le_of_ble_eq_true rfl) rfl rfl (Nat.le_of_ble_eq_true rfl) (Nat.le_of_ble_eq_true rfl) (Nat.le_of_ble_eq_true rfl) (Nat.zero_le _) (Nat.zero_le _) (fun _ hr => ct_X9_reachOf (N := N) h_1 hr) (fun v_6 => ?_)
          refine fi_callV1S (q := 78) (as := [qi v_6]) (st := []) dX11_reaches_75 rfl mo_X11_98 h0 rfl (Nat.le_of_ble_eq_true rfl) rfl rfl (Nat.le_of_ble_eq_true rfl) (Nat.le_of_ble_eq_true rfl) (Nat.le_of_ble_eq_true rfl) (Nat.zero_le _) (Nat.zero_le _) (fun _ hr => ct_X11_accept (N := N) h0 hr) (fun v_7 I_8 => ?_)
          exact fi_ireturnS dX11_reaches_78 rfl
        · skip
          refine ok_aload_n (q := 60) 2 dX11_reaches_59 rfl rfl rfl ?_
          refine ok_iconst (q := 61) (x := 5) dX11_reaches_60 rfl rfl (by decide) ?_
          refine fi_callV1S (q := 64) (as := [qi 5]) (st := []) dX11_reaches_61 rfl mo_X11_91 h0 rfl (Nat.le_of_ble_eq_true rfl) rfl rfl (Nat.le_of_ble_eq_true rfl) (Nat.le_of_ble_eq_true rfl) (Nat.le_of_ble_eq_true rfl) (Nat.zero_le _) (Nat.zero_le _) (fun _ hr => ct_X11_refuse (N := N) h0 hr) (fun v_9 I_10 => ?_)
          exact fi_ireturnS dX11_reaches_64 rfl
      · skip
        exact fun g => ok_pick [1] rfl (w_X11_reaches_b34 (N := N) h0 g)
  · skip
    refine ok_aload_n (q := 14) 1 dX11_reaches_13 rfl rfl rfl ?_
    refine ok_iload_n (q := 15) 0 dX11_reaches_14 rfl rfl rfl ?_
    refine fi_callV1S (q := 18) (as := [qi v_2]) (st := []) dX11_reaches_15 rfl mo_X11_91 h0 rfl (Nat.le_of_ble_eq_true rfl) rfl rfl (Nat.le_of_ble_eq_true rfl) (Nat.le_of_ble_eq_true rfl) (Nat.le_of_ble_eq_true rfl) (Nat.zero_le _) (Nat.zero_le _) (fun _ hr => ct_X11_refuse (N := N) h0 hr) (fun v_11 I_12 => ?_)
    exact fi_ireturnS dX11_reaches_18 rfl
theorem ct_X11_reaches {η : am_E} {l : Launch} {N : Nat} {n : Nat} {K : am_K} {I : am_I} {F : am_F} {a0 : Nat} {r0 : Int × am_I} {x1 : Int} {x2 : Int} (h0 : (K a0).1 = 11) : X11_reaches N K F a0 I x1 x2 = some r0 → am_Ct η l yX11_reaches cX11_reaches 5 (some .int) 2 43 0 0 [qr a0, qi x1, qi x2] n K I F (am_pS 1 r0 n K F) := fun g => am_Ct.of false (by decide) (by decide) (Nat.le_of_ble_eq_true rfl) (fun _ => w_X11_reaches (N := N) h0 g)
def M_X11_count : am_M := (yX11_count.cls, cX11_count, 2, (some .int), am_room 1 23 0 0, false)
def X11_count (N : Nat) (K : am_K) (F : am_F) (a0 : Nat) (I : am_I) (x1 : Int) : Option (Int × am_I) :=
  if (K (F a0 6)).1 = 9 then if (I (F a0 6) 1) = 0 then (am_cl (X11_refuse N K F a0 I 9) (fun v_5 I_6 => some (v_5, I_6))) else (am_cq (X9_countOf N K F I (F a0 6) x1) (fun v_2 => am_cl (X11_accept N K F a0 I v_2) (fun v_3 I_4 => some (v_3, I_4)))) else none
theorem w_X11_count {η : am_E} {l : Launch} {N : Nat} {n : Nat} {K : am_K} {I : am_I} {F : am_F} {a0 : Nat} {r0 : Int × am_I} {x1 : Int} (h0 : (K a0).1 = 11) : X11_count N K F a0 I x1 = some r0 → Ok η l M_X11_count (am_qm η (am_pS 1 r0 n K F) 0 0) 0 [(0, qr a0), (1, qi x1)] [] n K I F 0 0 := by
  unfold X11_count
  refine ok_aload_n (q := 1) 0 dX11_count_0 rfl rfl rfl ?_
  refine ok_getR (q := 4) (ci := 11) (k := 6) (x := F a0 6) dX11_count_1 rfl fo_X11_65 h0 rfl ?_
  refine fi_chk (fun h_1 => ?_)
  refine ok_getI (q := 7) (ci := 9) (k := 1) (x := I (F a0 6) 1) dX11_count_4 rfl fo_X11_248 h_1 rfl ?_
  refine ok_if_ne (q := 17) (q2 := 10) dX11_count_7 rfl rfl ?_ ?_
  · skip
    refine ok_aload_n (q := 18) 0 dX11_count_17 rfl rfl rfl ?_
    refine ok_aload_n (q := 19) 0 dX11_count_18 rfl rfl rfl ?_
    refine ok_getR (q := 22) (ci := 11) (k := 6) (x := F a0 6) dX11_count_19 rfl fo_X11_65 h0 rfl ?_
    refine ok_iload_n (q := 23) 1 dX11_count_22 rfl rfl rfl ?_
    refine fi_callV1P (q := 26) (as := [qi x1]) (st := [qr a0]) dX11_count_23 rfl mo_X11_282 h_1 rfl (Nat.le_of_ble_eq_true rfl) rfl rfl (Nat.le_of_ble_eq_true rfl) (Nat.le_of_ble_eq_true rfl) (Nat.le_of_ble_eq_true rfl) (Nat.zero_le _) (Nat.zero_le _) (fun _ hr => ct_X9_countOf (N := N) h_1 hr) (fun v_2 => ?_)
    refine fi_callV1S (q := 29) (as := [qi v_2]) (st := []) dX11_count_26 rfl mo_X11_98 h0 rfl (Nat.le_of_ble_eq_true rfl) rfl rfl (Nat.le_of_ble_eq_true rfl) (Nat.le_of_ble_eq_true rfl) (Nat.le_of_ble_eq_true rfl) (Nat.zero_le _) (Nat.zero_le _) (fun _ hr => ct_X11_accept (N := N) h0 hr) (fun v_3 I_4 => ?_)
    exact fi_ireturnS dX11_count_29 rfl
  · skip
    refine ok_aload_n (q := 11) 0 dX11_count_10 rfl rfl rfl ?_
    refine ok_bipush (q := 13) (x := 9) dX11_count_11 rfl rfl (by decide) ?_
    refine fi_callV1S (q := 16) (as := [qi 9]) (st := []) dX11_count_13 rfl mo_X11_91 h0 rfl (Nat.le_of_ble_eq_true rfl) rfl rfl (Nat.le_of_ble_eq_true rfl) (Nat.le_of_ble_eq_true rfl) (Nat.le_of_ble_eq_true rfl) (Nat.zero_le _) (Nat.zero_le _) (fun _ hr => ct_X11_refuse (N := N) h0 hr) (fun v_5 I_6 => ?_)
    exact fi_ireturnS dX11_count_16 rfl
theorem ct_X11_count {η : am_E} {l : Launch} {N : Nat} {n : Nat} {K : am_K} {I : am_I} {F : am_F} {a0 : Nat} {r0 : Int × am_I} {x1 : Int} (h0 : (K a0).1 = 11) : X11_count N K F a0 I x1 = some r0 → am_Ct η l yX11_count cX11_count 2 (some .int) 1 23 0 0 [qr a0, qi x1] n K I F (am_pS 1 r0 n K F) := fun g => am_Ct.of false (by decide) (by decide) (Nat.le_of_ble_eq_true rfl) (fun _ => w_X11_count (N := N) h0 g)
def M_X11_find : am_M := (yX11_find.cls, cX11_find, 4, (some .int), am_room 1 23 0 0, false)
def X11_find_b34 (N : Nat) (K : am_K) (F : am_F) (a0 : Nat) (I : am_I) (s0 : Int) : Option (Int × am_I) :=
  if s0 < 0 then (am_cl (X11_refuse N K F a0 I 3) (fun v_3 I_4 => some (v_3, I_4))) else (am_cl (X11_accept N K F a0 I s0) (fun v_1 I_2 => some (v_1, I_2)))
theorem w_X11_find_b34 {η : am_E} {l : Launch} {N : Nat} {n : Nat} {K : am_K} {I : am_I} {F : am_F} {a0 : Nat} {r0 : Int × am_I} {s0 : Int} (h0 : (K a0).1 = 11) : X11_find_b34 N K F a0 I s0 = some r0 → Ok η l M_X11_find (am_qm η (am_pS 1 r0 n K F) 0 0) 34 [(0, qr a0)] [qi s0] n K I F 0 0 := by
  unfold X11_find_b34
  refine ok_istore_n (q := 35) (ls' := [(3, qi s0), (0, qr a0)]) dX11_find_34 rfl rfl (Nat.le_of_ble_eq_true rfl) rfl ?_
  refine ok_iload_n (q := 36) 0 dX11_find_35 rfl rfl rfl ?_
  refine ok_if_ge (q := 45) (q2 := 39) dX11_find_36 rfl rfl ?_ ?_
  · skip
    refine ok_aload_n (q := 46) 1 dX11_find_45 rfl rfl rfl ?_
    refine ok_iload_n (q := 47) 0 dX11_find_46 rfl rfl rfl ?_
    refine fi_callV1S (q := 50) (as := [qi s0]) (st := []) dX11_find_47 rfl mo_X11_98 h0 rfl (Nat.le_of_ble_eq_true rfl) rfl rfl (Nat.le_of_ble_eq_true rfl) (Nat.le_of_ble_eq_true rfl) (Nat.le_of_ble_eq_true rfl) (Nat.zero_le _) (Nat.zero_le _) (fun _ hr => ct_X11_accept (N := N) h0 hr) (fun v_1 I_2 => ?_)
    exact fi_ireturnS dX11_find_50 rfl
  · skip
    refine ok_aload_n (q := 40) 1 dX11_find_39 rfl rfl rfl ?_
    refine ok_iconst (q := 41) (x := 3) dX11_find_40 rfl rfl (by decide) ?_
    refine fi_callV1S (q := 44) (as := [qi 3]) (st := []) dX11_find_41 rfl mo_X11_91 h0 rfl (Nat.le_of_ble_eq_true rfl) rfl rfl (Nat.le_of_ble_eq_true rfl) (Nat.le_of_ble_eq_true rfl) (Nat.le_of_ble_eq_true rfl) (Nat.zero_le _) (Nat.zero_le _) (fun _ hr => ct_X11_refuse (N := N) h0 hr) (fun v_3 I_4 => ?_)
    exact fi_ireturnS dX11_find_44 rfl
def X11_find (N : Nat) (K : am_K) (F : am_F) (a0 : Nat) (I : am_I) (x1 : Int) (x2 : Int) : Option (Int × am_I) :=
  if (K (F a0 6)).1 = 9 then if (I (F a0 6) 1) = 0 then (am_cl (X11_refuse N K F a0 I 9) (fun v_3 I_4 => some (v_3, I_4))) else (if x1 < 0 then (X11_find_b34 N K F a0 I (-1)) else (am_cq (X9_firstFrom N K F I (F a0 6) x1 x2) (fun v_2 => X11_find_b34 N K F a0 I v_2))) else none
theorem w_X11_find {η : am_E} {l : Launch} {N : Nat} {n : Nat} {K : am_K} {I : am_I} {F : am_F} {a0 : Nat} {r0 : Int × am_I} {x1 : Int} {x2 : Int} (h0 : (K a0).1 = 11) : X11_find N K F a0 I x1 x2 = some r0 → Ok η l M_X11_find (am_qm η (am_pS 1 r0 n K F) 0 0) 0 [(0, qr a0), (1, qi x1), (2, qi x2)] [] n K I F 0 0 := by
  unfold X11_find
  refine ok_aload_n (q := 1) 0 dX11_find_0 rfl rfl rfl ?_
  refine ok_getR (q := 4) (ci := 11) (k := 6) (x := F a0 6) dX11_find_1 rfl fo_X11_65 h0 rfl ?_
  refine fi_chk (fun h_1 => ?_)
  refine ok_getI (q := 7) (ci := 9) (k := 1) (x := I (F a0 6) 1) dX11_find_4 rfl fo_X11_248 h_1 rfl ?_
  refine ok_if_ne (q := 17) (q2 := 10) dX11_find_7 rfl rfl ?_ ?_
  · skip
    refine ok_iload_n (q := 18) 1 dX11_find_17 rfl rfl rfl ?_
    refine ok_if_ge (q := 25) (q2 := 21) dX11_find_18 rfl rfl ?_ ?_
    · skip
      refine ok_aload_n (q := 26) 0 dX11_find_25 rfl rfl rfl ?_
      refine ok_getR (q := 29) (ci := 11) (k := 6) (x := F a0 6) dX11_find_26 rfl fo_X11_65 h0 rfl ?_
      refine ok_iload_n (q := 30) 1 dX11_find_29 rfl rfl rfl ?_
      refine ok_iload_n (q := 31) 2 dX11_find_30 rfl rfl rfl ?_
      refine fi_callV1P (q := 34) (as := [qi x1, qi x2]) (st := []) dX11_find_31 rfl mo_X11_285 h_1 rfl (Nat.le_of_ble_eq_true rfl) rfl rfl (Nat.le_of_ble_eq_true rfl) (Nat.le_of_ble_eq_true rfl) (Nat.le_of_ble_eq_true rfl) (Nat.zero_le _) (Nat.zero_le _) (fun _ hr => ct_X9_firstFrom (N := N) h_1 hr) (fun v_2 => ?_)
      exact fun g => ok_pick [0] rfl (w_X11_find_b34 (N := N) h0 g)
    · skip
      refine ok_iconst (q := 22) (x := -1) dX11_find_21 rfl rfl (by decide) ?_
      refine ok_goto (q := 34) dX11_find_22 rfl ?_
      exact fun g => ok_pick [0] rfl (w_X11_find_b34 (N := N) h0 g)
  · skip
    refine ok_aload_n (q := 11) 0 dX11_find_10 rfl rfl rfl ?_
    refine ok_bipush (q := 13) (x := 9) dX11_find_11 rfl rfl (by decide) ?_
    refine fi_callV1S (q := 16) (as := [qi 9]) (st := []) dX11_find_13 rfl mo_X11_91 h0 rfl (Nat.le_of_ble_eq_true rfl) rfl rfl (Nat.le_of_ble_eq_true rfl) (Nat.le_of_ble_eq_true rfl) (Nat.le_of_ble_eq_true rfl) (Nat.zero_le _) (Nat.zero_le _) (fun _ hr => ct_X11_refuse (N := N) h0 hr) (fun v_3 I_4 => ?_)
    exact fi_ireturnS dX11_find_16 rfl
theorem ct_X11_find {η : am_E} {l : Launch} {N : Nat} {n : Nat} {K : am_K} {I : am_I} {F : am_F} {a0 : Nat} {r0 : Int × am_I} {x1 : Int} {x2 : Int} (h0 : (K a0).1 = 11) : X11_find N K F a0 I x1 x2 = some r0 → am_Ct η l yX11_find cX11_find 4 (some .int) 1 23 0 0 [qr a0, qi x1, qi x2] n K I F (am_pS 1 r0 n K F) := fun g => am_Ct.of false (by decide) (by decide) (Nat.le_of_ble_eq_true rfl) (fun _ => w_X11_find (N := N) h0 g)
def M_X11_claim : am_M := (yX11_claim.cls, cX11_claim, 4, (some .int), am_room 1 21 0 0, false)
def X11_claim_b57 (N : Nat) (K : am_K) (F : am_F) (a0 : Nat) (I : am_I) : Option (Int × am_I) :=
  am_cl (X11_refuse N K F a0 I 7) (fun v_1 I_2 => some (v_1, I_2))
theorem w_X11_claim_b57 {η : am_E} {l : Launch} {N : Nat} {n : Nat} {K : am_K} {I : am_I} {F : am_F} {a0 : Nat} {r0 : Int × am_I} (h0 : (K a0).1 = 11) : X11_claim_b57 N K F a0 I = some r0 → Ok η l M_X11_claim (am_qm η (am_pS 1 r0 n K F) 0 0) 57 [(0, qr a0)] [] n K I F 0 0 := by
  unfold X11_claim_b57
  refine ok_aload_n (q := 58) 0 dX11_claim_57 rfl rfl rfl ?_
  refine ok_bipush (q := 60) (x := 7) dX11_claim_58 rfl rfl (by decide) ?_
  refine fi_callV1S (q := 63) (as := [qi 7]) (st := []) dX11_claim_60 rfl mo_X11_91 h0 rfl (Nat.le_of_ble_eq_true rfl) rfl rfl (Nat.le_of_ble_eq_true rfl) (Nat.le_of_ble_eq_true rfl) (Nat.le_of_ble_eq_true rfl) (Nat.zero_le _) (Nat.zero_le _) (fun _ hr => ct_X11_refuse (N := N) h0 hr) (fun v_1 I_2 => ?_)
  exact fi_ireturnS dX11_claim_63 rfl
def X11_claim (N : Nat) (K : am_K) (F : am_F) (a0 : Nat) (I : am_I) (x1 : Int) (x2 : Int) (x3 : Int) : Option (Int × am_I) :=
  if (K (F a0 6)).1 = 9 then if (I (F a0 6) 1) = 0 then (am_cl (X11_refuse N K F a0 I 9) (fun v_15 I_16 => some (v_15, I_16))) else (am_cq (X9_has N K F I (F a0 6) x1) (fun v_2 => if v_2 = 0 then (am_cl (X11_refuse N K F a0 I 3) (fun v_13 I_14 => some (v_13, I_14))) else (if (-60) ≤ x2 then (if x2 ≤ 60 then (if 0 ≤ x3 then (if 100000 < x3 then (X11_claim_b57 N K F a0 I) else (if (K (F (F a0 6) 6)).1 = 100 then if F (F a0 6) 6 ≠ 1 then if (0 : Int) ≤ x1 ∧ x1 < (K (F (F a0 6) 6)).2 then am_lt (am_u2 I (F (F a0 6) 6) x1 x2) (fun I_6 => if (K (F (F a0 6) 7)).1 = 100 then if F (F a0 6) 7 ≠ 1 then if (0 : Int) ≤ x1 ∧ x1 < (K (F (F a0 6) 7)).2 then am_lt (am_u2 I_6 (F (F a0 6) 7) x1 x3) (fun I_10 => am_cl (X11_accept N K F a0 I_10 x1) (fun v_11 I_12 => some (v_11, I_12))) else none else none else none) else none else none else none)) else (X11_claim_b57 N K F a0 I)) else (X11_claim_b57 N K F a0 I)) else (X11_claim_b57 N K F a0 I)))) else none
theorem w_X11_claim {η : am_E} {l : Launch} {N : Nat} {n : Nat} {K : am_K} {I : am_I} {F : am_F} {a0 : Nat} {r0 : Int × am_I} {x1 : Int} {x2 : Int} {x3 : Int} (h0 : (K a0).1 = 11) : X11_claim N K F a0 I x1 x2 x3 = some r0 → Ok η l M_X11_claim (am_qm η (am_pS 1 r0 n K F) 0 0) 0 [(0, qr a0), (1, qi x1), (2, qi x2), (3, qi x3)] [] n K I F 0 0 := by
  unfold X11_claim
  refine ok_aload_n (q := 1) 0 dX11_claim_0 rfl rfl rfl ?_
  refine ok_getR (q := 4) (ci := 11) (k := 6) (x := F a0 6) dX11_claim_1 rfl fo_X11_65 h0 rfl ?_
  refine fi_chk (fun h_1 => ?_)
  refine ok_getI (q := 7) (ci := 9) (k := 1) (x := I (F a0 6) 1) dX11_claim_4 rfl fo_X11_248 h_1 rfl ?_
  refine ok_if_ne (q := 17) (q2 := 10) dX11_claim_7 rfl rfl ?_ ?_
  · skip
    refine ok_aload_n (q := 18) 0 dX11_claim_17 rfl rfl rfl ?_
    refine ok_getR (q := 21) (ci := 11) (k := 6) (x := F a0 6) dX11_claim_18 rfl fo_X11_65 h0 rfl ?_
    refine ok_iload_n (q := 22) 1 dX11_claim_21 rfl rfl rfl ?_
    refine fi_callV1P (q := 25) (as := [qi x1]) (st := []) dX11_claim_22 rfl mo_X11_288 h_1 rfl (Nat.le_of_ble_eq_true rfl) rfl rfl (Nat.le_of_ble_eq_true rfl) (Nat.le_of_ble_eq_true rfl) (Nat.le_of_ble_eq_true rfl) (Nat.zero_le _) (Nat.zero_le _) (fun _ hr => ct_X9_has (N := N) h_1 hr) (fun v_2 => ?_)
    refine ok_if_ne (q := 34) (q2 := 28) dX11_claim_25 rfl rfl ?_ ?_
    · skip
      refine ok_iload_n (q := 35) 2 dX11_claim_34 rfl rfl rfl ?_
      refine ok_bipush (q := 37) (x := -60) dX11_claim_35 rfl rfl (by decide) ?_
      refine ok_icmp_lt (q := 57) (q2 := 40) dX11_claim_37 rfl rfl ?_ ?_
      · skip
        exact fun g => ok_pick [0] rfl (w_X11_claim_b57 (N := N) h0 g)
      · skip
        refine ok_iload_n (q := 41) 2 dX11_claim_40 rfl rfl rfl ?_
        refine ok_bipush (q := 43) (x := 60) dX11_claim_41 rfl rfl (by decide) ?_
        refine ok_icmp_gt (q := 57) (q2 := 46) dX11_claim_43 rfl rfl ?_ ?_
        · skip
          exact fun g => ok_pick [0] rfl (w_X11_claim_b57 (N := N) h0 g)
        · skip
          refine ok_iload_n (q := 47) 3 dX11_claim_46 rfl rfl rfl ?_
          refine ok_if_lt (q := 57) (q2 := 50) dX11_claim_47 rfl rfl ?_ ?_
          · skip
            exact fun g => ok_pick [0] rfl (w_X11_claim_b57 (N := N) h0 g)
          · skip
            refine ok_iload_n (q := 51) 3 dX11_claim_50 rfl rfl rfl ?_
            refine ok_ldc_w (q := 54) (x := 100000) (v := 100000) dX11_claim_51 rfl kc_X11_291 rfl (by decide) ?_
            refine ok_icmp_le (q := 64) (q2 := 57) dX11_claim_54 rfl rfl ?_ ?_
            · skip
              refine ok_aload_n (q := 65) 0 dX11_claim_64 rfl rfl rfl ?_
              refine ok_getR (q := 68) (ci := 11) (k := 6) (x := F a0 6) dX11_claim_65 rfl fo_X11_65 h0 rfl ?_
              refine ok_getR (q := 71) (ci := 9) (k := 6) (x := F (F a0 6) 6) dX11_claim_68 rfl fo_X11_292 h_1 rfl ?_
              refine ok_iload_n (q := 72) 1 dX11_claim_71 rfl rfl rfl ?_
              refine ok_iload_n (q := 73) 2 dX11_claim_72 rfl rfl rfl ?_
              refine fi_chk (fun h_3 => ?_)
              refine fi_chk (fun h_4 => ?_)
              refine fi_chk (fun h_5 => ?_)
              refine ok_iastore (q := 74) dX11_claim_73 rfl h_3 h_4 h_5.1 h_5.2 (fun I_6 => ?_)
              refine ok_aload_n (q := 75) 0 dX11_claim_74 rfl rfl rfl ?_
              refine ok_getR (q := 78) (ci := 11) (k := 6) (x := F a0 6) dX11_claim_75 rfl fo_X11_65 h0 rfl ?_
              refine ok_getR (q := 81) (ci := 9) (k := 7) (x := F (F a0 6) 7) dX11_claim_78 rfl fo_X11_295 h_1 rfl ?_
              refine ok_iload_n (q := 82) 1 dX11_claim_81 rfl rfl rfl ?_
              refine ok_iload_n (q := 83) 3 dX11_claim_82 rfl rfl rfl ?_
              refine fi_chk (fun h_7 => ?_)
              refine fi_chk (fun h_8 => ?_)
              refine fi_chk (fun h_9 => ?_)
              refine ok_iastore (q := 84) dX11_claim_83 rfl h_7 h_8 h_9.1 h_9.2 (fun I_10 => ?_)
              refine ok_aload_n (q := 85) 0 dX11_claim_84 rfl rfl rfl ?_
              refine ok_iload_n (q := 86) 1 dX11_claim_85 rfl rfl rfl ?_
              refine fi_callV1S (q := 89) (as := [qi x1]) (st := []) dX11_claim_86 rfl mo_X11_98 h0 rfl (Nat.le_of_ble_eq_true rfl) rfl rfl (Nat.le_of_ble_eq_true rfl) (Nat.le_of_ble_eq_true rfl) (Nat.le_of_ble_eq_true rfl) (Nat.zero_le _) (Nat.zero_le _) (fun _ hr => ct_X11_accept (N := N) h0 hr) (fun v_11 I_12 => ?_)
              exact fi_ireturnS dX11_claim_89 rfl
            · skip
              exact fun g => ok_pick [0] rfl (w_X11_claim_b57 (N := N) h0 g)
    · skip
      refine ok_aload_n (q := 29) 0 dX11_claim_28 rfl rfl rfl ?_
      refine ok_iconst (q := 30) (x := 3) dX11_claim_29 rfl rfl (by decide) ?_
      refine fi_callV1S (q := 33) (as := [qi 3]) (st := []) dX11_claim_30 rfl mo_X11_91 h0 rfl (Nat.le_of_ble_eq_true rfl) rfl rfl (Nat.le_of_ble_eq_true rfl) (Nat.le_of_ble_eq_true rfl) (Nat.le_of_ble_eq_true rfl) (Nat.zero_le _) (Nat.zero_le _) (fun _ hr => ct_X11_refuse (N := N) h0 hr) (fun v_13 I_14 => ?_)
      exact fi_ireturnS dX11_claim_33 rfl
  · skip
    refine ok_aload_n (q := 11) 0 dX11_claim_10 rfl rfl rfl ?_
    refine ok_bipush (q := 13) (x := 9) dX11_claim_11 rfl rfl (by decide) ?_
    refine fi_callV1S (q := 16) (as := [qi 9]) (st := []) dX11_claim_13 rfl mo_X11_91 h0 rfl (Nat.le_of_ble_eq_true rfl) rfl rfl (Nat.le_of_ble_eq_true rfl) (Nat.le_of_ble_eq_true rfl) (Nat.le_of_ble_eq_true rfl) (Nat.zero_le _) (Nat.zero_le _) (fun _ hr => ct_X11_refuse (N := N) h0 hr) (fun v_15 I_16 => ?_)
    exact fi_ireturnS dX11_claim_16 rfl
theorem ct_X11_claim {η : am_E} {l : Launch} {N : Nat} {n : Nat} {K : am_K} {I : am_I} {F : am_F} {a0 : Nat} {r0 : Int × am_I} {x1 : Int} {x2 : Int} {x3 : Int} (h0 : (K a0).1 = 11) : X11_claim N K F a0 I x1 x2 x3 = some r0 → am_Ct η l yX11_claim cX11_claim 4 (some .int) 1 21 0 0 [qr a0, qi x1, qi x2, qi x3] n K I F (am_pS 1 r0 n K F) := fun g => am_Ct.of false (by decide) (by decide) (Nat.le_of_ble_eq_true rfl) (fun _ => w_X11_claim (N := N) h0 g)
def M_X11_copy : am_M := (yX11_copy.cls, cX11_copy, 1, (some .int), am_room 2 46 0 0, false)
def X11_copy (N : Nat) (K : am_K) (F : am_F) (a0 : Nat) (I : am_I) : Option (Int × am_I) :=
  if (K (F a0 6)).1 = 9 then if (I (F a0 6) 1) = 0 then (am_cl (X11_refuse N K F a0 I 9) (fun v_5 I_6 => some (v_5, I_6))) else (am_cl (X9_claimWhatIsSolved N K F (F a0 6) I) (fun _ I_2 => am_cl (X11_accept N K F a0 I_2 (I_2 (F a0 6) 3)) (fun v_3 I_4 => some (v_3, I_4)))) else none
theorem w_X11_copy {η : am_E} {l : Launch} {N : Nat} {n : Nat} {K : am_K} {I : am_I} {F : am_F} {a0 : Nat} {r0 : Int × am_I} (h0 : (K a0).1 = 11) : X11_copy N K F a0 I = some r0 → Ok η l M_X11_copy (am_qm η (am_pS 1 r0 n K F) 0 0) 0 [(0, qr a0)] [] n K I F 0 0 := by
  unfold X11_copy
  refine ok_aload_n (q := 1) 0 dX11_copy_0 rfl rfl rfl ?_
  refine ok_getR (q := 4) (ci := 11) (k := 6) (x := F a0 6) dX11_copy_1 rfl fo_X11_65 h0 rfl ?_
  refine fi_chk (fun h_1 => ?_)
  refine ok_getI (q := 7) (ci := 9) (k := 1) (x := I (F a0 6) 1) dX11_copy_4 rfl fo_X11_248 h_1 rfl ?_
  refine ok_if_ne (q := 17) (q2 := 10) dX11_copy_7 rfl rfl ?_ ?_
  · skip
    refine ok_aload_n (q := 18) 0 dX11_copy_17 rfl rfl rfl ?_
    refine ok_getR (q := 21) (ci := 11) (k := 6) (x := F a0 6) dX11_copy_18 rfl fo_X11_65 h0 rfl ?_
    refine fi_callV0S (q := 24) (as := []) (st := []) dX11_copy_21 rfl mo_X11_298 h_1 rfl (Nat.le_of_ble_eq_true rfl) rfl rfl (Nat.le_of_ble_eq_true rfl) (Nat.le_of_ble_eq_true rfl) (Nat.le_of_ble_eq_true rfl) (Nat.zero_le _) (Nat.zero_le _) (fun _ hr => ct_X9_claimWhatIsSolved (N := N) h_1 hr) (fun _ I_2 => ?_)
    refine ok_aload_n (q := 25) 0 dX11_copy_24 rfl rfl rfl ?_
    refine ok_aload_n (q := 26) 0 dX11_copy_25 rfl rfl rfl ?_
    refine ok_getR (q := 29) (ci := 11) (k := 6) (x := F a0 6) dX11_copy_26 rfl fo_X11_65 h0 rfl ?_
    refine ok_getI (q := 32) (ci := 9) (k := 3) (x := I_2 (F a0 6) 3) dX11_copy_29 rfl fo_X11_301 h_1 rfl ?_
    refine fi_callV1S (q := 35) (as := [qi (I_2 (F a0 6) 3)]) (st := []) dX11_copy_32 rfl mo_X11_98 h0 rfl (Nat.le_of_ble_eq_true rfl) rfl rfl (Nat.le_of_ble_eq_true rfl) (Nat.le_of_ble_eq_true rfl) (Nat.le_of_ble_eq_true rfl) (Nat.zero_le _) (Nat.zero_le _) (fun _ hr => ct_X11_accept (N := N) h0 hr) (fun v_3 I_4 => ?_)
    exact fi_ireturnS dX11_copy_35 rfl
  · skip
    refine ok_aload_n (q := 11) 0 dX11_copy_10 rfl rfl rfl ?_
    refine ok_bipush (q := 13) (x := 9) dX11_copy_11 rfl rfl (by decide) ?_
    refine fi_callV1S (q := 16) (as := [qi 9]) (st := []) dX11_copy_13 rfl mo_X11_91 h0 rfl (Nat.le_of_ble_eq_true rfl) rfl rfl (Nat.le_of_ble_eq_true rfl) (Nat.le_of_ble_eq_true rfl) (Nat.le_of_ble_eq_true rfl) (Nat.zero_le _) (Nat.zero_le _) (fun _ hr => ct_X11_refuse (N := N) h0 hr) (fun v_5 I_6 => ?_)
    exact fi_ireturnS dX11_copy_16 rfl
theorem ct_X11_copy {η : am_E} {l : Launch} {N : Nat} {n : Nat} {K : am_K} {I : am_I} {F : am_F} {a0 : Nat} {r0 : Int × am_I} (h0 : (K a0).1 = 11) : X11_copy N K F a0 I = some r0 → am_Ct η l yX11_copy cX11_copy 1 (some .int) 2 46 0 0 [qr a0] n K I F (am_pS 1 r0 n K F) := fun g => am_Ct.of false (by decide) (by decide) (Nat.le_of_ble_eq_true rfl) (fun _ => w_X11_copy (N := N) h0 g)
def M_X11_check : am_M := (yX11_check.cls, cX11_check, 1, (some .int), am_room 7 172 0 0, false)
def X11_check (N : Nat) (K : am_K) (F : am_F) (a0 : Nat) (I : am_I) : Option (Int × am_I) :=
  if (K (F a0 6)).1 = 9 then if (I (F a0 6) 1) = 0 then (am_cl (X11_refuse N K F a0 I 9) (fun v_6 I_7 => some (v_6, I_7))) else (am_cl (X9_firstWrongClaim N K F (F a0 6) I) (fun v_2 I_3 => am_cl (X11_accept N K F a0 I_3 v_2) (fun v_4 I_5 => some (v_4, I_5)))) else none
theorem w_X11_check {η : am_E} {l : Launch} {N : Nat} {n : Nat} {K : am_K} {I : am_I} {F : am_F} {a0 : Nat} {r0 : Int × am_I} (h0 : (K a0).1 = 11) : X11_check N K F a0 I = some r0 → Ok η l M_X11_check (am_qm η (am_pS 1 r0 n K F) 0 0) 0 [(0, qr a0)] [] n K I F 0 0 := by
  unfold X11_check
  refine ok_aload_n (q := 1) 0 dX11_check_0 rfl rfl rfl ?_
  refine ok_getR (q := 4) (ci := 11) (k := 6) (x := F a0 6) dX11_check_1 rfl fo_X11_65 h0 rfl ?_
  refine fi_chk (fun h_1 => ?_)
  refine ok_getI (q := 7) (ci := 9) (k := 1) (x := I (F a0 6) 1) dX11_check_4 rfl fo_X11_248 h_1 rfl ?_
  refine ok_if_ne (q := 17) (q2 := 10) dX11_check_7 rfl rfl ?_ ?_
  · skip
    refine ok_aload_n (q := 18) 0 dX11_check_17 rfl rfl rfl ?_
    refine ok_aload_n (q := 19) 0 dX11_check_18 rfl rfl rfl ?_
    refine ok_getR (q := 22) (ci := 11) (k := 6) (x := F a0 6) dX11_check_19 rfl fo_X11_65 h0 rfl ?_
    refine fi_callV1S (q := 25) (as := []) (st := [qr a0]) dX11_check_22 rfl mo_X11_304 h_1 rfl (Nat.le_of_ble_eq_true rfl) rfl rfl (Nat.le_of_ble_eq_true rfl) (Nat.le_of_ble_eq_true rfl) (Nat.le_of_ble_eq_true rfl) (Nat.zero_le _) (Nat.zero_le _) (fun _ hr => ct_X9_firstWrongClaim (N := N) h_1 hr) (fun v_2 I_3 => ?_)
    refine fi_callV1S (q := 28) (as := [qi v_2]) (st := []) dX11_check_25 rfl mo_X11_98 h0 rfl (Nat.le_of_ble_eq_true rfl) rfl rfl (Nat.le_of_ble_eq_true rfl) (Nat.le_of_ble_eq_true rfl) (Nat.le_of_ble_eq_true rfl) (Nat.zero_le _) (Nat.zero_le _) (fun _ hr => ct_X11_accept (N := N) h0 hr) (fun v_4 I_5 => ?_)
    exact fi_ireturnS dX11_check_28 rfl
  · skip
    refine ok_aload_n (q := 11) 0 dX11_check_10 rfl rfl rfl ?_
    refine ok_bipush (q := 13) (x := 9) dX11_check_11 rfl rfl (by decide) ?_
    refine fi_callV1S (q := 16) (as := [qi 9]) (st := []) dX11_check_13 rfl mo_X11_91 h0 rfl (Nat.le_of_ble_eq_true rfl) rfl rfl (Nat.le_of_ble_eq_true rfl) (Nat.le_of_ble_eq_true rfl) (Nat.le_of_ble_eq_true rfl) (Nat.zero_le _) (Nat.zero_le _) (fun _ hr => ct_X11_refuse (N := N) h0 hr) (fun v_6 I_7 => ?_)
    exact fi_ireturnS dX11_check_16 rfl
theorem ct_X11_check {η : am_E} {l : Launch} {N : Nat} {n : Nat} {K : am_K} {I : am_I} {F : am_F} {a0 : Nat} {r0 : Int × am_I} (h0 : (K a0).1 = 11) : X11_check N K F a0 I = some r0 → am_Ct η l yX11_check cX11_check 1 (some .int) 7 172 0 0 [qr a0] n K I F (am_pS 1 r0 n K F) := fun g => am_Ct.of false (by decide) (by decide) (Nat.le_of_ble_eq_true rfl) (fun _ => w_X11_check (N := N) h0 g)
def M_X11_line : am_M := (yX11_line.cls, cX11_line, 3, (some .int), am_room 4 89 0 0, false)
def X11_line (N : Nat) (K : am_K) (F : am_F) (a0 : Nat) (I : am_I) (x1 : Int) : Option (Int × am_I) :=
  if (K (F a0 6)).1 = 9 then am_cq (X9_whyNotSolved N K F I (F a0 6) x1) (fun v_2 => if v_2 = 0 then (if (K (F a0 7)).1 = 2 then am_cl (X2_follow N K F (F a0 7) I (F a0 6) x1) (fun _ I_4 => am_cl (X11_accept N K F a0 I_4 (I_4 (F a0 7) 1)) (fun v_5 I_6 => some (v_5, I_6))) else none) else (am_cl (X11_refuse N K F a0 I v_2) (fun v_7 I_8 => some (v_7, I_8)))) else none
theorem w_X11_line {η : am_E} {l : Launch} {N : Nat} {n : Nat} {K : am_K} {I : am_I} {F : am_F} {a0 : Nat} {r0 : Int × am_I} {x1 : Int} (h0 : (K a0).1 = 11) : X11_line N K F a0 I x1 = some r0 → Ok η l M_X11_line (am_qm η (am_pS 1 r0 n K F) 0 0) 0 [(0, qr a0), (1, qi x1)] [] n K I F 0 0 := by
  unfold X11_line
  refine ok_aload_n (q := 1) 0 dX11_line_0 rfl rfl rfl ?_
  refine ok_getR (q := 4) (ci := 11) (k := 6) (x := F a0 6) dX11_line_1 rfl fo_X11_65 h0 rfl ?_
  refine ok_iload_n (q := 5) 1 dX11_line_4 rfl rfl rfl ?_
  refine fi_chk (fun h_1 => ?_)
  refine fi_callV1P (q := 8) (as := [qi x1]) (st := []) dX11_line_5 rfl mo_X11_257 h_1 rfl (Nat.le_of_ble_eq_true rfl) rfl rfl (Nat.le_of_ble_eq_true rfl) (Nat.le_of_ble_eq_true rfl) (Nat.le_of_ble_eq_true rfl) (Nat.zero_le _) (Nat.zero_le _) (fun _ hr => ct_X9_whyNotSolved (N := N) h_1 hr) (fun v_2 => ?_)
  refine ok_istore_n (q := 9) (ls' := [(2, qi v_2), (0, qr a0), (1, qi x1)]) dX11_line_8 rfl rfl (Nat.le_of_ble_eq_true rfl) rfl ?_
  refine ok_iload_n (q := 10) 0 dX11_line_9 rfl rfl rfl ?_
  refine ok_if_eq (q := 19) (q2 := 13) dX11_line_10 rfl rfl ?_ ?_
  · skip
    refine ok_aload_n (q := 20) 1 dX11_line_19 rfl rfl rfl ?_
    refine ok_getR (q := 23) (ci := 11) (k := 7) (x := F a0 7) dX11_line_20 rfl fo_X11_72 h0 rfl ?_
    refine ok_aload_n (q := 24) 1 dX11_line_23 rfl rfl rfl ?_
    refine ok_getR (q := 27) (ci := 11) (k := 6) (x := F a0 6) dX11_line_24 rfl fo_X11_65 h0 rfl ?_
    refine ok_iload_n (q := 28) 2 dX11_line_27 rfl rfl rfl ?_
    refine fi_chk (fun h_3 => ?_)
    refine fi_callV0S (q := 31) (as := [qr (F a0 6), qi x1]) (st := []) dX11_line_28 rfl mo_X11_307 h_3 rfl (Nat.le_of_ble_eq_true rfl) rfl rfl (Nat.le_of_ble_eq_true rfl) (Nat.le_of_ble_eq_true rfl) (Nat.le_of_ble_eq_true rfl) (Nat.zero_le _) (Nat.zero_le _) (fun _ hr => ct_X2_follow (N := N) h_3 hr) (fun _ I_4 => ?_)
    refine ok_aload_n (q := 32) 1 dX11_line_31 rfl rfl rfl ?_
    refine ok_aload_n (q := 33) 1 dX11_line_32 rfl rfl rfl ?_
    refine ok_getR (q := 36) (ci := 11) (k := 7) (x := F a0 7) dX11_line_33 rfl fo_X11_72 h0 rfl ?_
    refine ok_getI (q := 39) (ci := 2) (k := 1) (x := I_4 (F a0 7) 1) dX11_line_36 rfl fo_X11_310 h_3 rfl ?_
    refine fi_callV1S (q := 42) (as := [qi (I_4 (F a0 7) 1)]) (st := []) dX11_line_39 rfl mo_X11_98 h0 rfl (Nat.le_of_ble_eq_true rfl) rfl rfl (Nat.le_of_ble_eq_true rfl) (Nat.le_of_ble_eq_true rfl) (Nat.le_of_ble_eq_true rfl) (Nat.zero_le _) (Nat.zero_le _) (fun _ hr => ct_X11_accept (N := N) h0 hr) (fun v_5 I_6 => ?_)
    exact fi_ireturnS dX11_line_42 rfl
  · skip
    refine ok_aload_n (q := 14) 1 dX11_line_13 rfl rfl rfl ?_
    refine ok_iload_n (q := 15) 0 dX11_line_14 rfl rfl rfl ?_
    refine fi_callV1S (q := 18) (as := [qi v_2]) (st := []) dX11_line_15 rfl mo_X11_91 h0 rfl (Nat.le_of_ble_eq_true rfl) rfl rfl (Nat.le_of_ble_eq_true rfl) (Nat.le_of_ble_eq_true rfl) (Nat.le_of_ble_eq_true rfl) (Nat.zero_le _) (Nat.zero_le _) (fun _ hr => ct_X11_refuse (N := N) h0 hr) (fun v_7 I_8 => ?_)
    exact fi_ireturnS dX11_line_18 rfl
theorem ct_X11_line {η : am_E} {l : Launch} {N : Nat} {n : Nat} {K : am_K} {I : am_I} {F : am_F} {a0 : Nat} {r0 : Int × am_I} {x1 : Int} (h0 : (K a0).1 = 11) : X11_line N K F a0 I x1 = some r0 → am_Ct η l yX11_line cX11_line 3 (some .int) 4 89 0 0 [qr a0, qi x1] n K I F (am_pS 1 r0 n K F) := fun g => am_Ct.of false (by decide) (by decide) (Nat.le_of_ble_eq_true rfl) (fun _ => w_X11_line (N := N) h0 g)
def M_X11_lineAt : am_M := (yX11_lineAt.cls, cX11_lineAt, 2, (some .int), am_room 1 21 0 0, false)
def X11_lineAt_b32 (N : Nat) (K : am_K) (F : am_F) (a0 : Nat) (I : am_I) : Option (Int × am_I) :=
  am_cl (X11_refuse N K F a0 I 3) (fun v_1 I_2 => some (v_1, I_2))
theorem w_X11_lineAt_b32 {η : am_E} {l : Launch} {N : Nat} {n : Nat} {K : am_K} {I : am_I} {F : am_F} {a0 : Nat} {r0 : Int × am_I} (h0 : (K a0).1 = 11) : X11_lineAt_b32 N K F a0 I = some r0 → Ok η l M_X11_lineAt (am_qm η (am_pS 1 r0 n K F) 0 0) 32 [(0, qr a0)] [] n K I F 0 0 := by
  unfold X11_lineAt_b32
  refine ok_aload_n (q := 33) 0 dX11_lineAt_32 rfl rfl rfl ?_
  refine ok_iconst (q := 34) (x := 3) dX11_lineAt_33 rfl rfl (by decide) ?_
  refine fi_callV1S (q := 37) (as := [qi 3]) (st := []) dX11_lineAt_34 rfl mo_X11_91 h0 rfl (Nat.le_of_ble_eq_true rfl) rfl rfl (Nat.le_of_ble_eq_true rfl) (Nat.le_of_ble_eq_true rfl) (Nat.le_of_ble_eq_true rfl) (Nat.zero_le _) (Nat.zero_le _) (fun _ hr => ct_X11_refuse (N := N) h0 hr) (fun v_1 I_2 => ?_)
  exact fi_ireturnS dX11_lineAt_37 rfl
def X11_lineAt (N : Nat) (K : am_K) (F : am_F) (a0 : Nat) (I : am_I) (x1 : Int) : Option (Int × am_I) :=
  if (K (F a0 7)).1 = 2 then if (I (F a0 7) 0) = 0 then (am_cl (X11_refuse N K F a0 I 9) (fun v_6 I_7 => some (v_6, I_7))) else (if 0 ≤ x1 then (if (I (F a0 7) 1) ≤ x1 then (X11_lineAt_b32 N K F a0 I) else (if (K (F (F a0 7) 3)).1 = 100 then if (0 : Int) ≤ x1 ∧ x1 < (K (F (F a0 7) 3)).2 then am_cl (X11_accept N K F a0 I (I (F (F a0 7) 3) x1)) (fun v_4 I_5 => some (v_4, I_5)) else none else none)) else (X11_lineAt_b32 N K F a0 I)) else none
theorem w_X11_lineAt {η : am_E} {l : Launch} {N : Nat} {n : Nat} {K : am_K} {I : am_I} {F : am_F} {a0 : Nat} {r0 : Int × am_I} {x1 : Int} (h0 : (K a0).1 = 11) : X11_lineAt N K F a0 I x1 = some r0 → Ok η l M_X11_lineAt (am_qm η (am_pS 1 r0 n K F) 0 0) 0 [(0, qr a0), (1, qi x1)] [] n K I F 0 0 := by
  unfold X11_lineAt
  refine ok_aload_n (q := 1) 0 dX11_lineAt_0 rfl rfl rfl ?_
  refine ok_getR (q := 4) (ci := 11) (k := 7) (x := F a0 7) dX11_lineAt_1 rfl fo_X11_72 h0 rfl ?_
  refine fi_chk (fun h_1 => ?_)
  refine ok_getI (q := 7) (ci := 2) (k := 0) (x := I (F a0 7) 0) dX11_lineAt_4 rfl fo_X11_313 h_1 rfl ?_
  refine ok_if_ne (q := 17) (q2 := 10) dX11_lineAt_7 rfl rfl ?_ ?_
  · skip
    refine ok_iload_n (q := 18) 1 dX11_lineAt_17 rfl rfl rfl ?_
    refine ok_if_lt (q := 32) (q2 := 21) dX11_lineAt_18 rfl rfl ?_ ?_
    · skip
      exact fun g => ok_pick [0] rfl (w_X11_lineAt_b32 (N := N) h0 g)
    · skip
      refine ok_iload_n (q := 22) 1 dX11_lineAt_21 rfl rfl rfl ?_
      refine ok_aload_n (q := 23) 0 dX11_lineAt_22 rfl rfl rfl ?_
      refine ok_getR (q := 26) (ci := 11) (k := 7) (x := F a0 7) dX11_lineAt_23 rfl fo_X11_72 h0 rfl ?_
      refine ok_getI (q := 29) (ci := 2) (k := 1) (x := I (F a0 7) 1) dX11_lineAt_26 rfl fo_X11_310 h_1 rfl ?_
      refine ok_icmp_lt (q := 38) (q2 := 32) dX11_lineAt_29 rfl rfl ?_ ?_
      · skip
        refine ok_aload_n (q := 39) 0 dX11_lineAt_38 rfl rfl rfl ?_
        refine ok_aload_n (q := 40) 0 dX11_lineAt_39 rfl rfl rfl ?_
        refine ok_getR (q := 43) (ci := 11) (k := 7) (x := F a0 7) dX11_lineAt_40 rfl fo_X11_72 h0 rfl ?_
        refine ok_getR (q := 46) (ci := 2) (k := 3) (x := F (F a0 7) 3) dX11_lineAt_43 rfl fo_X11_315 h_1 rfl ?_
        refine ok_iload_n (q := 47) 1 dX11_lineAt_46 rfl rfl rfl ?_
        refine fi_chk (fun h_2 => ?_)
        refine fi_chk (fun h_3 => ?_)
        refine ok_iaload (q := 48) (v := I (F (F a0 7) 3) x1) dX11_lineAt_47 rfl h_2 h_3.1 h_3.2 rfl ?_
        refine fi_callV1S (q := 51) (as := [qi (I (F (F a0 7) 3) x1)]) (st := []) dX11_lineAt_48 rfl mo_X11_98 h0 rfl (Nat.le_of_ble_eq_true rfl) rfl rfl (Nat.le_of_ble_eq_true rfl) (Nat.le_of_ble_eq_true rfl) (Nat.le_of_ble_eq_true rfl) (Nat.zero_le _) (Nat.zero_le _) (fun _ hr => ct_X11_accept (N := N) h0 hr) (fun v_4 I_5 => ?_)
        exact fi_ireturnS dX11_lineAt_51 rfl
      · skip
        exact fun g => ok_pick [0] rfl (w_X11_lineAt_b32 (N := N) h0 g)
  · skip
    refine ok_aload_n (q := 11) 0 dX11_lineAt_10 rfl rfl rfl ?_
    refine ok_bipush (q := 13) (x := 9) dX11_lineAt_11 rfl rfl (by decide) ?_
    refine fi_callV1S (q := 16) (as := [qi 9]) (st := []) dX11_lineAt_13 rfl mo_X11_91 h0 rfl (Nat.le_of_ble_eq_true rfl) rfl rfl (Nat.le_of_ble_eq_true rfl) (Nat.le_of_ble_eq_true rfl) (Nat.le_of_ble_eq_true rfl) (Nat.zero_le _) (Nat.zero_le _) (fun _ hr => ct_X11_refuse (N := N) h0 hr) (fun v_6 I_7 => ?_)
    exact fi_ireturnS dX11_lineAt_16 rfl
theorem ct_X11_lineAt {η : am_E} {l : Launch} {N : Nat} {n : Nat} {K : am_K} {I : am_I} {F : am_F} {a0 : Nat} {r0 : Int × am_I} {x1 : Int} (h0 : (K a0).1 = 11) : X11_lineAt N K F a0 I x1 = some r0 → am_Ct η l yX11_lineAt cX11_lineAt 2 (some .int) 1 21 0 0 [qr a0, qi x1] n K I F (am_pS 1 r0 n K F) := fun g => am_Ct.of false (by decide) (by decide) (Nat.le_of_ble_eq_true rfl) (fun _ => w_X11_lineAt (N := N) h0 g)
def M_X11_ring : am_M := (yX11_ring.cls, cX11_ring, 1, (some .int), am_room 1 21 0 0, false)
def X11_ring (N : Nat) (K : am_K) (F : am_F) (a0 : Nat) (I : am_I) : Option (Int × am_I) :=
  if (K (F a0 7)).1 = 2 then if (I (F a0 7) 0) = 0 then (am_cl (X11_refuse N K F a0 I 9) (fun v_4 I_5 => some (v_4, I_5))) else (am_cl (X11_accept N K F a0 I (I (F a0 7) 2)) (fun v_2 I_3 => some (v_2, I_3))) else none
theorem w_X11_ring {η : am_E} {l : Launch} {N : Nat} {n : Nat} {K : am_K} {I : am_I} {F : am_F} {a0 : Nat} {r0 : Int × am_I} (h0 : (K a0).1 = 11) : X11_ring N K F a0 I = some r0 → Ok η l M_X11_ring (am_qm η (am_pS 1 r0 n K F) 0 0) 0 [(0, qr a0)] [] n K I F 0 0 := by
  unfold X11_ring
  refine ok_aload_n (q := 1) 0 dX11_ring_0 rfl rfl rfl ?_
  refine ok_getR (q := 4) (ci := 11) (k := 7) (x := F a0 7) dX11_ring_1 rfl fo_X11_72 h0 rfl ?_
  refine fi_chk (fun h_1 => ?_)
  refine ok_getI (q := 7) (ci := 2) (k := 0) (x := I (F a0 7) 0) dX11_ring_4 rfl fo_X11_313 h_1 rfl ?_
  refine ok_if_ne (q := 17) (q2 := 10) dX11_ring_7 rfl rfl ?_ ?_
  · skip
    refine ok_aload_n (q := 18) 0 dX11_ring_17 rfl rfl rfl ?_
    refine ok_aload_n (q := 19) 0 dX11_ring_18 rfl rfl rfl ?_
    refine ok_getR (q := 22) (ci := 11) (k := 7) (x := F a0 7) dX11_ring_19 rfl fo_X11_72 h0 rfl ?_
    refine ok_getI (q := 25) (ci := 2) (k := 2) (x := I (F a0 7) 2) dX11_ring_22 rfl fo_X11_317 h_1 rfl ?_
    refine fi_callV1S (q := 28) (as := [qi (I (F a0 7) 2)]) (st := []) dX11_ring_25 rfl mo_X11_98 h0 rfl (Nat.le_of_ble_eq_true rfl) rfl rfl (Nat.le_of_ble_eq_true rfl) (Nat.le_of_ble_eq_true rfl) (Nat.le_of_ble_eq_true rfl) (Nat.zero_le _) (Nat.zero_le _) (fun _ hr => ct_X11_accept (N := N) h0 hr) (fun v_2 I_3 => ?_)
    exact fi_ireturnS dX11_ring_28 rfl
  · skip
    refine ok_aload_n (q := 11) 0 dX11_ring_10 rfl rfl rfl ?_
    refine ok_bipush (q := 13) (x := 9) dX11_ring_11 rfl rfl (by decide) ?_
    refine fi_callV1S (q := 16) (as := [qi 9]) (st := []) dX11_ring_13 rfl mo_X11_91 h0 rfl (Nat.le_of_ble_eq_true rfl) rfl rfl (Nat.le_of_ble_eq_true rfl) (Nat.le_of_ble_eq_true rfl) (Nat.le_of_ble_eq_true rfl) (Nat.zero_le _) (Nat.zero_le _) (fun _ hr => ct_X11_refuse (N := N) h0 hr) (fun v_4 I_5 => ?_)
    exact fi_ireturnS dX11_ring_16 rfl
theorem ct_X11_ring {η : am_E} {l : Launch} {N : Nat} {n : Nat} {K : am_K} {I : am_I} {F : am_F} {a0 : Nat} {r0 : Int × am_I} (h0 : (K a0).1 = 11) : X11_ring N K F a0 I = some r0 → am_Ct η l yX11_ring cX11_ring 1 (some .int) 1 21 0 0 [qr a0] n K I F (am_pS 1 r0 n K F) := fun g => am_Ct.of false (by decide) (by decide) (Nat.le_of_ble_eq_true rfl) (fun _ => w_X11_ring (N := N) h0 g)
def M_X11_player : am_M := (yX11_player.cls, cX11_player, 5, (some .int), am_room 1 23 0 0, false)
def X11_player_b22 (N : Nat) (K : am_K) (F : am_F) (a0 : Nat) (I : am_I) : Option (Int × am_I) :=
  am_cl (X11_refuse N K F a0 I 7) (fun v_1 I_2 => some (v_1, I_2))
theorem w_X11_player_b22 {η : am_E} {l : Launch} {N : Nat} {n : Nat} {K : am_K} {I : am_I} {F : am_F} {a0 : Nat} {r0 : Int × am_I} (h0 : (K a0).1 = 11) : X11_player_b22 N K F a0 I = some r0 → Ok η l M_X11_player (am_qm η (am_pS 1 r0 n K F) 0 0) 22 [(0, qr a0)] [] n K I F 0 0 := by
  unfold X11_player_b22
  refine ok_aload_n (q := 23) 0 dX11_player_22 rfl rfl rfl ?_
  refine ok_bipush (q := 25) (x := 7) dX11_player_23 rfl rfl (by decide) ?_
  refine fi_callV1S (q := 28) (as := [qi 7]) (st := []) dX11_player_25 rfl mo_X11_91 h0 rfl (Nat.le_of_ble_eq_true rfl) rfl rfl (Nat.le_of_ble_eq_true rfl) (Nat.le_of_ble_eq_true rfl) (Nat.le_of_ble_eq_true rfl) (Nat.zero_le _) (Nat.zero_le _) (fun _ hr => ct_X11_refuse (N := N) h0 hr) (fun v_1 I_2 => ?_)
  exact fi_ireturnS dX11_player_28 rfl
def X11_player (N : Nat) (K : am_K) (F : am_F) (a0 : Nat) (I : am_I) (x1 : Int) (x2 : Int) (x3 : Int) : Option (Int × am_I) :=
  am_cq (X11_isSide N K F I x1) (fun v_1 => if v_1 = 0 then (am_cl (X11_refuse N K F a0 I 3) (fun v_8 I_9 => some (v_8, I_9))) else (if 0 ≤ x2 then (if 3 < x2 then (X11_player_b22 N K F a0 I) else (if (K (F a0 8)).1 = 104 then if (0 : Int) ≤ x1 ∧ x1 < (K (F a0 8)).2 then if (K (F (F a0 8) x1)).1 = 5 then am_cl (X5_become N K F (F (F a0 8) x1) I x2 x3) (fun _ I_5 => am_cl (X11_accept N K F a0 I_5 x2) (fun v_6 I_7 => some (v_6, I_7))) else none else none else none)) else (X11_player_b22 N K F a0 I)))
theorem w_X11_player {η : am_E} {l : Launch} {N : Nat} {n : Nat} {K : am_K} {I : am_I} {F : am_F} {a0 : Nat} {r0 : Int × am_I} {x1 : Int} {x2 : Int} {x3 : Int} (h0 : (K a0).1 = 11) : X11_player N K F a0 I x1 x2 x3 = some r0 → Ok η l M_X11_player (am_qm η (am_pS 1 r0 n K F) 0 0) 0 [(0, qr a0), (1, qi x1), (2, qi x2), (3, ql x3)] [] n K I F 0 0 := by
  unfold X11_player
  refine ok_iload_n (q := 1) 1 dX11_player_0 rfl rfl rfl ?_
  refine fi_callS1P (q := 4) (as := [qi x1]) (st := []) dX11_player_1 rfl mo_X11_129 rfl rfl (Nat.le_of_ble_eq_true rfl) (Nat.le_of_ble_eq_true rfl) (Nat.le_of_ble_eq_true rfl) (Nat.zero_le _) (Nat.zero_le _) (fun _ hr => ct_X11_isSide (N := N) hr) (fun v_1 => ?_)
  refine ok_if_ne (q := 13) (q2 := 7) dX11_player_4 rfl rfl ?_ ?_
  · skip
    refine ok_iload_n (q := 14) 2 dX11_player_13 rfl rfl rfl ?_
    refine ok_if_lt (q := 22) (q2 := 17) dX11_player_14 rfl rfl ?_ ?_
    · skip
      exact fun g => ok_pick [0] rfl (w_X11_player_b22 (N := N) h0 g)
    · skip
      refine ok_iload_n (q := 18) 2 dX11_player_17 rfl rfl rfl ?_
      refine ok_iconst (q := 19) (x := 3) dX11_player_18 rfl rfl (by decide) ?_
      refine ok_icmp_le (q := 29) (q2 := 22) dX11_player_19 rfl rfl ?_ ?_
      · skip
        refine ok_aload_n (q := 30) 0 dX11_player_29 rfl rfl rfl ?_
        refine ok_getR (q := 33) (ci := 11) (k := 8) (x := F a0 8) dX11_player_30 rfl fo_X11_79 h0 rfl ?_
        refine ok_iload_n (q := 34) 1 dX11_player_33 rfl rfl rfl ?_
        refine fi_chk (fun h_2 => ?_)
        refine fi_chk (fun h_3 => ?_)
        refine ok_aaload (q := 35) (i := 1) (v := F (F a0 8) x1) dX11_player_34 rfl h_2 (by decide) rfl rfl h_3.1 h_3.2 rfl ?_
        refine ok_iload_n (q := 36) 2 dX11_player_35 rfl rfl rfl ?_
        refine ok_lload_n (q := 37) 3 dX11_player_36 rfl rfl rfl ?_
        refine fi_chk (fun h_4 => ?_)
        refine fi_callV0S (q := 40) (as := [qi x2, ql x3]) (st := []) dX11_player_37 rfl mo_X11_320 h_4 rfl (Nat.le_of_ble_eq_true rfl) rfl rfl (Nat.le_of_ble_eq_true rfl) (Nat.le_of_ble_eq_true rfl) (Nat.le_of_ble_eq_true rfl) (Nat.zero_le _) (Nat.zero_le _) (fun _ hr => ct_X5_become (N := N) h_4 hr) (fun _ I_5 => ?_)
        refine ok_aload_n (q := 41) 0 dX11_player_40 rfl rfl rfl ?_
        refine ok_iload_n (q := 42) 2 dX11_player_41 rfl rfl rfl ?_
        refine fi_callV1S (q := 45) (as := [qi x2]) (st := []) dX11_player_42 rfl mo_X11_98 h0 rfl (Nat.le_of_ble_eq_true rfl) rfl rfl (Nat.le_of_ble_eq_true rfl) (Nat.le_of_ble_eq_true rfl) (Nat.le_of_ble_eq_true rfl) (Nat.zero_le _) (Nat.zero_le _) (fun _ hr => ct_X11_accept (N := N) h0 hr) (fun v_6 I_7 => ?_)
        exact fi_ireturnS dX11_player_45 rfl
      · skip
        exact fun g => ok_pick [0] rfl (w_X11_player_b22 (N := N) h0 g)
  · skip
    refine ok_aload_n (q := 8) 0 dX11_player_7 rfl rfl rfl ?_
    refine ok_iconst (q := 9) (x := 3) dX11_player_8 rfl rfl (by decide) ?_
    refine fi_callV1S (q := 12) (as := [qi 3]) (st := []) dX11_player_9 rfl mo_X11_91 h0 rfl (Nat.le_of_ble_eq_true rfl) rfl rfl (Nat.le_of_ble_eq_true rfl) (Nat.le_of_ble_eq_true rfl) (Nat.le_of_ble_eq_true rfl) (Nat.zero_le _) (Nat.zero_le _) (fun _ hr => ct_X11_refuse (N := N) h0 hr) (fun v_8 I_9 => ?_)
    exact fi_ireturnS dX11_player_12 rfl
theorem ct_X11_player {η : am_E} {l : Launch} {N : Nat} {n : Nat} {K : am_K} {I : am_I} {F : am_F} {a0 : Nat} {r0 : Int × am_I} {x1 : Int} {x2 : Int} {x3 : Int} (h0 : (K a0).1 = 11) : X11_player N K F a0 I x1 x2 x3 = some r0 → am_Ct η l yX11_player cX11_player 5 (some .int) 1 23 0 0 [qr a0, qi x1, qi x2, ql x3] n K I F (am_pS 1 r0 n K F) := fun g => am_Ct.of false (by decide) (by decide) (Nat.le_of_ble_eq_true rfl) (fun _ => w_X11_player (N := N) h0 g)
def M_X11_bestPitOr : am_M := (yX11_bestPitOr.cls, cX11_bestPitOr, 5, (some .int), am_room 3 72 0 0, false)
def X11_bestPitOr_b29 (N : Nat) (K : am_K) (F : am_F) (I : am_I) (a0 : Nat) (x1 : Int) : Option Int :=
  some (x1)
theorem w_X11_bestPitOr_b29 {η : am_E} {l : Launch} {N : Nat} {n : Nat} {K : am_K} {I : am_I} {F : am_F} {a0 : Nat} {r0 : Int} {x1 : Int} (h0 : (K a0).1 = 11) : X11_bestPitOr_b29 N K F I a0 x1 = some r0 → Ok η l M_X11_bestPitOr (am_qm η (am_pS 1 (r0, I) n K F) 0 0) 29 [(0, qr a0), (1, qi x1)] [] n K I F 0 0 := by
  unfold X11_bestPitOr_b29
  refine ok_iload_n (q := 30) 1 dX11_bestPitOr_29 rfl rfl rfl ?_
  exact fi_ireturnP dX11_bestPitOr_30 rfl
def X11_bestPitOr_b99 (N : Nat) (K : am_K) (F : am_F) (I : am_I) (a0 : Nat) (s0 : Int) : Option Int :=
  some (s0)
theorem w_X11_bestPitOr_b99 {η : am_E} {l : Launch} {N : Nat} {n : Nat} {K : am_K} {I : am_I} {F : am_F} {a0 : Nat} {r0 : Int} {s0 : Int} (h0 : (K a0).1 = 11) : X11_bestPitOr_b99 N K F I a0 s0 = some r0 → Ok η l M_X11_bestPitOr (am_qm η (am_pS 1 (r0, I) n K F) 0 0) 99 [(0, qr a0)] [qi s0] n K I F 0 0 := by
  unfold X11_bestPitOr_b99
  exact fi_ireturnP dX11_bestPitOr_99 rfl
def X11_bestPitOr (N : Nat) (K : am_K) (F : am_F) (I : am_I) (a0 : Nat) (x1 : Int) : Option Int :=
  if (K (F a0 6)).1 = 9 then if (I (F a0 6) 1) = 0 then (X11_bestPitOr_b29 N K F I a0 x1) else (if (K (F a0 2)).1 = 6 then if (K (F a0 0)).1 = 1 then am_cq (X1_seedsIn N K F I (F a0 0) (F (F a0 2) 0)) (fun v_4 => if 12 < v_4 then (X11_bestPitOr_b29 N K F I a0 x1) else (if (K (F a0 4)).1 = 3 then am_cq (X3_numberOf N K F I (F a0 4) (F (F a0 2) 0)) (fun v_6 => am_lt (am_wL ((am_wL (2 * v_6)) + (I (F a0 2) 2))) (fun x2_7 => if 0 ≤ (am_cmp x2_7 (I (F a0 6) 3)) then (some (x1)) else (if am_inI (x2_7) then am_cq (X9_bestEdge N K F I (F a0 6) x2_7) (fun v_9 => if v_9 < 0 then (X11_bestPitOr_b99 N K F I a0 x1) else (am_cq (X0_pitOf N K F I v_9) (fun v_10 => X11_bestPitOr_b99 N K F I a0 v_10))) else none))) else none)) else none else none) else none
theorem w_X11_bestPitOr {η : am_E} {l : Launch} {N : Nat} {n : Nat} {K : am_K} {I : am_I} {F : am_F} {a0 : Nat} {r0 : Int} {x1 : Int} (h0 : (K a0).1 = 11) : X11_bestPitOr N K F I a0 x1 = some r0 → Ok η l M_X11_bestPitOr (am_qm η (am_pS 1 (r0, I) n K F) 0 0) 0 [(0, qr a0), (1, qi x1)] [] n K I F 0 0 := by
  unfold X11_bestPitOr
  refine ok_aload_n (q := 1) 0 dX11_bestPitOr_0 rfl rfl rfl ?_
  refine ok_getR (q := 4) (ci := 11) (k := 6) (x := F a0 6) dX11_bestPitOr_1 rfl fo_X11_65 h0 rfl ?_
  refine fi_chk (fun h_1 => ?_)
  refine ok_getI (q := 7) (ci := 9) (k := 1) (x := I (F a0 6) 1) dX11_bestPitOr_4 rfl fo_X11_248 h_1 rfl ?_
  refine ok_if_eq (q := 29) (q2 := 10) dX11_bestPitOr_7 rfl rfl ?_ ?_
  · skip
    exact fun g => ok_pick [0, 1] rfl (w_X11_bestPitOr_b29 (N := N) h0 g)
  · skip
    refine ok_aload_n (q := 11) 0 dX11_bestPitOr_10 rfl rfl rfl ?_
    refine ok_getR (q := 14) (ci := 11) (k := 0) (x := F a0 0) dX11_bestPitOr_11 rfl fo_X11_12 h0 rfl ?_
    refine ok_aload_n (q := 15) 0 dX11_bestPitOr_14 rfl rfl rfl ?_
    refine ok_getR (q := 18) (ci := 11) (k := 2) (x := F a0 2) dX11_bestPitOr_15 rfl fo_X11_26 h0 rfl ?_
    refine fi_chk (fun h_2 => ?_)
    refine ok_getR (q := 21) (ci := 6) (k := 0) (x := F (F a0 2) 0) dX11_bestPitOr_18 rfl fo_X11_108 h_2 rfl ?_
    refine fi_chk (fun h_3 => ?_)
    refine fi_callV1P (q := 24) (as := [qr (F (F a0 2) 0)]) (st := []) dX11_bestPitOr_21 rfl mo_X11_125 h_3 rfl (Nat.le_of_ble_eq_true rfl) rfl rfl (Nat.le_of_ble_eq_true rfl) (Nat.le_of_ble_eq_true rfl) (Nat.le_of_ble_eq_true rfl) (Nat.zero_le _) (Nat.zero_le _) (fun _ hr => ct_X1_seedsIn (N := N) h_3 hr) (fun v_4 => ?_)
    refine ok_bipush (q := 26) (x := 12) dX11_bestPitOr_24 rfl rfl (by decide) ?_
    refine ok_icmp_le (q := 31) (q2 := 29) dX11_bestPitOr_26 rfl rfl ?_ ?_
    · skip
      refine ok_ldc2 (q := 34) (x := 2) (v := 2) dX11_bestPitOr_31 rfl kc_X11_213 rfl (by decide) ?_
      refine ok_aload_n (q := 35) 0 dX11_bestPitOr_34 rfl rfl rfl ?_
      refine ok_getR (q := 38) (ci := 11) (k := 4) (x := F a0 4) dX11_bestPitOr_35 rfl fo_X11_44 h0 rfl ?_
      refine ok_aload_n (q := 39) 0 dX11_bestPitOr_38 rfl rfl rfl ?_
      refine ok_getR (q := 42) (ci := 11) (k := 2) (x := F a0 2) dX11_bestPitOr_39 rfl fo_X11_26 h0 rfl ?_
      refine ok_getR (q := 45) (ci := 6) (k := 0) (x := F (F a0 2) 0) dX11_bestPitOr_42 rfl fo_X11_108 h_2 rfl ?_
      refine fi_chk (fun h_5 => ?_)
      refine fi_callV2P (q := 48) (as := [qr (F (F a0 2) 0)]) (st := [ql 2]) dX11_bestPitOr_45 rfl mo_X11_223 h_5 rfl (Nat.le_of_ble_eq_true rfl) rfl rfl (Nat.le_of_ble_eq_true rfl) (Nat.le_of_ble_eq_true rfl) (Nat.le_of_ble_eq_true rfl) (Nat.zero_le _) (Nat.zero_le _) (fun _ hr => ct_X3_numberOf (N := N) h_5 hr) (fun v_6 => ?_)
      refine ok_lmulW (q := 49) dX11_bestPitOr_48 rfl ?_
      refine ok_aload_n (q := 50) 0 dX11_bestPitOr_49 rfl rfl rfl ?_
      refine ok_getR (q := 53) (ci := 11) (k := 2) (x := F a0 2) dX11_bestPitOr_50 rfl fo_X11_26 h0 rfl ?_
      refine ok_getI (q := 56) (ci := 6) (k := 2) (x := I (F a0 2) 2) dX11_bestPitOr_53 rfl fo_X11_136 h_2 rfl ?_
      refine ok_i2l (q := 57) dX11_bestPitOr_56 rfl ?_
      refine ok_laddW (q := 58) dX11_bestPitOr_57 rfl ?_
      refine ok_lstore_nL (q := 59) (fun x2_7 => [(2, ql x2_7), (0, qr a0), (1, qi x1)]) dX11_bestPitOr_58 rfl rfl (Nat.le_of_ble_eq_true rfl) (fun _ => rfl) (fun x2_7 => ?_)
      refine ok_lload_n (q := 60) 0 dX11_bestPitOr_59 rfl rfl rfl ?_
      refine ok_aload_n (q := 61) 1 dX11_bestPitOr_60 rfl rfl rfl ?_
      refine ok_getR (q := 64) (ci := 11) (k := 6) (x := F a0 6) dX11_bestPitOr_61 rfl fo_X11_65 h0 rfl ?_
      refine ok_getI (q := 67) (ci := 9) (k := 3) (x := I (F a0 6) 3) dX11_bestPitOr_64 rfl fo_X11_301 h_1 rfl ?_
      refine ok_i2l (q := 68) dX11_bestPitOr_67 rfl ?_
      refine ok_lcmp (q := 69) dX11_bestPitOr_68 rfl ?_
      refine ok_if_lt (q := 74) (q2 := 72) dX11_bestPitOr_69 rfl rfl ?_ ?_
      · skip
        refine ok_aload_n (q := 75) 1 dX11_bestPitOr_74 rfl rfl rfl ?_
        refine ok_getR (q := 78) (ci := 11) (k := 6) (x := F a0 6) dX11_bestPitOr_75 rfl fo_X11_65 h0 rfl ?_
        refine ok_lload_n (q := 79) 0 dX11_bestPitOr_78 rfl rfl rfl ?_
        refine fi_chk (fun h_8 => ?_)
        refine ok_l2i (q := 80) dX11_bestPitOr_79 rfl h_8 ?_
        refine fi_callV1P (q := 83) (as := [qi x2_7]) (st := []) dX11_bestPitOr_80 rfl mo_X11_266 h_1 rfl (Nat.le_of_ble_eq_true rfl) rfl rfl (Nat.le_of_ble_eq_true rfl) (Nat.le_of_ble_eq_true rfl) (Nat.le_of_ble_eq_true rfl) (Nat.zero_le _) (Nat.zero_le _) (fun _ hr => ct_X9_bestEdge (N := N) h_1 hr) (fun v_9 => ?_)
        refine ok_istore (q := 85) (ls' := [(4, qi v_9), (2, ql x2_7), (0, qr a0), (1, qi x1)]) dX11_bestPitOr_83 rfl (Nat.le_of_ble_eq_true rfl) rfl ?_
        refine ok_iload (q := 87) 0 dX11_bestPitOr_85 rfl rfl ?_
        refine ok_if_ge (q := 94) (q2 := 90) dX11_bestPitOr_87 rfl rfl ?_ ?_
        · skip
          refine ok_iload (q := 96) 0 dX11_bestPitOr_94 rfl rfl ?_
          refine fi_callS1P (q := 99) (as := [qi v_9]) (st := []) dX11_bestPitOr_96 rfl mo_X11_269 rfl rfl (Nat.le_of_ble_eq_true rfl) (Nat.le_of_ble_eq_true rfl) (Nat.le_of_ble_eq_true rfl) (Nat.zero_le _) (Nat.zero_le _) (fun _ hr => ct_X0_pitOf (N := N) hr) (fun v_10 => ?_)
          exact fun g => ok_pick [2] rfl (w_X11_bestPitOr_b99 (N := N) h0 g)
        · skip
          refine ok_iload_n (q := 91) 3 dX11_bestPitOr_90 rfl rfl rfl ?_
          refine ok_goto (q := 99) dX11_bestPitOr_91 rfl ?_
          exact fun g => ok_pick [2] rfl (w_X11_bestPitOr_b99 (N := N) h0 g)
      · skip
        refine ok_iload_n (q := 73) 2 dX11_bestPitOr_72 rfl rfl rfl ?_
        exact fi_ireturnP dX11_bestPitOr_73 rfl
    · skip
      exact fun g => ok_pick [0, 1] rfl (w_X11_bestPitOr_b29 (N := N) h0 g)
theorem ct_X11_bestPitOr {η : am_E} {l : Launch} {N : Nat} {n : Nat} {K : am_K} {I : am_I} {F : am_F} {a0 : Nat} {r0 : Int} {x1 : Int} (h0 : (K a0).1 = 11) : X11_bestPitOr N K F I a0 x1 = some r0 → am_Ct η l yX11_bestPitOr cX11_bestPitOr 5 (some .int) 3 72 0 0 [qr a0, qi x1] n K I F (am_pS 1 (r0, I) n K F) := fun g => am_Ct.of false (by decide) (by decide) (Nat.le_of_ble_eq_true rfl) (fun _ => w_X11_bestPitOr (N := N) h0 g)
def M_X11_choosePit : am_M := (yX11_choosePit.cls, cX11_choosePit, 2, (some .int), am_room 4 96 0 0, false)
def X11_choosePit (N : Nat) (K : am_K) (F : am_F) (a0 : Nat) (I : am_I) : Option (Int × am_I) :=
  if (K (F a0 2)).1 = 6 then if (K (F a0 8)).1 = 104 then if (0 : Int) ≤ (I (F a0 2) 2) ∧ (I (F a0 2) 2) < (K (F a0 8)).2 then am_lt (F (F a0 8) (I (F a0 2) 2)) (fun a1_4 => if (K a1_4).1 = 5 then if (I a1_4 0) = 1 then (if (K (F a0 3)).1 = 10 then am_cq (X10_openTakingMost N K F I (F a0 3)) (fun v_8 => some (v_8, I)) else none) else (if (I a1_4 0) = 2 then (if (K (F a0 3)).1 = 10 then am_cq (X10_openAt N K F I (F a0 3) 0) (fun v_11 => am_cq (X11_bestPitOr N K F I a0 v_11) (fun v_12 => some (v_12, I))) else none) else (if (I a1_4 0) = 3 then (if (K (F a0 3)).1 = 10 then am_cl (X5_nextBelow N K F a1_4 I (I (F a0 3) 3)) (fun v_15 I_16 => am_cq (X10_openAt N K F I_16 (F a0 3) v_15) (fun v_17 => some (v_17, I_16))) else none) else (if (K (F a0 3)).1 = 10 then am_cq (X10_openAt N K F I (F a0 3) 0) (fun v_19 => some (v_19, I)) else none))) else none) else none else none else none
theorem w_X11_choosePit {η : am_E} {l : Launch} {N : Nat} {n : Nat} {K : am_K} {I : am_I} {F : am_F} {a0 : Nat} {r0 : Int × am_I} (h0 : (K a0).1 = 11) : X11_choosePit N K F a0 I = some r0 → Ok η l M_X11_choosePit (am_qm η (am_pS 1 r0 n K F) 0 0) 0 [(0, qr a0)] [] n K I F 0 0 := by
  unfold X11_choosePit
  refine ok_aload_n (q := 1) 0 dX11_choosePit_0 rfl rfl rfl ?_
  refine ok_getR (q := 4) (ci := 11) (k := 8) (x := F a0 8) dX11_choosePit_1 rfl fo_X11_79 h0 rfl ?_
  refine ok_aload_n (q := 5) 0 dX11_choosePit_4 rfl rfl rfl ?_
  refine ok_getR (q := 8) (ci := 11) (k := 2) (x := F a0 2) dX11_choosePit_5 rfl fo_X11_26 h0 rfl ?_
  refine fi_chk (fun h_1 => ?_)
  refine ok_getI (q := 11) (ci := 6) (k := 2) (x := I (F a0 2) 2) dX11_choosePit_8 rfl fo_X11_136 h_1 rfl ?_
  refine fi_chk (fun h_2 => ?_)
  refine fi_chk (fun h_3 => ?_)
  refine ok_aaload (q := 12) (i := 1) (v := F (F a0 8) (I (F a0 2) 2)) dX11_choosePit_11 rfl h_2 (by decide) rfl rfl h_3.1 h_3.2 rfl ?_
  refine ok_astore_nL (q := 13) (fun a1_4 => [(1, qr a1_4), (0, qr a0)]) dX11_choosePit_12 rfl rfl (Nat.le_of_ble_eq_true rfl) (fun _ => rfl) (fun a1_4 => ?_)
  refine ok_aload_n (q := 14) 0 dX11_choosePit_13 rfl rfl rfl ?_
  refine fi_chk (fun h_5 => ?_)
  refine ok_getI (q := 17) (ci := 5) (k := 0) (x := I a1_4 0) dX11_choosePit_14 rfl fo_X11_360 h_5 rfl ?_
  refine fi_eqd (fun h_6 => ?_) (fun h_6 => ?_)
  · skip
    refine ok_table_in (q := 44) dX11_choosePit_17 (by omega) (by omega) (by rw [h_6]; rfl) rfl ?_
    refine ok_aload_n (q := 45) 1 dX11_choosePit_44 rfl rfl rfl ?_
    refine ok_getR (q := 48) (ci := 11) (k := 3) (x := F a0 3) dX11_choosePit_45 rfl fo_X11_35 h0 rfl ?_
    refine fi_chk (fun h_7 => ?_)
    refine fi_callV1P (q := 51) (as := []) (st := []) dX11_choosePit_48 rfl mo_X11_361 h_7 rfl (Nat.le_of_ble_eq_true rfl) rfl rfl (Nat.le_of_ble_eq_true rfl) (Nat.le_of_ble_eq_true rfl) (Nat.le_of_ble_eq_true rfl) (Nat.zero_le _) (Nat.zero_le _) (fun _ hr => ct_X10_openTakingMost (N := N) h_7 hr) (fun v_8 => ?_)
    exact fi_ireturnS dX11_choosePit_51 rfl
  refine fi_eqd (fun h_9 => ?_) (fun h_9 => ?_)
  · skip
    refine ok_table_in (q := 52) dX11_choosePit_17 (by omega) (by omega) (by rw [h_9]; rfl) rfl ?_
    refine ok_aload_n (q := 53) 1 dX11_choosePit_52 rfl rfl rfl ?_
    refine ok_aload_n (q := 54) 1 dX11_choosePit_53 rfl rfl rfl ?_
    refine ok_getR (q := 57) (ci := 11) (k := 3) (x := F a0 3) dX11_choosePit_54 rfl fo_X11_35 h0 rfl ?_
    refine ok_iconst (q := 58) (x := 0) dX11_choosePit_57 rfl rfl (by decide) ?_
    refine fi_chk (fun h_10 => ?_)
    refine fi_callV1P (q := 61) (as := [qi 0]) (st := [qr a0]) dX11_choosePit_58 rfl mo_X11_364 h_10 rfl (Nat.le_of_ble_eq_true rfl) rfl rfl (Nat.le_of_ble_eq_true rfl) (Nat.le_of_ble_eq_true rfl) (Nat.le_of_ble_eq_true rfl) (Nat.zero_le _) (Nat.zero_le _) (fun _ hr => ct_X10_openAt (N := N) h_10 hr) (fun v_11 => ?_)
    refine fi_callV1P (q := 64) (as := [qi v_11]) (st := []) dX11_choosePit_61 rfl mo_X11_367 h0 rfl (Nat.le_of_ble_eq_true rfl) rfl rfl (Nat.le_of_ble_eq_true rfl) (Nat.le_of_ble_eq_true rfl) (Nat.le_of_ble_eq_true rfl) (Nat.zero_le _) (Nat.zero_le _) (fun _ hr => ct_X11_bestPitOr (N := N) h0 hr) (fun v_12 => ?_)
    exact fi_ireturnS dX11_choosePit_64 rfl
  refine fi_eqd (fun h_13 => ?_) (fun h_13 => ?_)
  · skip
    refine ok_table_in (q := 65) dX11_choosePit_17 (by omega) (by omega) (by rw [h_13]; rfl) rfl ?_
    refine ok_aload_n (q := 66) 1 dX11_choosePit_65 rfl rfl rfl ?_
    refine ok_getR (q := 69) (ci := 11) (k := 3) (x := F a0 3) dX11_choosePit_66 rfl fo_X11_35 h0 rfl ?_
    refine ok_aload_n (q := 70) 0 dX11_choosePit_69 rfl rfl rfl ?_
    refine ok_aload_n (q := 71) 1 dX11_choosePit_70 rfl rfl rfl ?_
    refine ok_getR (q := 74) (ci := 11) (k := 3) (x := F a0 3) dX11_choosePit_71 rfl fo_X11_35 h0 rfl ?_
    refine fi_chk (fun h_14 => ?_)
    refine ok_getI (q := 77) (ci := 10) (k := 3) (x := I (F a0 3) 3) dX11_choosePit_74 rfl fo_X11_370 h_14 rfl ?_
    refine fi_callV1S (q := 80) (as := [qi (I (F a0 3) 3)]) (st := [qr (F a0 3)]) dX11_choosePit_77 rfl mo_X11_373 h_5 rfl (Nat.le_of_ble_eq_true rfl) rfl rfl (Nat.le_of_ble_eq_true rfl) (Nat.le_of_ble_eq_true rfl) (Nat.le_of_ble_eq_true rfl) (Nat.zero_le _) (Nat.zero_le _) (fun _ hr => ct_X5_nextBelow (N := N) h_5 hr) (fun v_15 I_16 => ?_)
    refine fi_callV1P (q := 83) (as := [qi v_15]) (st := []) dX11_choosePit_80 rfl mo_X11_364 h_14 rfl (Nat.le_of_ble_eq_true rfl) rfl rfl (Nat.le_of_ble_eq_true rfl) (Nat.le_of_ble_eq_true rfl) (Nat.le_of_ble_eq_true rfl) (Nat.zero_le _) (Nat.zero_le _) (fun _ hr => ct_X10_openAt (N := N) h_14 hr) (fun v_17 => ?_)
    exact fi_ireturnS dX11_choosePit_83 rfl
  refine ok_table_out (q := 84) dX11_choosePit_17 (by omega) rfl ?_
  refine ok_aload_n (q := 85) 1 dX11_choosePit_84 rfl rfl rfl ?_
  refine ok_getR (q := 88) (ci := 11) (k := 3) (x := F a0 3) dX11_choosePit_85 rfl fo_X11_35 h0 rfl ?_
  refine ok_iconst (q := 89) (x := 0) dX11_choosePit_88 rfl rfl (by decide) ?_
  refine fi_chk (fun h_18 => ?_)
  refine fi_callV1P (q := 92) (as := [qi 0]) (st := []) dX11_choosePit_89 rfl mo_X11_364 h_18 rfl (Nat.le_of_ble_eq_true rfl) rfl rfl (Nat.le_of_ble_eq_true rfl) (Nat.le_of_ble_eq_true rfl) (Nat.le_of_ble_eq_true rfl) (Nat.zero_le _) (Nat.zero_le _) (fun _ hr => ct_X10_openAt (N := N) h_18 hr) (fun v_19 => ?_)
  exact fi_ireturnS dX11_choosePit_92 rfl
theorem ct_X11_choosePit {η : am_E} {l : Launch} {N : Nat} {n : Nat} {K : am_K} {I : am_I} {F : am_F} {a0 : Nat} {r0 : Int × am_I} (h0 : (K a0).1 = 11) : X11_choosePit N K F a0 I = some r0 → am_Ct η l yX11_choosePit cX11_choosePit 2 (some .int) 4 96 0 0 [qr a0] n K I F (am_pS 1 r0 n K F) := fun g => am_Ct.of false (by decide) (by decide) (Nat.le_of_ble_eq_true rfl) (fun _ => w_X11_choosePit (N := N) h0 g)
def M_X11_play (mc ms : Nat) : am_M := (yX11_play.cls, cX11_play, 3, (some .int), am_room 6 145 mc ms, false)
def X11_play_b11 (N : Nat) (a0 : Nat) (n : Nat) (K : am_K) (I : am_I) (F : am_F) (c z : Nat) : Option am_A :=
  am_mo c z (if (K a0).1 = 11 then am_cl (X11_refuse N K F a0 I 7) (fun v_4 I_5 => some (v_4, n, K, I_5, F, c, z)) else none)
theorem w_X11_play_b11 {η : am_E} {l : Launch} {N : Nat} {n : Nat} {K : am_K} {I : am_I} {F : am_F} {c z : Nat} {a0 : Nat} {r0 : am_A} : X11_play_b11 N a0 n K I F c z = some r0 → Ok η l (M_X11_play (am_ac1 r0) (am_az1 r0)) (am_qm η (am_pA 1 r0) (am_ac1 r0) (am_az1 r0)) 11 [(0, qr a0)] [] n K I F c z := by
  unfold X11_play_b11
  refine fi_mo (fun hc_1 hz_2 => ?_)
  refine ok_aload_n (q := 12) 0 dX11_play_11 rfl rfl rfl ?_
  refine ok_bipush (q := 14) (x := 7) dX11_play_12 rfl rfl (by decide) ?_
  refine fi_chk (fun h_3 => ?_)
  refine fi_callV1S (q := 17) (as := [qi 7]) (st := []) dX11_play_14 rfl mo_X11_91 h_3 rfl (Nat.le_of_ble_eq_true rfl) rfl rfl (Nat.le_of_ble_eq_true rfl) (Nat.le_of_ble_eq_true rfl) (Nat.le_of_ble_eq_true rfl) hc_1 hz_2 (fun _ hr => ct_X11_refuse (N := N) h_3 hr) (fun v_4 I_5 => ?_)
  exact fi_ireturnA dX11_play_17 rfl
def X11_play_b59 (N : Nat) (a0 : Nat) (n : Nat) (K : am_K) (I : am_I) (F : am_F) (c z : Nat) (x2 : Int) : Option am_A :=
  am_mo c z (if (K a0).1 = 11 then am_cl (X11_accept N K F a0 I x2) (fun v_4 I_5 => some (v_4, n, K, I_5, F, c, z)) else none)
theorem w_X11_play_b59 {η : am_E} {l : Launch} {N : Nat} {n : Nat} {K : am_K} {I : am_I} {F : am_F} {c z : Nat} {a0 : Nat} {r0 : am_A} {x2 : Int} : X11_play_b59 N a0 n K I F c z x2 = some r0 → Ok η l (M_X11_play (am_ac1 r0) (am_az1 r0)) (am_qm η (am_pA 1 r0) (am_ac1 r0) (am_az1 r0)) 59 [(0, qr a0), (2, qi x2)] [] n K I F c z := by
  unfold X11_play_b59
  refine fi_mo (fun hc_1 hz_2 => ?_)
  refine ok_aload_n (q := 60) 0 dX11_play_59 rfl rfl rfl ?_
  refine ok_iload_n (q := 61) 1 dX11_play_60 rfl rfl rfl ?_
  refine fi_chk (fun h_3 => ?_)
  refine fi_callV1S (q := 64) (as := [qi x2]) (st := []) dX11_play_61 rfl mo_X11_98 h_3 rfl (Nat.le_of_ble_eq_true rfl) rfl rfl (Nat.le_of_ble_eq_true rfl) (Nat.le_of_ble_eq_true rfl) (Nat.le_of_ble_eq_true rfl) hc_1 hz_2 (fun _ hr => ct_X11_accept (N := N) h_3 hr) (fun v_4 I_5 => ?_)
  exact fi_ireturnA dX11_play_64 rfl
def X11_play_s20 (N : Nat) (a0 : Nat) (k20 : Nat → am_K → am_I → am_F → Nat → Nat → Int → Int → Option am_A) (n : Nat) (K : am_K) (I : am_I) (F : am_F) (c z : Nat) (x1 : Int) (x2 : Int) : Option am_A :=
  am_mo c z (if x2 < x1 then (if (K a0).1 = 11 then if (K (F a0 5)).1 = 4 then if (I (F a0 5) 0) < 1000 then (am_cl (X11_countOpen N K F a0 I) (fun v_5 I_6 => if 0 < v_5 then (am_cl (X11_choosePit N K F a0 I_6) (fun v_7 I_8 => am_ca (X11_makeMove N a0 n K I_8 F v_7) (fun _ n_9 K_10 I_11 F_12 c_13 z_14 => am_mo (c + c_13) (z + z_14) (if am_inI (x2 + 1) then am_lt (x2 + 1) (fun x2_18 => k20 n_9 K_10 I_11 F_12 (c + c_13) (z + z_14) x1 x2_18) else none)))) else (X11_play_b59 N a0 n K I_6 F c z x2))) else (X11_play_b59 N a0 n K I F c z x2) else none else none) else (X11_play_b59 N a0 n K I F c z x2))
theorem w_X11_play_s20 {η : am_E} {l : Launch} {N : Nat} {n : Nat} {K : am_K} {I : am_I} {F : am_F} {c z : Nat} {a0 : Nat} {r0 : am_A} {k20 : Nat → am_K → am_I → am_F → Nat → Nat → Int → Int → Option am_A} {x1 : Int} {x2 : Int} (H20 : ∀ (n : Nat) (K : am_K) (I : am_I) (F : am_F) (c : Nat) (z : Nat) (x1 : Int) (x2 : Int), k20 n K I F c z x1 x2 = some r0 → Ok η l (M_X11_play (am_ac1 r0) (am_az1 r0)) (am_qm η (am_pA 1 r0) (am_ac1 r0) (am_az1 r0)) 20 [(0, qr a0), (1, qi x1), (2, qi x2)] [] n K I F c z) : X11_play_s20 N a0 k20 n K I F c z x1 x2 = some r0 → Ok η l (M_X11_play (am_ac1 r0) (am_az1 r0)) (am_qm η (am_pA 1 r0) (am_ac1 r0) (am_az1 r0)) 20 [(0, qr a0), (1, qi x1), (2, qi x2)] [] n K I F c z := by
  unfold X11_play_s20
  refine fi_mo (fun hc_1 hz_2 => ?_)
  refine ok_iload_n (q := 21) 2 dX11_play_20 rfl rfl rfl ?_
  refine ok_iload_n (q := 22) 1 dX11_play_21 rfl rfl rfl ?_
  refine ok_icmp_ge (q := 59) (q2 := 25) dX11_play_22 rfl rfl ?_ ?_
  · skip
    exact fun g => ok_pick [0, 2] rfl (w_X11_play_b59 (N := N) g)
  · skip
    refine ok_aload_n (q := 26) 0 dX11_play_25 rfl rfl rfl ?_
    refine fi_chk (fun h_3 => ?_)
    refine ok_getR (q := 29) (ci := 11) (k := 5) (x := F a0 5) dX11_play_26 rfl fo_X11_51 h_3 rfl ?_
    refine fi_chk (fun h_4 => ?_)
    refine ok_getI (q := 32) (ci := 4) (k := 0) (x := I (F a0 5) 0) dX11_play_29 rfl fo_X11_164 h_4 rfl ?_
    refine ok_sipush (q := 35) (x := 1000) dX11_play_32 rfl rfl (by decide) ?_
    refine ok_icmp_ge (q := 59) (q2 := 38) dX11_play_35 rfl rfl ?_ ?_
    · skip
      exact fun g => ok_pick [0, 2] rfl (w_X11_play_b59 (N := N) g)
    · skip
      refine ok_aload_n (q := 39) 0 dX11_play_38 rfl rfl rfl ?_
      refine fi_callV1S (q := 42) (as := []) (st := []) dX11_play_39 rfl mo_X11_210 h_3 rfl (Nat.le_of_ble_eq_true rfl) rfl rfl (Nat.le_of_ble_eq_true rfl) (Nat.le_of_ble_eq_true rfl) (Nat.le_of_ble_eq_true rfl) hc_1 hz_2 (fun _ hr => ct_X11_countOpen (N := N) h_3 hr) (fun v_5 I_6 => ?_)
      refine ok_if_le (q := 59) (q2 := 45) dX11_play_42 rfl rfl ?_ ?_
      · skip
        exact fun g => ok_pick [0, 2] rfl (w_X11_play_b59 (N := N) g)
      · skip
        refine ok_aload_n (q := 46) 0 dX11_play_45 rfl rfl rfl ?_
        refine ok_aload_n (q := 47) 0 dX11_play_46 rfl rfl rfl ?_
        refine fi_callV1S (q := 50) (as := []) (st := [qr a0]) dX11_play_47 rfl mo_X11_323 h_3 rfl (Nat.le_of_ble_eq_true rfl) rfl rfl (Nat.le_of_ble_eq_true rfl) (Nat.le_of_ble_eq_true rfl) (Nat.le_of_ble_eq_true rfl) hc_1 hz_2 (fun _ hr => ct_X11_choosePit (N := N) h_3 hr) (fun v_7 I_8 => ?_)
        refine fi_callV0A (q := 53) (as := [qi v_7]) (st := []) dX11_play_50 rfl mo_X11_178 h_3 rfl (Nat.le_of_ble_eq_true rfl) rfl rfl (Nat.le_of_ble_eq_true rfl) (Nat.le_of_ble_eq_true rfl) (Nat.le_of_ble_eq_true rfl) (Nat.le_refl _) (Nat.le_refl _) (fun _ hr => ct_X11_makeMove (N := N) h_3 hr) (fun _ n_9 K_10 I_11 F_12 c_13 z_14 hc_15 hz_16 => ?_)
        refine fi_chk (fun h_17 => ?_)
        refine ok_iincL (q := 56) (fun x2_18 => [(2, qi x2_18), (0, qr a0), (1, qi x1)]) 2 dX11_play_53 rfl rfl h_17 (Nat.le_of_ble_eq_true rfl) (fun _ => rfl) (fun x2_18 => ?_)
        refine ok_goto (q := 20) dX11_play_56 rfl ?_
        exact fun g => ok_pick [1, 2, 0] rfl (H20 _ _ _ _ _ _ _ _ g)
def X11_play_h20 (N : Nat) (a0 : Nat) : Nat → Nat → am_K → am_I → am_F → Nat → Nat → Int → Int → Option am_A := am_it (fun kh => X11_play_s20 N a0 kh) (fun _ _ _ _ _ _ _ _ => none)
theorem w_X11_play_h20 {η : am_E} {l : Launch} {N : Nat}  {a0 : Nat} {r0 : am_A} (f : Nat) : ∀ (n : Nat) (K : am_K) (I : am_I) (F : am_F) (c : Nat) (z : Nat) (x1 : Int) (x2 : Int), X11_play_h20 N a0 f n K I F c z x1 x2 = some r0 → Ok η l (M_X11_play (am_ac1 r0) (am_az1 r0)) (am_qm η (am_pA 1 r0) (am_ac1 r0) (am_az1 r0)) 20 [(0, qr a0), (1, qi x1), (2, qi x2)] [] n K I F c z := by
  induction f with
  | zero => intro n K I F c z x1 x2 g; exact fi_none g
  | succ f ih => intro n K I F c z x1 x2 g; exact w_X11_play_s20 (N := N) ih g
def X11_play (N : Nat) (a0 : Nat) (n : Nat) (K : am_K) (I : am_I) (F : am_F) (x1 : Int) : Option am_A :=
  if 0 ≤ x1 then (if 1000 < x1 then (X11_play_b11 N a0 n K I F 0 0) else (X11_play_h20 N a0 N n K I F 0 0 x1 0)) else (X11_play_b11 N a0 n K I F 0 0)
theorem w_X11_play {η : am_E} {l : Launch} {N : Nat} {n : Nat} {K : am_K} {I : am_I} {F : am_F} {a0 : Nat} {r0 : am_A} {x1 : Int} (h0 : (K a0).1 = 11) : X11_play N a0 n K I F x1 = some r0 → Ok η l (M_X11_play (am_ac1 r0) (am_az1 r0)) (am_qm η (am_pA 1 r0) (am_ac1 r0) (am_az1 r0)) 0 [(0, qr a0), (1, qi x1)] [] n K I F 0 0 := by
  unfold X11_play
  refine ok_iload_n (q := 1) 1 dX11_play_0 rfl rfl rfl ?_
  refine ok_if_lt (q := 11) (q2 := 4) dX11_play_1 rfl rfl ?_ ?_
  · skip
    exact fun g => ok_pick [0] rfl (w_X11_play_b11 (N := N) g)
  · skip
    refine ok_iload_n (q := 5) 1 dX11_play_4 rfl rfl rfl ?_
    refine ok_sipush (q := 8) (x := 1000) dX11_play_5 rfl rfl (by decide) ?_
    refine ok_icmp_le (q := 18) (q2 := 11) dX11_play_8 rfl rfl ?_ ?_
    · skip
      refine ok_iconst (q := 19) (x := 0) dX11_play_18 rfl rfl (by decide) ?_
      refine ok_istore_n (q := 20) (ls' := [(2, qi 0), (0, qr a0), (1, qi x1)]) dX11_play_19 rfl rfl (Nat.le_of_ble_eq_true rfl) rfl ?_
      exact fun g => ok_pick [1, 2, 0] rfl (w_X11_play_h20 (N := N) N _ _ _ _ _ _ _ _ g)
    · skip
      exact fun g => ok_pick [0] rfl (w_X11_play_b11 (N := N) g)
theorem ct_X11_play {η : am_E} {l : Launch} {N : Nat} {n : Nat} {K : am_K} {I : am_I} {F : am_F} {a0 : Nat} {r0 : am_A} {x1 : Int} (h0 : (K a0).1 = 11) : X11_play N a0 n K I F x1 = some r0 → am_Ct η l yX11_play cX11_play 3 (some .int) 6 145 (am_ac1 r0) (am_az1 r0) [qr a0, qi x1] n K I F (am_pA 1 r0) := fun g => am_Ct.of false (by decide) (by decide) (Nat.le_of_ble_eq_true rfl) (fun _ => w_X11_play (N := N) h0 g)
def M_X11_status : am_M := (yX11_status.cls, cX11_status, 1, (some .int), am_room 0 0 0 0, false)
def X11_status (N : Nat) (K : am_K) (F : am_F) (I : am_I) (a0 : Nat) : Option Int :=
  some (I a0 9)
theorem w_X11_status {η : am_E} {l : Launch} {N : Nat} {n : Nat} {K : am_K} {I : am_I} {F : am_F} {a0 : Nat} {r0 : Int} (h0 : (K a0).1 = 11) : X11_status N K F I a0 = some r0 → Ok η l M_X11_status (am_qm η (am_pS 1 (r0, I) n K F) 0 0) 0 [(0, qr a0)] [] n K I F 0 0 := by
  unfold X11_status
  refine ok_aload_n (q := 1) 0 dX11_status_0 rfl rfl rfl ?_
  refine ok_getI (q := 4) (ci := 11) (k := 9) (x := I a0 9) dX11_status_1 rfl fo_X11_83 h0 rfl ?_
  exact fi_ireturnP dX11_status_4 rfl
theorem ct_X11_status {η : am_E} {l : Launch} {N : Nat} {n : Nat} {K : am_K} {I : am_I} {F : am_F} {a0 : Nat} {r0 : Int} (h0 : (K a0).1 = 11) : X11_status N K F I a0 = some r0 → am_Ct η l yX11_status cX11_status 1 (some .int) 0 0 0 0 [qr a0] n K I F (am_pS 1 (r0, I) n K F) := fun g => am_Ct.of false (by decide) (by decide) (Nat.le_of_ble_eq_true rfl) (fun _ => w_X11_status (N := N) h0 g)
def M_X11_digest : am_M := (yX11_digest.cls, cX11_digest, 4, (some .long), am_room 7 166 0 0, false)
def X11_digest_b199 (N : Nat) (K : am_K) (F : am_F) (a0 : Nat) (I : am_I) (s0 : Int) : Option (Int × am_I) :=
  some (s0, I)
theorem w_X11_digest_b199 {η : am_E} {l : Launch} {N : Nat} {n : Nat} {K : am_K} {I : am_I} {F : am_F} {a0 : Nat} {r0 : Int × am_I} {s0 : Int} (h0 : (K a0).1 = 11) : X11_digest_b199 N K F a0 I s0 = some r0 → Ok η l M_X11_digest (am_qm η (am_pS 2 r0 n K F) 0 0) 199 [(0, qr a0)] [ql s0] n K I F 0 0 := by
  unfold X11_digest_b199
  exact fi_lreturnS dX11_digest_199 rfl
def X11_digest_b124 (N : Nat) (K : am_K) (F : am_F) (a0 : Nat) (I : am_I) (x3 : Int) (s0 : Int) (s1 : Int) : Option (Int × am_I) :=
  am_lt (am_wL (s1 + s0)) (fun x1_1 => if (K (F a0 5)).1 = 4 then am_lt (am_wL ((am_wL (x1_1 * 31)) + (I (F a0 5) 0))) (fun x1_3 => am_lt (am_wL ((am_wL (x1_3 * 31)) + x3)) (fun x1_4 => am_cl (X11_scoreOf N K F a0 I 0) (fun v_5 I_6 => am_lt (am_wL ((am_wL (x1_4 * 31)) + v_5)) (fun x1_7 => am_cl (X11_scoreOf N K F a0 I_6 1) (fun v_8 I_9 => am_lt (am_wL ((am_wL (x1_7 * 31)) + v_8)) (fun x1_10 => if (K (F a0 6)).1 = 9 then if (I_9 (F a0 6) 1) = 0 then (X11_digest_b199 N K F a0 I_9 x1_10) else (am_cq (X9_digestFrom N K F I_9 (F a0 6) x1_10) (fun v_12 => X11_digest_b199 N K F a0 I_9 v_12)) else none)))))) else none)
theorem w_X11_digest_b124 {η : am_E} {l : Launch} {N : Nat} {n : Nat} {K : am_K} {I : am_I} {F : am_F} {a0 : Nat} {r0 : Int × am_I} {x3 : Int} {s0 : Int} {s1 : Int} (h0 : (K a0).1 = 11) : X11_digest_b124 N K F a0 I x3 s0 s1 = some r0 → Ok η l M_X11_digest (am_qm η (am_pS 2 r0 n K F) 0 0) 124 [(0, qr a0), (3, qi x3)] [qi s0, ql s1] n K I F 0 0 := by
  unfold X11_digest_b124
  refine ok_i2l (q := 125) dX11_digest_124 rfl ?_
  refine ok_laddW (q := 126) dX11_digest_125 rfl ?_
  refine ok_lstore_nL (q := 127) (fun x1_1 => [(1, ql x1_1), (0, qr a0), (3, qi x3)]) dX11_digest_126 rfl rfl (Nat.le_of_ble_eq_true rfl) (fun _ => rfl) (fun x1_1 => ?_)
  refine ok_lload_n (q := 128) 0 dX11_digest_127 rfl rfl rfl ?_
  refine ok_ldc2 (q := 131) (x := 31) (v := 31) dX11_digest_128 rfl kc_X11_328 rfl (by decide) ?_
  refine ok_lmulW (q := 132) dX11_digest_131 rfl ?_
  refine ok_aload_n (q := 133) 1 dX11_digest_132 rfl rfl rfl ?_
  refine ok_getR (q := 136) (ci := 11) (k := 5) (x := F a0 5) dX11_digest_133 rfl fo_X11_51 h0 rfl ?_
  refine fi_chk (fun h_2 => ?_)
  refine ok_getI (q := 139) (ci := 4) (k := 0) (x := I (F a0 5) 0) dX11_digest_136 rfl fo_X11_164 h_2 rfl ?_
  refine ok_i2l (q := 140) dX11_digest_139 rfl ?_
  refine ok_laddW (q := 141) dX11_digest_140 rfl ?_
  refine ok_lstore_nL (q := 142) (fun x1_3 => [(1, ql x1_3), (0, qr a0), (3, qi x3)]) dX11_digest_141 rfl rfl (Nat.le_of_ble_eq_true rfl) (fun _ => rfl) (fun x1_3 => ?_)
  refine ok_lload_n (q := 143) 0 dX11_digest_142 rfl rfl rfl ?_
  refine ok_ldc2 (q := 146) (x := 31) (v := 31) dX11_digest_143 rfl kc_X11_328 rfl (by decide) ?_
  refine ok_lmulW (q := 147) dX11_digest_146 rfl ?_
  refine ok_iload_n (q := 148) 2 dX11_digest_147 rfl rfl rfl ?_
  refine ok_i2l (q := 149) dX11_digest_148 rfl ?_
  refine ok_laddW (q := 150) dX11_digest_149 rfl ?_
  refine ok_lstore_nL (q := 151) (fun x1_4 => [(1, ql x1_4), (0, qr a0), (3, qi x3)]) dX11_digest_150 rfl rfl (Nat.le_of_ble_eq_true rfl) (fun _ => rfl) (fun x1_4 => ?_)
  refine ok_lload_n (q := 152) 0 dX11_digest_151 rfl rfl rfl ?_
  refine ok_ldc2 (q := 155) (x := 31) (v := 31) dX11_digest_152 rfl kc_X11_328 rfl (by decide) ?_
  refine ok_lmulW (q := 156) dX11_digest_155 rfl ?_
  refine ok_aload_n (q := 157) 1 dX11_digest_156 rfl rfl rfl ?_
  refine ok_iconst (q := 158) (x := 0) dX11_digest_157 rfl rfl (by decide) ?_
  refine fi_callV1S (q := 161) (as := [qi 0]) (st := [ql (am_wL (x1_4 * 31))]) dX11_digest_158 rfl mo_X11_207 h0 rfl (Nat.le_of_ble_eq_true rfl) rfl rfl (Nat.le_of_ble_eq_true rfl) (Nat.le_of_ble_eq_true rfl) (Nat.le_of_ble_eq_true rfl) (Nat.zero_le _) (Nat.zero_le _) (fun _ hr => ct_X11_scoreOf (N := N) h0 hr) (fun v_5 I_6 => ?_)
  refine ok_i2l (q := 162) dX11_digest_161 rfl ?_
  refine ok_laddW (q := 163) dX11_digest_162 rfl ?_
  refine ok_lstore_nL (q := 164) (fun x1_7 => [(1, ql x1_7), (0, qr a0), (3, qi x3)]) dX11_digest_163 rfl rfl (Nat.le_of_ble_eq_true rfl) (fun _ => rfl) (fun x1_7 => ?_)
  refine ok_lload_n (q := 165) 0 dX11_digest_164 rfl rfl rfl ?_
  refine ok_ldc2 (q := 168) (x := 31) (v := 31) dX11_digest_165 rfl kc_X11_328 rfl (by decide) ?_
  refine ok_lmulW (q := 169) dX11_digest_168 rfl ?_
  refine ok_aload_n (q := 170) 1 dX11_digest_169 rfl rfl rfl ?_
  refine ok_iconst (q := 171) (x := 1) dX11_digest_170 rfl rfl (by decide) ?_
  refine fi_callV1S (q := 174) (as := [qi 1]) (st := [ql (am_wL (x1_7 * 31))]) dX11_digest_171 rfl mo_X11_207 h0 rfl (Nat.le_of_ble_eq_true rfl) rfl rfl (Nat.le_of_ble_eq_true rfl) (Nat.le_of_ble_eq_true rfl) (Nat.le_of_ble_eq_true rfl) (Nat.zero_le _) (Nat.zero_le _) (fun _ hr => ct_X11_scoreOf (N := N) h0 hr) (fun v_8 I_9 => ?_)
  refine ok_i2l (q := 175) dX11_digest_174 rfl ?_
  refine ok_laddW (q := 176) dX11_digest_175 rfl ?_
  refine ok_lstore_nL (q := 177) (fun x1_10 => [(1, ql x1_10), (0, qr a0), (3, qi x3)]) dX11_digest_176 rfl rfl (Nat.le_of_ble_eq_true rfl) (fun _ => rfl) (fun x1_10 => ?_)
  refine ok_aload_n (q := 178) 1 dX11_digest_177 rfl rfl rfl ?_
  refine ok_getR (q := 181) (ci := 11) (k := 6) (x := F a0 6) dX11_digest_178 rfl fo_X11_65 h0 rfl ?_
  refine fi_chk (fun h_11 => ?_)
  refine ok_getI (q := 184) (ci := 9) (k := 1) (x := I_9 (F a0 6) 1) dX11_digest_181 rfl fo_X11_248 h_11 rfl ?_
  refine ok_if_eq (q := 198) (q2 := 187) dX11_digest_184 rfl rfl ?_ ?_
  · skip
    refine ok_lload_n (q := 199) 0 dX11_digest_198 rfl rfl rfl ?_
    exact fun g => ok_pick [1] rfl (w_X11_digest_b199 (N := N) h0 g)
  · skip
    refine ok_aload_n (q := 188) 1 dX11_digest_187 rfl rfl rfl ?_
    refine ok_getR (q := 191) (ci := 11) (k := 6) (x := F a0 6) dX11_digest_188 rfl fo_X11_65 h0 rfl ?_
    refine ok_lload_n (q := 192) 0 dX11_digest_191 rfl rfl rfl ?_
    refine fi_callV2P (q := 195) (as := [ql x1_10]) (st := []) dX11_digest_192 rfl mo_X11_333 h_11 rfl (Nat.le_of_ble_eq_true rfl) rfl rfl (Nat.le_of_ble_eq_true rfl) (Nat.le_of_ble_eq_true rfl) (Nat.le_of_ble_eq_true rfl) (Nat.zero_le _) (Nat.zero_le _) (fun _ hr => ct_X9_digestFrom (N := N) h_11 hr) (fun v_12 => ?_)
    refine ok_goto (q := 199) dX11_digest_195 rfl ?_
    exact fun g => ok_pick [1] rfl (w_X11_digest_b199 (N := N) h0 g)
def X11_digest_b47 (N : Nat) (K : am_K) (F : am_F) (a0 : Nat) (k6 : am_I → Int → Int → Option (Int × am_I)) (I : am_I) (x3 : Int) (s0 : Int) (s1 : Int) : Option (Int × am_I) :=
  am_lt (am_wL (s1 + s0)) (fun x1_1 => if am_inI (x3 + 1) then am_lt (x3 + 1) (fun x3_3 => k6 I x1_1 x3_3) else none)
theorem w_X11_digest_b47 {η : am_E} {l : Launch} {N : Nat} {n : Nat} {K : am_K} {I : am_I} {F : am_F} {a0 : Nat} {r0 : Int × am_I} {k6 : am_I → Int → Int → Option (Int × am_I)} {x3 : Int} {s0 : Int} {s1 : Int} (h0 : (K a0).1 = 11) (H6 : ∀ (I : am_I) (x1 : Int) (x3 : Int), k6 I x1 x3 = some r0 → Ok η l M_X11_digest (am_qm η (am_pS 2 r0 n K F) 0 0) 6 [(0, qr a0), (1, ql x1), (3, qi x3)] [] n K I F 0 0) : X11_digest_b47 N K F a0 k6 I x3 s0 s1 = some r0 → Ok η l M_X11_digest (am_qm η (am_pS 2 r0 n K F) 0 0) 47 [(0, qr a0), (3, qi x3)] [qi s0, ql s1] n K I F 0 0 := by
  unfold X11_digest_b47
  refine ok_i2l (q := 48) dX11_digest_47 rfl ?_
  refine ok_laddW (q := 49) dX11_digest_48 rfl ?_
  refine ok_lstore_nL (q := 50) (fun x1_1 => [(1, ql x1_1), (0, qr a0), (3, qi x3)]) dX11_digest_49 rfl rfl (Nat.le_of_ble_eq_true rfl) (fun _ => rfl) (fun x1_1 => ?_)
  refine fi_chk (fun h_2 => ?_)
  refine ok_iincL (q := 53) (fun x3_3 => [(3, qi x3_3), (1, ql x1_1), (0, qr a0)]) 2 dX11_digest_50 rfl rfl h_2 (Nat.le_of_ble_eq_true rfl) (fun _ => rfl) (fun x3_3 => ?_)
  refine ok_goto (q := 6) dX11_digest_53 rfl ?_
  exact fun g => ok_pick [2, 1, 0] rfl (H6 _ _ _ g)
def X11_digest_s6 (N : Nat) (K : am_K) (F : am_F) (a0 : Nat) (k6 : am_I → Int → Int → Option (Int × am_I)) (I : am_I) (x1 : Int) (x3 : Int) : Option (Int × am_I) :=
  if (K (F a0 0)).1 = 1 then if x3 < (I (F a0 0) 2) then (if (K (F (F a0 0) 4)).1 = 101 then if (0 : Int) ≤ x3 ∧ x3 < (K (F (F a0 0) 4)).2 then if (I (F (F a0 0) 4) x3) = 0 then (if (K (F a0 2)).1 = 6 then if (K (F (F a0 2) 0)).1 = 100 then if (0 : Int) ≤ x3 ∧ x3 < (K (F (F a0 2) 0)).2 then X11_digest_b47 N K F a0 k6 I x3 (I (F (F a0 2) 0) x3) (am_wL (x1 * 31)) else none else none else none) else (X11_digest_b47 N K F a0 k6 I x3 (-1) (am_wL (x1 * 31))) else none else none) else (if (K (F a0 2)).1 = 6 then if (K (F (F a0 2) 1)).1 = 100 then if (0 : Int) ≤ 0 ∧ 0 < (K (F (F a0 2) 1)).2 then am_lt (am_wL ((am_wL (x1 * 31)) + (I (F (F a0 2) 1) 0))) (fun x1_5 => if (0 : Int) ≤ 1 ∧ 1 < (K (F (F a0 2) 1)).2 then am_lt (am_wL ((am_wL (x1_5 * 31)) + (I (F (F a0 2) 1) 1))) (fun x1_7 => am_cl (X11_countOpen N K F a0 I) (fun v_8 I_9 => am_lt (am_wL ((am_wL (x1_7 * 31)) + (I_9 (F a0 2) 2))) (fun x1_10 => if v_8 = 0 then (X11_digest_b124 N K F a0 I_9 v_8 1 (am_wL (x1_10 * 31))) else (X11_digest_b124 N K F a0 I_9 v_8 0 (am_wL (x1_10 * 31)))))) else none) else none else none else none) else none
theorem w_X11_digest_s6 {η : am_E} {l : Launch} {N : Nat} {n : Nat} {K : am_K} {I : am_I} {F : am_F} {a0 : Nat} {r0 : Int × am_I} {k6 : am_I → Int → Int → Option (Int × am_I)} {x1 : Int} {x3 : Int} (h0 : (K a0).1 = 11) (H6 : ∀ (I : am_I) (x1 : Int) (x3 : Int), k6 I x1 x3 = some r0 → Ok η l M_X11_digest (am_qm η (am_pS 2 r0 n K F) 0 0) 6 [(0, qr a0), (1, ql x1), (3, qi x3)] [] n K I F 0 0) : X11_digest_s6 N K F a0 k6 I x1 x3 = some r0 → Ok η l M_X11_digest (am_qm η (am_pS 2 r0 n K F) 0 0) 6 [(0, qr a0), (1, ql x1), (3, qi x3)] [] n K I F 0 0 := by
  unfold X11_digest_s6
  refine ok_iload_n (q := 7) 2 dX11_digest_6 rfl rfl rfl ?_
  refine ok_aload_n (q := 8) 0 dX11_digest_7 rfl rfl rfl ?_
  refine ok_getR (q := 11) (ci := 11) (k := 0) (x := F a0 0) dX11_digest_8 rfl fo_X11_12 h0 rfl ?_
  refine fi_chk (fun h_1 => ?_)
  refine ok_getI (q := 14) (ci := 1) (k := 2) (x := I (F a0 0) 2) dX11_digest_11 rfl fo_X11_95 h_1 rfl ?_
  refine ok_icmp_ge (q := 56) (q2 := 17) dX11_digest_14 rfl rfl ?_ ?_
  · skip
    refine ok_lload_n (q := 57) 1 dX11_digest_56 rfl rfl rfl ?_
    refine ok_ldc2 (q := 60) (x := 31) (v := 31) dX11_digest_57 rfl kc_X11_328 rfl (by decide) ?_
    refine ok_lmulW (q := 61) dX11_digest_60 rfl ?_
    refine ok_aload_n (q := 62) 0 dX11_digest_61 rfl rfl rfl ?_
    refine ok_getR (q := 65) (ci := 11) (k := 2) (x := F a0 2) dX11_digest_62 rfl fo_X11_26 h0 rfl ?_
    refine fi_chk (fun h_2 => ?_)
    refine ok_getR (q := 68) (ci := 6) (k := 1) (x := F (F a0 2) 1) dX11_digest_65 rfl fo_X11_133 h_2 rfl ?_
    refine ok_iconst (q := 69) (x := 0) dX11_digest_68 rfl rfl (by decide) ?_
    refine fi_chk (fun h_3 => ?_)
    refine fi_chk (fun h_4 => ?_)
    refine ok_iaload (q := 70) (v := I (F (F a0 2) 1) 0) dX11_digest_69 rfl h_3 h_4.1 h_4.2 rfl ?_
    refine ok_i2l (q := 71) dX11_digest_70 rfl ?_
    refine ok_laddW (q := 72) dX11_digest_71 rfl ?_
    refine ok_lstore_nL (q := 73) (fun x1_5 => [(1, ql x1_5), (0, qr a0), (3, qi x3)]) dX11_digest_72 rfl rfl (Nat.le_of_ble_eq_true rfl) (fun _ => rfl) (fun x1_5 => ?_)
    refine ok_lload_n (q := 74) 0 dX11_digest_73 rfl rfl rfl ?_
    refine ok_ldc2 (q := 77) (x := 31) (v := 31) dX11_digest_74 rfl kc_X11_328 rfl (by decide) ?_
    refine ok_lmulW (q := 78) dX11_digest_77 rfl ?_
    refine ok_aload_n (q := 79) 1 dX11_digest_78 rfl rfl rfl ?_
    refine ok_getR (q := 82) (ci := 11) (k := 2) (x := F a0 2) dX11_digest_79 rfl fo_X11_26 h0 rfl ?_
    refine ok_getR (q := 85) (ci := 6) (k := 1) (x := F (F a0 2) 1) dX11_digest_82 rfl fo_X11_133 h_2 rfl ?_
    refine ok_iconst (q := 86) (x := 1) dX11_digest_85 rfl rfl (by decide) ?_
    refine fi_chk (fun h_6 => ?_)
    refine ok_iaload (q := 87) (v := I (F (F a0 2) 1) 1) dX11_digest_86 rfl h_3 h_6.1 h_6.2 rfl ?_
    refine ok_i2l (q := 88) dX11_digest_87 rfl ?_
    refine ok_laddW (q := 89) dX11_digest_88 rfl ?_
    refine ok_lstore_nL (q := 90) (fun x1_7 => [(1, ql x1_7), (0, qr a0), (3, qi x3)]) dX11_digest_89 rfl rfl (Nat.le_of_ble_eq_true rfl) (fun _ => rfl) (fun x1_7 => ?_)
    refine ok_aload_n (q := 91) 1 dX11_digest_90 rfl rfl rfl ?_
    refine fi_callV1S (q := 94) (as := []) (st := []) dX11_digest_91 rfl mo_X11_210 h0 rfl (Nat.le_of_ble_eq_true rfl) rfl rfl (Nat.le_of_ble_eq_true rfl) (Nat.le_of_ble_eq_true rfl) (Nat.le_of_ble_eq_true rfl) (Nat.zero_le _) (Nat.zero_le _) (fun _ hr => ct_X11_countOpen (N := N) h0 hr) (fun v_8 I_9 => ?_)
    refine ok_istore_n (q := 95) (ls' := [(3, qi v_8), (1, ql x1_7), (0, qr a0)]) dX11_digest_94 rfl rfl (Nat.le_of_ble_eq_true rfl) rfl ?_
    refine ok_lload_n (q := 96) 1 dX11_digest_95 rfl rfl rfl ?_
    refine ok_ldc2 (q := 99) (x := 31) (v := 31) dX11_digest_96 rfl kc_X11_328 rfl (by decide) ?_
    refine ok_lmulW (q := 100) dX11_digest_99 rfl ?_
    refine ok_aload_n (q := 101) 2 dX11_digest_100 rfl rfl rfl ?_
    refine ok_getR (q := 104) (ci := 11) (k := 2) (x := F a0 2) dX11_digest_101 rfl fo_X11_26 h0 rfl ?_
    refine ok_getI (q := 107) (ci := 6) (k := 2) (x := I_9 (F a0 2) 2) dX11_digest_104 rfl fo_X11_136 h_2 rfl ?_
    refine ok_i2l (q := 108) dX11_digest_107 rfl ?_
    refine ok_laddW (q := 109) dX11_digest_108 rfl ?_
    refine ok_lstore_nL (q := 110) (fun x1_10 => [(1, ql x1_10), (3, qi v_8), (0, qr a0)]) dX11_digest_109 rfl rfl (Nat.le_of_ble_eq_true rfl) (fun _ => rfl) (fun x1_10 => ?_)
    refine ok_lload_n (q := 111) 0 dX11_digest_110 rfl rfl rfl ?_
    refine ok_ldc2 (q := 114) (x := 31) (v := 31) dX11_digest_111 rfl kc_X11_328 rfl (by decide) ?_
    refine ok_lmulW (q := 115) dX11_digest_114 rfl ?_
    refine ok_iload_n (q := 116) 1 dX11_digest_115 rfl rfl rfl ?_
    refine ok_if_ne (q := 123) (q2 := 119) dX11_digest_116 rfl rfl ?_ ?_
    · skip
      refine ok_iconst (q := 124) (x := 0) dX11_digest_123 rfl rfl (by decide) ?_
      exact fun g => ok_pick [2, 1] rfl (w_X11_digest_b124 (N := N) h0 g)
    · skip
      refine ok_iconst (q := 120) (x := 1) dX11_digest_119 rfl rfl (by decide) ?_
      refine ok_goto (q := 124) dX11_digest_120 rfl ?_
      exact fun g => ok_pick [2, 1] rfl (w_X11_digest_b124 (N := N) h0 g)
  · skip
    refine ok_lload_n (q := 18) 1 dX11_digest_17 rfl rfl rfl ?_
    refine ok_ldc2 (q := 21) (x := 31) (v := 31) dX11_digest_18 rfl kc_X11_328 rfl (by decide) ?_
    refine ok_lmulW (q := 22) dX11_digest_21 rfl ?_
    refine ok_aload_n (q := 23) 0 dX11_digest_22 rfl rfl rfl ?_
    refine ok_getR (q := 26) (ci := 11) (k := 0) (x := F a0 0) dX11_digest_23 rfl fo_X11_12 h0 rfl ?_
    refine ok_getR (q := 29) (ci := 1) (k := 4) (x := F (F a0 0) 4) dX11_digest_26 rfl fo_X11_330 h_1 rfl ?_
    refine ok_iload_n (q := 30) 2 dX11_digest_29 rfl rfl rfl ?_
    refine fi_chk (fun h_11 => ?_)
    refine fi_chk (fun h_12 => ?_)
    refine ok_baload (q := 31) (v := I (F (F a0 0) 4) x3) dX11_digest_30 rfl h_11 h_12.1 h_12.2 rfl ?_
    refine ok_if_eq (q := 38) (q2 := 34) dX11_digest_31 rfl rfl ?_ ?_
    · skip
      refine ok_aload_n (q := 39) 0 dX11_digest_38 rfl rfl rfl ?_
      refine ok_getR (q := 42) (ci := 11) (k := 2) (x := F a0 2) dX11_digest_39 rfl fo_X11_26 h0 rfl ?_
      refine fi_chk (fun h_13 => ?_)
      refine ok_getR (q := 45) (ci := 6) (k := 0) (x := F (F a0 2) 0) dX11_digest_42 rfl fo_X11_108 h_13 rfl ?_
      refine ok_iload_n (q := 46) 2 dX11_digest_45 rfl rfl rfl ?_
      refine fi_chk (fun h_14 => ?_)
      refine fi_chk (fun h_15 => ?_)
      refine ok_iaload (q := 47) (v := I (F (F a0 2) 0) x3) dX11_digest_46 rfl h_14 h_15.1 h_15.2 rfl ?_
      exact fun g => ok_pick [0, 2] rfl (w_X11_digest_b47 (N := N) h0 H6 g)
    · skip
      refine ok_iconst (q := 35) (x := -1) dX11_digest_34 rfl rfl (by decide) ?_
      refine ok_goto (q := 47) dX11_digest_35 rfl ?_
      exact fun g => ok_pick [0, 2] rfl (w_X11_digest_b47 (N := N) h0 H6 g)
def X11_digest_h6 (N : Nat) (K : am_K) (F : am_F) (a0 : Nat) : Nat → am_I → Int → Int → Option (Int × am_I) := am_it (fun kh => X11_digest_s6 N K F a0 kh) (fun _ _ _ => none)
theorem w_X11_digest_h6 {η : am_E} {l : Launch} {N : Nat} {n : Nat} {K : am_K} {F : am_F} {a0 : Nat} {r0 : Int × am_I} (h0 : (K a0).1 = 11) (f : Nat) : ∀ (I : am_I) (x1 : Int) (x3 : Int), X11_digest_h6 N K F a0 f I x1 x3 = some r0 → Ok η l M_X11_digest (am_qm η (am_pS 2 r0 n K F) 0 0) 6 [(0, qr a0), (1, ql x1), (3, qi x3)] [] n K I F 0 0 := by
  induction f with
  | zero => intro I x1 x3 g; exact fi_none g
  | succ f ih => intro I x1 x3 g; exact w_X11_digest_s6 (N := N) h0 ih g
def X11_digest (N : Nat) (K : am_K) (F : am_F) (a0 : Nat) (I : am_I) : Option (Int × am_I) :=
  X11_digest_h6 N K F a0 N I 7 0
theorem w_X11_digest {η : am_E} {l : Launch} {N : Nat} {n : Nat} {K : am_K} {I : am_I} {F : am_F} {a0 : Nat} {r0 : Int × am_I} (h0 : (K a0).1 = 11) : X11_digest N K F a0 I = some r0 → Ok η l M_X11_digest (am_qm η (am_pS 2 r0 n K F) 0 0) 0 [(0, qr a0)] [] n K I F 0 0 := by
  unfold X11_digest
  refine ok_ldc2 (q := 3) (x := 7) (v := 7) dX11_digest_0 rfl kc_X11_326 rfl (by decide) ?_
  refine ok_lstore_n (q := 4) (ls' := [(1, ql 7), (0, qr a0)]) dX11_digest_3 rfl rfl (Nat.le_of_ble_eq_true rfl) rfl ?_
  refine ok_iconst (q := 5) (x := 0) dX11_digest_4 rfl rfl (by decide) ?_
  refine ok_istore_n (q := 6) (ls' := [(3, qi 0), (1, ql 7), (0, qr a0)]) dX11_digest_5 rfl rfl (Nat.le_of_ble_eq_true rfl) rfl ?_
  exact fun g => ok_pick [2, 1, 0] rfl (w_X11_digest_h6 (N := N) h0 N _ _ _ g)
theorem ct_X11_digest {η : am_E} {l : Launch} {N : Nat} {n : Nat} {K : am_K} {I : am_I} {F : am_F} {a0 : Nat} {r0 : Int × am_I} (h0 : (K a0).1 = 11) : X11_digest N K F a0 I = some r0 → am_Ct η l yX11_digest cX11_digest 4 (some .long) 7 166 0 0 [qr a0] n K I F (am_pS 2 r0 n K F) := fun g => am_Ct.of false (by decide) (by decide) (Nat.le_of_ble_eq_true rfl) (fun _ => w_X11_digest (N := N) h0 g)
