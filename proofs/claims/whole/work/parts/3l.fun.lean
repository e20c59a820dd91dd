def M_X12_bestOf : am_M := (yX12_bestOf.cls, cX12_bestOf, 4, (some .int), am_room 5 120 0 0, false)
def X12_bestOf_b116 (N : Nat) (K : am_K) (F : am_F) (a0 : Nat) (I : am_I) (x3 : Int) : Option (Int × am_I) :=
  some (x3, I)
theorem w_X12_bestOf_b116 {η : am_E} {l : Launch} {N : Nat} {n : Nat} {K : am_K} {I : am_I} {F : am_F} {a0 : Nat} {r0 : Int × am_I} {x3 : Int} (h0 : (K a0).1 = 12) : X12_bestOf_b116 N K F a0 I x3 = some r0 → Ok η l M_X12_bestOf (am_qm η (am_pS 1 r0 n K F) 0 0) 116 [(0, qr a0), (3, qi x3)] [] n K I F 0 0 := by
  unfold X12_bestOf_b116
  refine ok_iload_n (q := 117) 1 dX12_bestOf_116 rfl rfl rfl ?_
  exact fi_ireturnS dX12_bestOf_117 rfl
def X12_bestOf_b118 (N : Nat) (K : am_K) (F : am_F) (a0 : Nat) (k23 : am_I → Int → Int → Int → Option (Int × am_I)) (I : am_I) (x1 : Int) (x2 : Int) (x3 : Int) : Option (Int × am_I) :=
  if am_inI (x3 + 1) then am_lt (x3 + 1) (fun x3_2 => k23 I x1 x2 x3_2) else none
theorem w_X12_bestOf_b118 {η : am_E} {l : Launch} {N : Nat} {n : Nat} {K : am_K} {I : am_I} {F : am_F} {a0 : Nat} {r0 : Int × am_I} {k23 : am_I → Int → Int → Int → Option (Int × am_I)} {x1 : Int} {x2 : Int} {x3 : Int} (h0 : (K a0).1 = 12) (H23 : ∀ (I : am_I) (x1 : Int) (x2 : Int) (x3 : Int), k23 I x1 x2 x3 = some r0 → Ok η l M_X12_bestOf (am_qm η (am_pS 1 r0 n K F) 0 0) 23 [(0, qr a0), (1, qi x1), (2, qi x2), (3, qi x3)] [] n K I F 0 0) : X12_bestOf_b118 N K F a0 k23 I x1 x2 x3 = some r0 → Ok η l M_X12_bestOf (am_qm η (am_pS 1 r0 n K F) 0 0) 118 [(0, qr a0), (1, qi x1), (2, qi x2), (3, qi x3)] [] n K I F 0 0 := by
  unfold X12_bestOf_b118
  refine fi_chk (fun h_1 => ?_)
  refine ok_iincL (q := 121) (fun x3_2 => [(3, qi x3_2), (0, qr a0), (1, qi x1), (2, qi x2)]) 3 dX12_bestOf_118 rfl rfl h_1 (Nat.le_of_ble_eq_true rfl) (fun _ => rfl) (fun x3_2 => ?_)
  refine ok_goto (q := 23) dX12_bestOf_121 rfl ?_
  exact fun g => ok_pick [1, 2, 3, 0] rfl (H23 _ _ _ _ g)
def X12_bestOf_s23 (N : Nat) (K : am_K) (F : am_F) (a0 : Nat) (k23 : am_I → Int → Int → Int → Option (Int × am_I)) (I : am_I) (x1 : Int) (x2 : Int) (x3 : Int) : Option (Int × am_I) :=
  am_cq (X12_all N K F I a0) (fun v_1 => if x3 < v_1 then (if (K (F a0 35)).1 = 101 then if (0 : Int) ≤ x3 ∧ x3 < (K (F a0 35)).2 then if (I (F a0 35) x3) = 0 then (X12_bestOf_b118 N K F a0 k23 I x1 x2 x3) else (am_cl (X12_make N K F a0 I (F a0 20) x2 x3) (fun _ I_4 => am_cq (X12_reached N K F I_4 a0 x2 (F a0 25)) (fun v_5 => if (K (F a0 25)).1 = 100 then if (0 : Int) ≤ x1 ∧ x1 < (K (F a0 25)).2 then if v_5 = (I_4 (F a0 25) x1) then (if 0 < (I_4 (F a0 25) x1) then (if (I_4 a0 17) ≤ 0 then (if am_inI (1 - x2) then am_cq (X12_placeOf N K F I_4 a0 (F a0 16) (1 - x2)) (fun v_9 => if am_inI (v_9) then if (K (F a0 26)).1 = 100 then if (0 : Int) ≤ v_9 ∧ v_9 < (K (F a0 26)).2 then if (0 : Int) ≤ x1 ∧ x1 < (K (F a0 26)).2 then if (I_4 (F a0 26) v_9) < (I_4 (F a0 26) x1) then (X12_bestOf_b116 N K F a0 I_4 x3) else (X12_bestOf_b118 N K F a0 k23 I_4 x1 x2 x3) else none else none else none else none) else none) else (X12_bestOf_b116 N K F a0 I_4 x3)) else (X12_bestOf_b116 N K F a0 I_4 x3)) else (X12_bestOf_b118 N K F a0 k23 I_4 x1 x2 x3) else none else none))) else none else none) else (some ((-1), I)))
theorem w_X12_bestOf_s23 {η : am_E} {l : Launch} {N : Nat} {n : Nat} {K : am_K} {I : am_I} {F : am_F} {a0 : Nat} {r0 : Int × am_I} {k23 : am_I → Int → Int → Int → Option (Int × am_I)} {x1 : Int} {x2 : Int} {x3 : Int} (h0 : (K a0).1 = 12) (H23 : ∀ (I : am_I) (x1 : Int) (x2 : Int) (x3 : Int), k23 I x1 x2 x3 = some r0 → Ok η l M_X12_bestOf (am_qm η (am_pS 1 r0 n K F) 0 0) 23 [(0, qr a0), (1, qi x1), (2, qi x2), (3, qi x3)] [] n K I F 0 0) : X12_bestOf_s23 N K F a0 k23 I x1 x2 x3 = some r0 → Ok η l M_X12_bestOf (am_qm η (am_pS 1 r0 n K F) 0 0) 23 [(0, qr a0), (1, qi x1), (2, qi x2), (3, qi x3)] [] n K I F 0 0 := by
  unfold X12_bestOf_s23
  refine ok_iload_n (q := 24) 3 dX12_bestOf_23 rfl rfl rfl ?_
  refine ok_aload_n (q := 25) 0 dX12_bestOf_24 rfl rfl rfl ?_
  refine fi_callV1P (q := 28) (as := []) (st := [qi x3]) dX12_bestOf_25 rfl mo_X12_133 h0 rfl (Nat.le_of_ble_eq_true rfl) rfl rfl (Nat.le_of_ble_eq_true rfl) (Nat.le_of_ble_eq_true rfl) (Nat.le_of_ble_eq_true rfl) (Nat.zero_le _) (Nat.zero_le _) (fun _ hr => ct_X12_all (N := N) h0 hr) (fun v_1 => ?_)
  refine ok_icmp_ge (q := 124) (q2 := 31) dX12_bestOf_28 rfl rfl ?_ ?_
  · skip
    refine ok_iconst (q := 125) (x := -1) dX12_bestOf_124 rfl rfl (by decide) ?_
    exact fi_ireturnS dX12_bestOf_125 rfl
  · skip
    refine ok_aload_n (q := 32) 0 dX12_bestOf_31 rfl rfl rfl ?_
    refine ok_getR (q := 35) (ci := 12) (k := 35) (x := F a0 35) dX12_bestOf_32 rfl fo_X12_65 h0 rfl ?_
    refine ok_iload_n (q := 36) 3 dX12_bestOf_35 rfl rfl rfl ?_
    refine fi_chk (fun h_2 => ?_)
    refine fi_chk (fun h_3 => ?_)
    refine ok_baload (q := 37) (v := I (F a0 35) x3) dX12_bestOf_36 rfl h_2 h_3.1 h_3.2 rfl ?_
    refine ok_if_ne (q := 43) (q2 := 40) dX12_bestOf_37 rfl rfl ?_ ?_
    · skip
      refine ok_aload_n (q := 44) 0 dX12_bestOf_43 rfl rfl rfl ?_
      refine ok_aload_n (q := 45) 0 dX12_bestOf_44 rfl rfl rfl ?_
      refine ok_getR (q := 48) (ci := 12) (k := 20) (x := F a0 20) dX12_bestOf_45 rfl fo_X12_29 h0 rfl ?_
      refine ok_iload_n (q := 49) 2 dX12_bestOf_48 rfl rfl rfl ?_
      refine ok_iload_n (q := 50) 3 dX12_bestOf_49 rfl rfl rfl ?_
      refine fi_callV0S (q := 53) (as := [qr (F a0 20), qi x2, qi x3]) (st := []) dX12_bestOf_50 rfl mo_X12_172 h0 rfl (Nat.le_of_ble_eq_true rfl) rfl rfl (Nat.le_of_ble_eq_true rfl) (Nat.le_of_ble_eq_true rfl) (Nat.le_of_ble_eq_true rfl) (Nat.zero_le _) (Nat.zero_le _) (fun _ hr => ct_X12_make (N := N) h0 hr) (fun _ I_4 => ?_)
      refine ok_aload_n (q := 54) 0 dX12_bestOf_53 rfl rfl rfl ?_
      refine ok_iload_n (q := 55) 2 dX12_bestOf_54 rfl rfl rfl ?_
      refine ok_aload_n (q := 56) 0 dX12_bestOf_55 rfl rfl rfl ?_
      refine ok_getR (q := 59) (ci := 12) (k := 25) (x := F a0 25) dX12_bestOf_56 rfl fo_X12_33 h0 rfl ?_
      refine fi_callV1P (q := 62) (as := [qi x2, qr (F a0 25)]) (st := []) dX12_bestOf_59 rfl mo_X12_241 h0 rfl (Nat.le_of_ble_eq_true rfl) rfl rfl (Nat.le_of_ble_eq_true rfl) (Nat.le_of_ble_eq_true rfl) (Nat.le_of_ble_eq_true rfl) (Nat.zero_le _) (Nat.zero_le _) (fun _ hr => ct_X12_reached (N := N) h0 hr) (fun v_5 => ?_)
      refine ok_aload_n (q := 63) 0 dX12_bestOf_62 rfl rfl rfl ?_
      refine ok_getR (q := 66) (ci := 12) (k := 25) (x := F a0 25) dX12_bestOf_63 rfl fo_X12_33 h0 rfl ?_
      refine ok_iload_n (q := 67) 1 dX12_bestOf_66 rfl rfl rfl ?_
      refine fi_chk (fun h_6 => ?_)
      refine fi_chk (fun h_7 => ?_)
      refine ok_iaload (q := 68) (v := I_4 (F a0 25) x1) dX12_bestOf_67 rfl h_6 h_7.1 h_7.2 rfl ?_
      refine ok_icmp_eq (q := 74) (q2 := 71) dX12_bestOf_68 rfl rfl ?_ ?_
      · skip
        refine ok_aload_n (q := 75) 0 dX12_bestOf_74 rfl rfl rfl ?_
        refine ok_getR (q := 78) (ci := 12) (k := 25) (x := F a0 25) dX12_bestOf_75 rfl fo_X12_33 h0 rfl ?_
        refine ok_iload_n (q := 79) 1 dX12_bestOf_78 rfl rfl rfl ?_
        refine ok_iaload (q := 80) (v := I_4 (F a0 25) x1) dX12_bestOf_79 rfl h_6 h_7.1 h_7.2 rfl ?_
        refine ok_if_le (q := 116) (q2 := 83) dX12_bestOf_80 rfl rfl ?_ ?_
        · skip
          exact fun g => ok_pick [0, 3] rfl (w_X12_bestOf_b116 (N := N) h0 g)
        · skip
          refine ok_aload_n (q := 84) 0 dX12_bestOf_83 rfl rfl rfl ?_
          refine ok_getI (q := 87) (ci := 12) (k := 17) (x := I_4 a0 17) dX12_bestOf_84 rfl fo_X12_148 h0 rfl ?_
          refine ok_if_gt (q := 116) (q2 := 90) dX12_bestOf_87 rfl rfl ?_ ?_
          · skip
            exact fun g => ok_pick [0, 3] rfl (w_X12_bestOf_b116 (N := N) h0 g)
          · skip
            refine ok_aload_n (q := 91) 0 dX12_bestOf_90 rfl rfl rfl ?_
            refine ok_getR (q := 94) (ci := 12) (k := 26) (x := F a0 26) dX12_bestOf_91 rfl fo_X12_36 h0 rfl ?_
            refine ok_aload_n (q := 95) 0 dX12_bestOf_94 rfl rfl rfl ?_
            refine ok_aload_n (q := 96) 0 dX12_bestOf_95 rfl rfl rfl ?_
            refine ok_getR (q := 99) (ci := 12) (k := 16) (x := F a0 16) dX12_bestOf_96 rfl fo_X12_26 h0 rfl ?_
            refine ok_iconst (q := 100) (x := 1) dX12_bestOf_99 rfl rfl (by decide) ?_
            refine ok_iload_n (q := 101) 2 dX12_bestOf_100 rfl rfl rfl ?_
            refine fi_chk (fun h_8 => ?_)
            refine ok_isub (q := 102) dX12_bestOf_101 rfl h_8 ?_
            refine fi_callV2P (q := 105) (as := [qr (F a0 16), qi (1 - x2)]) (st := [qr (F a0 26)]) dX12_bestOf_102 rfl mo_X12_209 h0 rfl (Nat.le_of_ble_eq_true rfl) rfl rfl (Nat.le_of_ble_eq_true rfl) (Nat.le_of_ble_eq_true rfl) (Nat.le_of_ble_eq_true rfl) (Nat.zero_le _) (Nat.zero_le _) (fun _ hr => ct_X12_placeOf (N := N) h0 hr) (fun v_9 => ?_)
            refine fi_chk (fun h_10 => ?_)
            refine ok_l2i (q := 106) dX12_bestOf_105 rfl h_10 ?_
            refine fi_chk (fun h_11 => ?_)
            refine fi_chk (fun h_12 => ?_)
            refine ok_iaload (q := 107) (v := I_4 (F a0 26) v_9) dX12_bestOf_106 rfl h_11 h_12.1 h_12.2 rfl ?_
            refine ok_aload_n (q := 108) 0 dX12_bestOf_107 rfl rfl rfl ?_
            refine ok_getR (q := 111) (ci := 12) (k := 26) (x := F a0 26) dX12_bestOf_108 rfl fo_X12_36 h0 rfl ?_
            refine ok_iload_n (q := 112) 1 dX12_bestOf_111 rfl rfl rfl ?_
            refine fi_chk (fun h_13 => ?_)
            refine ok_iaload (q := 113) (v := I_4 (F a0 26) x1) dX12_bestOf_112 rfl h_11 h_13.1 h_13.2 rfl ?_
            refine ok_icmp_ge (q := 118) (q2 := 116) dX12_bestOf_113 rfl rfl ?_ ?_
            · skip
              exact fun g => ok_pick [0, 1, 2, 3] rfl (w_X12_bestOf_b118 (N := N) h0 H23 g)
            · skip
              exact fun g => ok_pick [0, 3] rfl (w_X12_bestOf_b116 (N := N) h0 g)
      · skip
        refine ok_goto (q := 118) dX12_bestOf_71 rfl ?_
        exact fun g => ok_pick [0, 1, 2, 3] rfl (w_X12_bestOf_b118 (N := N) h0 H23 g)
    · skip
      refine ok_goto (q := 118) dX12_bestOf_40 rfl ?_
      exact fun g => ok_pick [0, 1, 2, 3] rfl (w_X12_bestOf_b118 (N := N) h0 H23 g)
def X12_bestOf_h23 (N : Nat) (K : am_K) (F : am_F) (a0 : Nat) : Nat → am_I → Int → Int → Int → Option (Int × am_I) := am_it (fun kh => X12_bestOf_s23 N K F a0 kh) (fun _ _ _ _ => none)
theorem w_X12_bestOf_h23 {η : am_E} {l : Launch} {N : Nat} {n : Nat} {K : am_K} {F : am_F} {a0 : Nat} {r0 : Int × am_I} (h0 : (K a0).1 = 12) (f : Nat) : ∀ (I : am_I) (x1 : Int) (x2 : Int) (x3 : Int), X12_bestOf_h23 N K F a0 f I x1 x2 x3 = some r0 → Ok η l M_X12_bestOf (am_qm η (am_pS 1 r0 n K F) 0 0) 23 [(0, qr a0), (1, qi x1), (2, qi x2), (3, qi x3)] [] n K I F 0 0 := by
  induction f with
  | zero => intro I x1 x2 x3 g; exact fi_none g
  | succ f ih => intro I x1 x2 x3 g; exact w_X12_bestOf_s23 (N := N) h0 ih g
def X12_bestOf (N : Nat) (K : am_K) (F : am_F) (a0 : Nat) (I : am_I) (x1 : Int) : Option (Int × am_I) :=
  am_cl (X12_layOut N K F a0 I x1) (fun v_1 I_2 => am_cl (X12_mayMove N K F a0 I_2 (F a0 20) v_1 (F a0 35)) (fun v_3 I_4 => X12_bestOf_h23 N K F a0 N I_4 x1 v_1 0))
theorem w_X12_bestOf {η : am_E} {l : Launch} {N : Nat} {n : Nat} {K : am_K} {I : am_I} {F : am_F} {a0 : Nat} {r0 : Int × am_I} {x1 : Int} (h0 : (K a0).1 = 12) : X12_bestOf N K F a0 I x1 = some r0 → Ok η l M_X12_bestOf (am_qm η (am_pS 1 r0 n K F) 0 0) 0 [(0, qr a0), (1, qi x1)] [] n K I F 0 0 := by
  unfold X12_bestOf
  refine ok_aload_n (q := 1) 0 dX12_bestOf_0 rfl rfl rfl ?_
  refine ok_iload_n (q := 2) 1 dX12_bestOf_1 rfl rfl rfl ?_
  refine ok_i2l (q := 3) dX12_bestOf_2 rfl ?_
  refine fi_callV1S (q := 6) (as := [ql x1]) (st := []) dX12_bestOf_3 rfl mo_X12_197 h0 rfl (Nat.le_of_ble_eq_true rfl) rfl rfl (Nat.le_of_ble_eq_true rfl) (Nat.le_of_ble_eq_true rfl) (Nat.le_of_ble_eq_true rfl) (Nat.zero_le _) (Nat.zero_le _) (fun _ hr => ct_X12_layOut (N := N) h0 hr) (fun v_1 I_2 => ?_)
  refine ok_istore_n (q := 7) (ls' := [(2, qi v_1), (0, qr a0), (1, qi x1)]) dX12_bestOf_6 rfl rfl (Nat.le_of_ble_eq_true rfl) rfl ?_
  refine ok_aload_n (q := 8) 1 dX12_bestOf_7 rfl rfl rfl ?_
  refine ok_aload_n (q := 9) 1 dX12_bestOf_8 rfl rfl rfl ?_
  refine ok_getR (q := 12) (ci := 12) (k := 20) (x := F a0 20) dX12_bestOf_9 rfl fo_X12_29 h0 rfl ?_
  refine ok_iload_n (q := 13) 0 dX12_bestOf_12 rfl rfl rfl ?_
  refine ok_aload_n (q := 14) 1 dX12_bestOf_13 rfl rfl rfl ?_
  refine ok_getR (q := 17) (ci := 12) (k := 35) (x := F a0 35) dX12_bestOf_14 rfl fo_X12_65 h0 rfl ?_
  refine fi_callV1S (q := 20) (as := [qr (F a0 20), qi v_1, qr (F a0 35)]) (st := []) dX12_bestOf_17 rfl mo_X12_201 h0 rfl (Nat.le_of_ble_eq_true rfl) rfl rfl (Nat.le_of_ble_eq_true rfl) (Nat.le_of_ble_eq_true rfl) (Nat.le_of_ble_eq_true rfl) (Nat.zero_le _) (Nat.zero_le _) (fun _ hr => ct_X12_mayMove (N := N) h0 hr) (fun v_3 I_4 => ?_)
  refine ok_pop (q := 21) dX12_bestOf_20 rfl rfl ?_
  refine ok_iconst (q := 22) (x := 0) dX12_bestOf_21 rfl rfl (by decide) ?_
  refine ok_istore_n (q := 23) (ls' := [(3, qi 0), (2, qi v_1), (0, qr a0), (1, qi x1)]) dX12_bestOf_22 rfl rfl (Nat.le_of_ble_eq_true rfl) rfl ?_
  exact fun g => ok_pick [2, 3, 1, 0] rfl (w_X12_bestOf_h23 (N := N) h0 N _ _ _ _ g)
theorem ct_X12_bestOf {η : am_E} {l : Launch} {N : Nat} {n : Nat} {K : am_K} {I : am_I} {F : am_F} {a0 : Nat} {r0 : Int × am_I} {x1 : Int} (h0 : (K a0).1 = 12) : X12_bestOf N K F a0 I x1 = some r0 → am_Ct η l yX12_bestOf cX12_bestOf 4 (some .int) 5 120 0 0 [qr a0, qi x1] n K I F (am_pS 1 r0 n K F) := fun g => am_Ct.of false (by decide) (by decide) (Nat.le_of_ble_eq_true rfl) (fun _ => w_X12_bestOf (N := N) h0 g)
def M_X12_isRight : am_M := (yX12_isRight.cls, cX12_isRight, 10, (some .boolean), am_room 5 120 0 0, false)
def X12_isRight_b259 (N : Nat) (K : am_K) (F : am_F) (a0 : Nat) (I : am_I) (s0 : Int) : Option (Int × am_I) :=
  if s0 = 0 ∨ s0 = 1 then some (s0, I) else none
theorem w_X12_isRight_b259 {η : am_E} {l : Launch} {N : Nat} {n : Nat} {K : am_K} {I : am_I} {F : am_F} {a0 : Nat} {r0 : Int × am_I} {s0 : Int} (h0 : (K a0).1 = 12) : X12_isRight_b259 N K F a0 I s0 = some r0 → Ok η l M_X12_isRight (am_qm η (am_pS 1 r0 n K F) 0 0) 259 [(0, qr a0)] [qi s0] n K I F 0 0 := by
  unfold X12_isRight_b259
  refine fi_chk (fun h_1 => ?_)
  exact fi_zreturnS dX12_isRight_259 rfl h_1
def X12_isRight_b258 (N : Nat) (K : am_K) (F : am_F) (a0 : Nat) (I : am_I) : Option (Int × am_I) :=
  X12_isRight_b259 N K F a0 I 0
theorem w_X12_isRight_b258 {η : am_E} {l : Launch} {N : Nat} {n : Nat} {K : am_K} {I : am_I} {F : am_F} {a0 : Nat} {r0 : Int × am_I} (h0 : (K a0).1 = 12) : X12_isRight_b258 N K F a0 I = some r0 → Ok η l M_X12_isRight (am_qm η (am_pS 1 r0 n K F) 0 0) 258 [(0, qr a0)] [] n K I F 0 0 := by
  unfold X12_isRight_b258
  refine ok_iconst (q := 259) (x := 0) dX12_isRight_258 rfl rfl (by decide) ?_
  exact fun g => ok_pick [0] rfl (w_X12_isRight_b259 (N := N) h0 g)
def X12_isRight_b254 (N : Nat) (K : am_K) (F : am_F) (a0 : Nat) (I : am_I) : Option (Int × am_I) :=
  X12_isRight_b259 N K F a0 I 1
theorem w_X12_isRight_b254 {η : am_E} {l : Launch} {N : Nat} {n : Nat} {K : am_K} {I : am_I} {F : am_F} {a0 : Nat} {r0 : Int × am_I} (h0 : (K a0).1 = 12) : X12_isRight_b254 N K F a0 I = some r0 → Ok η l M_X12_isRight (am_qm η (am_pS 1 r0 n K F) 0 0) 254 [(0, qr a0)] [] n K I F 0 0 := by
  unfold X12_isRight_b254
  refine ok_iconst (q := 255) (x := 1) dX12_isRight_254 rfl rfl (by decide) ?_
  refine ok_goto (q := 259) dX12_isRight_255 rfl ?_
  exact fun g => ok_pick [0] rfl (w_X12_isRight_b259 (N := N) h0 g)
def X12_isRight_b245 (N : Nat) (K : am_K) (F : am_F) (a0 : Nat) (I : am_I) (x3 : Int) (x6 : Int) : Option (Int × am_I) :=
  if x3 < 0 then (if x6 = 0 then (X12_isRight_b258 N K F a0 I) else (X12_isRight_b254 N K F a0 I)) else (X12_isRight_b254 N K F a0 I)
theorem w_X12_isRight_b245 {η : am_E} {l : Launch} {N : Nat} {n : Nat} {K : am_K} {I : am_I} {F : am_F} {a0 : Nat} {r0 : Int × am_I} {x3 : Int} {x6 : Int} (h0 : (K a0).1 = 12) : X12_isRight_b245 N K F a0 I x3 x6 = some r0 → Ok η l M_X12_isRight (am_qm η (am_pS 1 r0 n K F) 0 0) 245 [(0, qr a0), (3, qi x3), (6, qi x6)] [] n K I F 0 0 := by
  unfold X12_isRight_b245
  refine ok_iload_n (q := 246) 1 dX12_isRight_245 rfl rfl rfl ?_
  refine ok_if_ge (q := 254) (q2 := 249) dX12_isRight_246 rfl rfl ?_ ?_
  · skip
    exact fun g => ok_pick [0] rfl (w_X12_isRight_b254 (N := N) h0 g)
  · skip
    refine ok_iload (q := 251) 2 dX12_isRight_249 rfl rfl ?_
    refine ok_if_eq (q := 258) (q2 := 254) dX12_isRight_251 rfl rfl ?_ ?_
    · skip
      exact fun g => ok_pick [0] rfl (w_X12_isRight_b258 (N := N) h0 g)
    · skip
      exact fun g => ok_pick [0] rfl (w_X12_isRight_b254 (N := N) h0 g)
def X12_isRight_b224 (N : Nat) (K : am_K) (F : am_F) (a0 : Nat) (k85 : am_I → Int → Int → Int → Int → Int → Int → Int → Option (Int × am_I)) (I : am_I) (x1 : Int) (x2 : Int) (x3 : Int) (x4 : Int) (x5 : Int) (x6 : Int) (x7 : Int) : Option (Int × am_I) :=
  if am_inI (x7 + 1) then am_lt (x7 + 1) (fun x7_2 => k85 I x1 x2 x3 x4 x5 x6 x7_2) else none
theorem w_X12_isRight_b224 {η : am_E} {l : Launch} {N : Nat} {n : Nat} {K : am_K} {I : am_I} {F : am_F} {a0 : Nat} {r0 : Int × am_I} {k85 : am_I → Int → Int → Int → Int → Int → Int → Int → Option (Int × am_I)} {x1 : Int} {x2 : Int} {x3 : Int} {x4 : Int} {x5 : Int} {x6 : Int} {x7 : Int} (h0 : (K a0).1 = 12) (H85 : ∀ (I : am_I) (x1 : Int) (x2 : Int) (x3 : Int) (x4 : Int) (x5 : Int) (x6 : Int) (x7 : Int), k85 I x1 x2 x3 x4 x5 x6 x7 = some r0 → Ok η l M_X12_isRight (am_qm η (am_pS 1 r0 n K F) 0 0) 85 [(0, qr a0), (1, qi x1), (2, qi x2), (3, qi x3), (4, qi x4), (5, qi x5), (6, qi x6), (7, qi x7)] [] n K I F 0 0) : X12_isRight_b224 N K F a0 k85 I x1 x2 x3 x4 x5 x6 x7 = some r0 → Ok η l M_X12_isRight (am_qm η (am_pS 1 r0 n K F) 0 0) 224 [(0, qr a0), (1, qi x1), (2, qi x2), (3, qi x3), (4, qi x4), (5, qi x5), (6, qi x6), (7, qi x7)] [] n K I F 0 0 := by
  unfold X12_isRight_b224
  refine fi_chk (fun h_1 => ?_)
  refine ok_iincL (q := 227) (fun x7_2 => [(7, qi x7_2), (0, qr a0), (1, qi x1), (2, qi x2), (3, qi x3), (4, qi x4), (5, qi x5), (6, qi x6)]) 7 dX12_isRight_224 rfl rfl h_1 (Nat.le_of_ble_eq_true rfl) (fun _ => rfl) (fun x7_2 => ?_)
  refine ok_goto (q := 85) dX12_isRight_227 rfl ?_
  exact fun g => ok_pick [1, 2, 3, 4, 5, 6, 7, 0] rfl (H85 _ _ _ _ _ _ _ _ g)
def X12_isRight_b222 (N : Nat) (K : am_K) (F : am_F) (a0 : Nat) (k85 : am_I → Int → Int → Int → Int → Int → Int → Int → Option (Int × am_I)) (I : am_I) (x1 : Int) (x2 : Int) (x3 : Int) (x4 : Int) (x5 : Int) (x7 : Int) (s0 : Int) : Option (Int × am_I) :=
  X12_isRight_b224 N K F a0 k85 I x1 x2 x3 x4 x5 s0 x7
theorem w_X12_isRight_b222 {η : am_E} {l : Launch} {N : Nat} {n : Nat} {K : am_K} {I : am_I} {F : am_F} {a0 : Nat} {r0 : Int × am_I} {k85 : am_I → Int → Int → Int → Int → Int → Int → Int → Option (Int × am_I)} {x1 : Int} {x2 : Int} {x3 : Int} {x4 : Int} {x5 : Int} {x7 : Int} {s0 : Int} (h0 : (K a0).1 = 12) (H85 : ∀ (I : am_I) (x1 : Int) (x2 : Int) (x3 : Int) (x4 : Int) (x5 : Int) (x6 : Int) (x7 : Int), k85 I x1 x2 x3 x4 x5 x6 x7 = some r0 → Ok η l M_X12_isRight (am_qm η (am_pS 1 r0 n K F) 0 0) 85 [(0, qr a0), (1, qi x1), (2, qi x2), (3, qi x3), (4, qi x4), (5, qi x5), (6, qi x6), (7, qi x7)] [] n K I F 0 0) : X12_isRight_b222 N K F a0 k85 I x1 x2 x3 x4 x5 x7 s0 = some r0 → Ok η l M_X12_isRight (am_qm η (am_pS 1 r0 n K F) 0 0) 222 [(0, qr a0), (1, qi x1), (2, qi x2), (3, qi x3), (4, qi x4), (5, qi x5), (7, qi x7)] [qi s0] n K I F 0 0 := by
  unfold X12_isRight_b222
  refine ok_istore (q := 224) (ls' := [(6, qi s0), (0, qr a0), (1, qi x1), (2, qi x2), (3, qi x3), (4, qi x4), (5, qi x5), (7, qi x7)]) dX12_isRight_222 rfl (Nat.le_of_ble_eq_true rfl) rfl ?_
  exact fun g => ok_pick [1, 2, 3, 4, 5, 6, 0, 7] rfl (w_X12_isRight_b224 (N := N) h0 H85 g)
def X12_isRight_b221 (N : Nat) (K : am_K) (F : am_F) (a0 : Nat) (k85 : am_I → Int → Int → Int → Int → Int → Int → Int → Option (Int × am_I)) (I : am_I) (x1 : Int) (x2 : Int) (x3 : Int) (x4 : Int) (x5 : Int) (x7 : Int) : Option (Int × am_I) :=
  X12_isRight_b222 N K F a0 k85 I x1 x2 x3 x4 x5 x7 0
theorem w_X12_isRight_b221 {η : am_E} {l : Launch} {N : Nat} {n : Nat} {K : am_K} {I : am_I} {F : am_F} {a0 : Nat} {r0 : Int × am_I} {k85 : am_I → Int → Int → Int → Int → Int → Int → Int → Option (Int × am_I)} {x1 : Int} {x2 : Int} {x3 : Int} {x4 : Int} {x5 : Int} {x7 : Int} (h0 : (K a0).1 = 12) (H85 : ∀ (I : am_I) (x1 : Int) (x2 : Int) (x3 : Int) (x4 : Int) (x5 : Int) (x6 : Int) (x7 : Int), k85 I x1 x2 x3 x4 x5 x6 x7 = some r0 → Ok η l M_X12_isRight (am_qm η (am_pS 1 r0 n K F) 0 0) 85 [(0, qr a0), (1, qi x1), (2, qi x2), (3, qi x3), (4, qi x4), (5, qi x5), (6, qi x6), (7, qi x7)] [] n K I F 0 0) : X12_isRight_b221 N K F a0 k85 I x1 x2 x3 x4 x5 x7 = some r0 → Ok η l M_X12_isRight (am_qm η (am_pS 1 r0 n K F) 0 0) 221 [(0, qr a0), (1, qi x1), (2, qi x2), (3, qi x3), (4, qi x4), (5, qi x5), (7, qi x7)] [] n K I F 0 0 := by
  unfold X12_isRight_b221
  refine ok_iconst (q := 222) (x := 0) dX12_isRight_221 rfl rfl (by decide) ?_
  exact fun g => ok_pick [0, 1, 2, 3, 4, 5, 6] rfl (w_X12_isRight_b222 (N := N) h0 H85 g)
def X12_isRight_b217 (N : Nat) (K : am_K) (F : am_F) (a0 : Nat) (k85 : am_I → Int → Int → Int → Int → Int → Int → Int → Option (Int × am_I)) (I : am_I) (x1 : Int) (x2 : Int) (x3 : Int) (x4 : Int) (x5 : Int) (x7 : Int) : Option (Int × am_I) :=
  X12_isRight_b222 N K F a0 k85 I x1 x2 x3 x4 x5 x7 1
theorem w_X12_isRight_b217 {η : am_E} {l : Launch} {N : Nat} {n : Nat} {K : am_K} {I : am_I} {F : am_F} {a0 : Nat} {r0 : Int × am_I} {k85 : am_I → Int → Int → Int → Int → Int → Int → Int → Option (Int × am_I)} {x1 : Int} {x2 : Int} {x3 : Int} {x4 : Int} {x5 : Int} {x7 : Int} (h0 : (K a0).1 = 12) (H85 : ∀ (I : am_I) (x1 : Int) (x2 : Int) (x3 : Int) (x4 : Int) (x5 : Int) (x6 : Int) (x7 : Int), k85 I x1 x2 x3 x4 x5 x6 x7 = some r0 → Ok η l M_X12_isRight (am_qm η (am_pS 1 r0 n K F) 0 0) 85 [(0, qr a0), (1, qi x1), (2, qi x2), (3, qi x3), (4, qi x4), (5, qi x5), (6, qi x6), (7, qi x7)] [] n K I F 0 0) : X12_isRight_b217 N K F a0 k85 I x1 x2 x3 x4 x5 x7 = some r0 → Ok η l M_X12_isRight (am_qm η (am_pS 1 r0 n K F) 0 0) 217 [(0, qr a0), (1, qi x1), (2, qi x2), (3, qi x3), (4, qi x4), (5, qi x5), (7, qi x7)] [] n K I F 0 0 := by
  unfold X12_isRight_b217
  refine ok_iconst (q := 218) (x := 1) dX12_isRight_217 rfl rfl (by decide) ?_
  refine ok_goto (q := 222) dX12_isRight_218 rfl ?_
  exact fun g => ok_pick [0, 1, 2, 3, 4, 5, 6] rfl (w_X12_isRight_b222 (N := N) h0 H85 g)
def X12_isRight_b199 (N : Nat) (K : am_K) (F : am_F) (a0 : Nat) (k85 : am_I → Int → Int → Int → Int → Int → Int → Int → Option (Int × am_I)) (I : am_I) (x1 : Int) (x2 : Int) (x3 : Int) (x4 : Int) (x6 : Int) (x7 : Int) (x8 : Int) (x9 : Int) (s0 : Int) : Option (Int × am_I) :=
  if x6 = 0 then (X12_isRight_b221 N K F a0 k85 I x1 x2 x3 x4 s0 x7) else (if x8 = x3 then (if x9 = 0 then (X12_isRight_b221 N K F a0 k85 I x1 x2 x3 x4 s0 x7) else (X12_isRight_b217 N K F a0 k85 I x1 x2 x3 x4 s0 x7)) else (X12_isRight_b217 N K F a0 k85 I x1 x2 x3 x4 s0 x7))
theorem w_X12_isRight_b199 {η : am_E} {l : Launch} {N : Nat} {n : Nat} {K : am_K} {I : am_I} {F : am_F} {a0 : Nat} {r0 : Int × am_I} {k85 : am_I → Int → Int → Int → Int → Int → Int → Int → Option (Int × am_I)} {x1 : Int} {x2 : Int} {x3 : Int} {x4 : Int} {x6 : Int} {x7 : Int} {x8 : Int} {x9 : Int} {s0 : Int} (h0 : (K a0).1 = 12) (H85 : ∀ (I : am_I) (x1 : Int) (x2 : Int) (x3 : Int) (x4 : Int) (x5 : Int) (x6 : Int) (x7 : Int), k85 I x1 x2 x3 x4 x5 x6 x7 = some r0 → Ok η l M_X12_isRight (am_qm η (am_pS 1 r0 n K F) 0 0) 85 [(0, qr a0), (1, qi x1), (2, qi x2), (3, qi x3), (4, qi x4), (5, qi x5), (6, qi x6), (7, qi x7)] [] n K I F 0 0) : X12_isRight_b199 N K F a0 k85 I x1 x2 x3 x4 x6 x7 x8 x9 s0 = some r0 → Ok η l M_X12_isRight (am_qm η (am_pS 1 r0 n K F) 0 0) 199 [(0, qr a0), (1, qi x1), (2, qi x2), (3, qi x3), (4, qi x4), (6, qi x6), (7, qi x7), (8, qi x8), (9, qi x9)] [qi s0] n K I F 0 0 := by
  unfold X12_isRight_b199
  refine ok_istore (q := 201) (ls' := [(5, qi s0), (0, qr a0), (1, qi x1), (2, qi x2), (3, qi x3), (4, qi x4), (6, qi x6), (7, qi x7), (8, qi x8), (9, qi x9)]) dX12_isRight_199 rfl (Nat.le_of_ble_eq_true rfl) rfl ?_
  refine ok_iload (q := 203) 6 dX12_isRight_201 rfl rfl ?_
  refine ok_if_eq (q := 221) (q2 := 206) dX12_isRight_203 rfl rfl ?_ ?_
  · skip
    exact fun g => ok_pick [1, 2, 3, 4, 5, 0, 7] rfl (w_X12_isRight_b221 (N := N) h0 H85 g)
  · skip
    refine ok_iload (q := 208) 8 dX12_isRight_206 rfl rfl ?_
    refine ok_iload_n (q := 209) 4 dX12_isRight_208 rfl rfl rfl ?_
    refine ok_icmp_ne (q := 217) (q2 := 212) dX12_isRight_209 rfl rfl ?_ ?_
    · skip
      exact fun g => ok_pick [1, 2, 3, 4, 5, 0, 7] rfl (w_X12_isRight_b217 (N := N) h0 H85 g)
    · skip
      refine ok_iload (q := 214) 9 dX12_isRight_212 rfl rfl ?_
      refine ok_if_eq (q := 221) (q2 := 217) dX12_isRight_214 rfl rfl ?_ ?_
      · skip
        exact fun g => ok_pick [1, 2, 3, 4, 5, 0, 7] rfl (w_X12_isRight_b221 (N := N) h0 H85 g)
      · skip
        exact fun g => ok_pick [1, 2, 3, 4, 5, 0, 7] rfl (w_X12_isRight_b217 (N := N) h0 H85 g)
def X12_isRight_b194 (N : Nat) (K : am_K) (F : am_F) (a0 : Nat) (k85 : am_I → Int → Int → Int → Int → Int → Int → Int → Option (Int × am_I)) (I : am_I) (x1 : Int) (x2 : Int) (x3 : Int) (x4 : Int) (x6 : Int) (x7 : Int) (x8 : Int) (x9 : Int) : Option (Int × am_I) :=
  X12_isRight_b199 N K F a0 k85 I x1 x2 x3 x4 x6 x7 x8 x9 1
theorem w_X12_isRight_b194 {η : am_E} {l : Launch} {N : Nat} {n : Nat} {K : am_K} {I : am_I} {F : am_F} {a0 : Nat} {r0 : Int × am_I} {k85 : am_I → Int → Int → Int → Int → Int → Int → Int → Option (Int × am_I)} {x1 : Int} {x2 : Int} {x3 : Int} {x4 : Int} {x6 : Int} {x7 : Int} {x8 : Int} {x9 : Int} (h0 : (K a0).1 = 12) (H85 : ∀ (I : am_I) (x1 : Int) (x2 : Int) (x3 : Int) (x4 : Int) (x5 : Int) (x6 : Int) (x7 : Int), k85 I x1 x2 x3 x4 x5 x6 x7 = some r0 → Ok η l M_X12_isRight (am_qm η (am_pS 1 r0 n K F) 0 0) 85 [(0, qr a0), (1, qi x1), (2, qi x2), (3, qi x3), (4, qi x4), (5, qi x5), (6, qi x6), (7, qi x7)] [] n K I F 0 0) : X12_isRight_b194 N K F a0 k85 I x1 x2 x3 x4 x6 x7 x8 x9 = some r0 → Ok η l M_X12_isRight (am_qm η (am_pS 1 r0 n K F) 0 0) 194 [(0, qr a0), (1, qi x1), (2, qi x2), (3, qi x3), (4, qi x4), (6, qi x6), (7, qi x7), (8, qi x8), (9, qi x9)] [] n K I F 0 0 := by
  unfold X12_isRight_b194
  refine ok_iconst (q := 195) (x := 1) dX12_isRight_194 rfl rfl (by decide) ?_
  refine ok_goto (q := 199) dX12_isRight_195 rfl ?_
  exact fun g => ok_pick [0, 1, 2, 3, 4, 5, 6, 7, 8] rfl (w_X12_isRight_b199 (N := N) h0 H85 g)
def X12_isRight_b198 (N : Nat) (K : am_K) (F : am_F) (a0 : Nat) (k85 : am_I → Int → Int → Int → Int → Int → Int → Int → Option (Int × am_I)) (I : am_I) (x1 : Int) (x2 : Int) (x3 : Int) (x4 : Int) (x6 : Int) (x7 : Int) (x8 : Int) (x9 : Int) : Option (Int × am_I) :=
  X12_isRight_b199 N K F a0 k85 I x1 x2 x3 x4 x6 x7 x8 x9 0
theorem w_X12_isRight_b198 {η : am_E} {l : Launch} {N : Nat} {n : Nat} {K : am_K} {I : am_I} {F : am_F} {a0 : Nat} {r0 : Int × am_I} {k85 : am_I → Int → Int → Int → Int → Int → Int → Int → Option (Int × am_I)} {x1 : Int} {x2 : Int} {x3 : Int} {x4 : Int} {x6 : Int} {x7 : Int} {x8 : Int} {x9 : Int} (h0 : (K a0).1 = 12) (H85 : ∀ (I : am_I) (x1 : Int) (x2 : Int) (x3 : Int) (x4 : Int) (x5 : Int) (x6 : Int) (x7 : Int), k85 I x1 x2 x3 x4 x5 x6 x7 = some r0 → Ok η l M_X12_isRight (am_qm η (am_pS 1 r0 n K F) 0 0) 85 [(0, qr a0), (1, qi x1), (2, qi x2), (3, qi x3), (4, qi x4), (5, qi x5), (6, qi x6), (7, qi x7)] [] n K I F 0 0) : X12_isRight_b198 N K F a0 k85 I x1 x2 x3 x4 x6 x7 x8 x9 = some r0 → Ok η l M_X12_isRight (am_qm η (am_pS 1 r0 n K F) 0 0) 198 [(0, qr a0), (1, qi x1), (2, qi x2), (3, qi x3), (4, qi x4), (6, qi x6), (7, qi x7), (8, qi x8), (9, qi x9)] [] n K I F 0 0 := by
  unfold X12_isRight_b198
  refine ok_iconst (q := 199) (x := 0) dX12_isRight_198 rfl rfl (by decide) ?_
  exact fun g => ok_pick [0, 1, 2, 3, 4, 5, 6, 7, 8] rfl (w_X12_isRight_b199 (N := N) h0 H85 g)
def X12_isRight_b176 (N : Nat) (K : am_K) (F : am_F) (a0 : Nat) (k85 : am_I → Int → Int → Int → Int → Int → Int → Int → Option (Int × am_I)) (I : am_I) (x1 : Int) (x2 : Int) (x3 : Int) (x4 : Int) (x5 : Int) (x6 : Int) (x7 : Int) (x8 : Int) (s0 : Int) : Option (Int × am_I) :=
  if x5 = 0 then (if x8 = x3 then (if s0 = 0 then (X12_isRight_b198 N K F a0 k85 I x1 x2 x3 x4 x6 x7 x8 s0) else (X12_isRight_b194 N K F a0 k85 I x1 x2 x3 x4 x6 x7 x8 s0)) else (X12_isRight_b198 N K F a0 k85 I x1 x2 x3 x4 x6 x7 x8 s0)) else (X12_isRight_b194 N K F a0 k85 I x1 x2 x3 x4 x6 x7 x8 s0)
theorem w_X12_isRight_b176 {η : am_E} {l : Launch} {N : Nat} {n : Nat} {K : am_K} {I : am_I} {F : am_F} {a0 : Nat} {r0 : Int × am_I} {k85 : am_I → Int → Int → Int → Int → Int → Int → Int → Option (Int × am_I)} {x1 : Int} {x2 : Int} {x3 : Int} {x4 : Int} {x5 : Int} {x6 : Int} {x7 : Int} {x8 : Int} {s0 : Int} (h0 : (K a0).1 = 12) (H85 : ∀ (I : am_I) (x1 : Int) (x2 : Int) (x3 : Int) (x4 : Int) (x5 : Int) (x6 : Int) (x7 : Int), k85 I x1 x2 x3 x4 x5 x6 x7 = some r0 → Ok η l M_X12_isRight (am_qm η (am_pS 1 r0 n K F) 0 0) 85 [(0, qr a0), (1, qi x1), (2, qi x2), (3, qi x3), (4, qi x4), (5, qi x5), (6, qi x6), (7, qi x7)] [] n K I F 0 0) : X12_isRight_b176 N K F a0 k85 I x1 x2 x3 x4 x5 x6 x7 x8 s0 = some r0 → Ok η l M_X12_isRight (am_qm η (am_pS 1 r0 n K F) 0 0) 176 [(0, qr a0), (1, qi x1), (2, qi x2), (3, qi x3), (4, qi x4), (5, qi x5), (6, qi x6), (7, qi x7), (8, qi x8)] [qi s0] n K I F 0 0 := by
  unfold X12_isRight_b176
  refine ok_istore (q := 178) (ls' := [(9, qi s0), (0, qr a0), (1, qi x1), (2, qi x2), (3, qi x3), (4, qi x4), (5, qi x5), (6, qi x6), (7, qi x7), (8, qi x8)]) dX12_isRight_176 rfl (Nat.le_of_ble_eq_true rfl) rfl ?_
  refine ok_iload (q := 180) 6 dX12_isRight_178 rfl rfl ?_
  refine ok_if_ne (q := 194) (q2 := 183) dX12_isRight_180 rfl rfl ?_ ?_
  · skip
    exact fun g => ok_pick [1, 2, 3, 4, 5, 7, 8, 9, 0] rfl (w_X12_isRight_b194 (N := N) h0 H85 g)
  · skip
    refine ok_iload (q := 185) 9 dX12_isRight_183 rfl rfl ?_
    refine ok_iload_n (q := 186) 4 dX12_isRight_185 rfl rfl rfl ?_
    refine ok_icmp_ne (q := 198) (q2 := 189) dX12_isRight_186 rfl rfl ?_ ?_
    · skip
      exact fun g => ok_pick [1, 2, 3, 4, 5, 7, 8, 9, 0] rfl (w_X12_isRight_b198 (N := N) h0 H85 g)
    · skip
      refine ok_iload (q := 191) 0 dX12_isRight_189 rfl rfl ?_
      refine ok_if_eq (q := 198) (q2 := 194) dX12_isRight_191 rfl rfl ?_ ?_
      · skip
        exact fun g => ok_pick [1, 2, 3, 4, 5, 7, 8, 9, 0] rfl (w_X12_isRight_b198 (N := N) h0 H85 g)
      · skip
        exact fun g => ok_pick [1, 2, 3, 4, 5, 7, 8, 9, 0] rfl (w_X12_isRight_b194 (N := N) h0 H85 g)
def X12_isRight_b171 (N : Nat) (K : am_K) (F : am_F) (a0 : Nat) (k85 : am_I → Int → Int → Int → Int → Int → Int → Int → Option (Int × am_I)) (I : am_I) (x1 : Int) (x2 : Int) (x3 : Int) (x4 : Int) (x5 : Int) (x6 : Int) (x7 : Int) (x8 : Int) : Option (Int × am_I) :=
  X12_isRight_b176 N K F a0 k85 I x1 x2 x3 x4 x5 x6 x7 x8 1
theorem w_X12_isRight_b171 {η : am_E} {l : Launch} {N : Nat} {n : Nat} {K : am_K} {I : am_I} {F : am_F} {a0 : Nat} {r0 : Int × am_I} {k85 : am_I → Int → Int → Int → Int → Int → Int → Int → Option (Int × am_I)} {x1 : Int} {x2 : Int} {x3 : Int} {x4 : Int} {x5 : Int} {x6 : Int} {x7 : Int} {x8 : Int} (h0 : (K a0).1 = 12) (H85 : ∀ (I : am_I) (x1 : Int) (x2 : Int) (x3 : Int) (x4 : Int) (x5 : Int) (x6 : Int) (x7 : Int), k85 I x1 x2 x3 x4 x5 x6 x7 = some r0 → Ok η l M_X12_isRight (am_qm η (am_pS 1 r0 n K F) 0 0) 85 [(0, qr a0), (1, qi x1), (2, qi x2), (3, qi x3), (4, qi x4), (5, qi x5), (6, qi x6), (7, qi x7)] [] n K I F 0 0) : X12_isRight_b171 N K F a0 k85 I x1 x2 x3 x4 x5 x6 x7 x8 = some r0 → Ok η l M_X12_isRight (am_qm η (am_pS 1 r0 n K F) 0 0) 171 [(0, qr a0), (1, qi x1), (2, qi x2), (3, qi x3), (4, qi x4), (5, qi x5), (6, qi x6), (7, qi x7), (8, qi x8)] [] n K I F 0 0 := by
  unfold X12_isRight_b171
  refine ok_iconst (q := 172) (x := 1) dX12_isRight_171 rfl rfl (by decide) ?_
  refine ok_goto (q := 176) dX12_isRight_172 rfl ?_
  exact fun g => ok_pick [0, 1, 2, 3, 4, 5, 6, 7, 8] rfl (w_X12_isRight_b176 (N := N) h0 H85 g)
def X12_isRight_s85 (N : Nat) (K : am_K) (F : am_F) (a0 : Nat) (k85 : am_I → Int → Int → Int → Int → Int → Int → Int → Option (Int × am_I)) (I : am_I) (x1 : Int) (x2 : Int) (x3 : Int) (x4 : Int) (x5 : Int) (x6 : Int) (x7 : Int) : Option (Int × am_I) :=
  am_cq (X12_all N K F I a0) (fun v_1 => if x7 < v_1 then (if (K (F a0 35)).1 = 101 then if (0 : Int) ≤ x7 ∧ x7 < (K (F a0 35)).2 then if (I (F a0 35) x7) = 0 then (X12_isRight_b224 N K F a0 k85 I x1 x2 x3 x4 x5 x6 x7) else (am_cl (X12_make N K F a0 I (F a0 20) x2 x7) (fun _ I_4 => am_cq (X12_reached N K F I_4 a0 x2 (F a0 27)) (fun v_5 => am_lt (am_max x4 v_5) (fun x4_6 => if (I_4 a0 17) ≤ 0 then (if am_inI (1 - x2) then am_cq (X12_placeOf N K F I_4 a0 (F a0 16) (1 - x2)) (fun v_8 => if am_inI (v_8) then if (K (F a0 28)).1 = 100 then if (0 : Int) ≤ v_8 ∧ v_8 < (K (F a0 28)).2 then if (0 : Int) ≤ x1 ∧ x1 < (K (F a0 28)).2 then if (I_4 (F a0 28) v_8) < (I_4 (F a0 28) x1) then (X12_isRight_b171 N K F a0 k85 I_4 x1 x2 x3 x4_6 x5 x6 x7 v_5) else (X12_isRight_b176 N K F a0 k85 I_4 x1 x2 x3 x4_6 x5 x6 x7 v_5 0) else none else none else none else none) else none) else (X12_isRight_b171 N K F a0 k85 I_4 x1 x2 x3 x4_6 x5 x6 x7 v_5))))) else none else none) else (if x4 = x3 then (if 0 < x3 then (if x5 = 0 then (X12_isRight_b258 N K F a0 I) else (X12_isRight_b245 N K F a0 I x3 x6)) else (X12_isRight_b245 N K F a0 I x3 x6)) else (X12_isRight_b258 N K F a0 I)))
theorem w_X12_isRight_s85 {η : am_E} {l : Launch} {N : Nat} {n : Nat} {K : am_K} {I : am_I} {F : am_F} {a0 : Nat} {r0 : Int × am_I} {k85 : am_I → Int → Int → Int → Int → Int → Int → Int → Option (Int × am_I)} {x1 : Int} {x2 : Int} {x3 : Int} {x4 : Int} {x5 : Int} {x6 : Int} {x7 : Int} (h0 : (K a0).1 = 12) (H85 : ∀ (I : am_I) (x1 : Int) (x2 : Int) (x3 : Int) (x4 : Int) (x5 : Int) (x6 : Int) (x7 : Int), k85 I x1 x2 x3 x4 x5 x6 x7 = some r0 → Ok η l M_X12_isRight (am_qm η (am_pS 1 r0 n K F) 0 0) 85 [(0, qr a0), (1, qi x1), (2, qi x2), (3, qi x3), (4, qi x4), (5, qi x5), (6, qi x6), (7, qi x7)] [] n K I F 0 0) : X12_isRight_s85 N K F a0 k85 I x1 x2 x3 x4 x5 x6 x7 = some r0 → Ok η l M_X12_isRight (am_qm η (am_pS 1 r0 n K F) 0 0) 85 [(0, qr a0), (1, qi x1), (2, qi x2), (3, qi x3), (4, qi x4), (5, qi x5), (6, qi x6), (7, qi x7)] [] n K I F 0 0 := by
  unfold X12_isRight_s85
  refine ok_iload (q := 87) 7 dX12_isRight_85 rfl rfl ?_
  refine ok_aload_n (q := 88) 0 dX12_isRight_87 rfl rfl rfl ?_
  refine fi_callV1P (q := 91) (as := []) (st := [qi x7]) dX12_isRight_88 rfl mo_X12_133 h0 rfl (Nat.le_of_ble_eq_true rfl) rfl rfl (Nat.le_of_ble_eq_true rfl) (Nat.le_of_ble_eq_true rfl) (Nat.le_of_ble_eq_true rfl) (Nat.zero_le _) (Nat.zero_le _) (fun _ hr => ct_X12_all (N := N) h0 hr) (fun v_1 => ?_)
  refine ok_icmp_ge (q := 230) (q2 := 94) dX12_isRight_91 rfl rfl ?_ ?_
  · skip
    refine ok_iload (q := 232) 4 dX12_isRight_230 rfl rfl ?_
    refine ok_iload_n (q := 233) 3 dX12_isRight_232 rfl rfl rfl ?_
    refine ok_icmp_ne (q := 258) (q2 := 236) dX12_isRight_233 rfl rfl ?_ ?_
    · skip
      exact fun g => ok_pick [0] rfl (w_X12_isRight_b258 (N := N) h0 g)
    · skip
      refine ok_iload_n (q := 237) 3 dX12_isRight_236 rfl rfl rfl ?_
      refine ok_if_le (q := 245) (q2 := 240) dX12_isRight_237 rfl rfl ?_ ?_
      · skip
        exact fun g => ok_pick [0, 3, 6] rfl (w_X12_isRight_b245 (N := N) h0 g)
      · skip
        refine ok_iload (q := 242) 5 dX12_isRight_240 rfl rfl ?_
        refine ok_if_eq (q := 258) (q2 := 245) dX12_isRight_242 rfl rfl ?_ ?_
        · skip
          exact fun g => ok_pick [0] rfl (w_X12_isRight_b258 (N := N) h0 g)
        · skip
          exact fun g => ok_pick [0, 3, 6] rfl (w_X12_isRight_b245 (N := N) h0 g)
  · skip
    refine ok_aload_n (q := 95) 0 dX12_isRight_94 rfl rfl rfl ?_
    refine ok_getR (q := 98) (ci := 12) (k := 35) (x := F a0 35) dX12_isRight_95 rfl fo_X12_65 h0 rfl ?_
    refine ok_iload (q := 100) 7 dX12_isRight_98 rfl rfl ?_
    refine fi_chk (fun h_2 => ?_)
    refine fi_chk (fun h_3 => ?_)
    refine ok_baload (q := 101) (v := I (F a0 35) x7) dX12_isRight_100 rfl h_2 h_3.1 h_3.2 rfl ?_
    refine ok_if_ne (q := 107) (q2 := 104) dX12_isRight_101 rfl rfl ?_ ?_
    · skip
      refine ok_aload_n (q := 108) 0 dX12_isRight_107 rfl rfl rfl ?_
      refine ok_aload_n (q := 109) 0 dX12_isRight_108 rfl rfl rfl ?_
      refine ok_getR (q := 112) (ci := 12) (k := 20) (x := F a0 20) dX12_isRight_109 rfl fo_X12_29 h0 rfl ?_
      refine ok_iload_n (q := 113) 2 dX12_isRight_112 rfl rfl rfl ?_
      refine ok_iload (q := 115) 7 dX12_isRight_113 rfl rfl ?_
      refine fi_callV0S (q := 118) (as := [qr (F a0 20), qi x2, qi x7]) (st := []) dX12_isRight_115 rfl mo_X12_172 h0 rfl (Nat.le_of_ble_eq_true rfl) rfl rfl (Nat.le_of_ble_eq_true rfl) (Nat.le_of_ble_eq_true rfl) (Nat.le_of_ble_eq_true rfl) (Nat.zero_le _) (Nat.zero_le _) (fun _ hr => ct_X12_make (N := N) h0 hr) (fun _ I_4 => ?_)
      refine ok_aload_n (q := 119) 0 dX12_isRight_118 rfl rfl rfl ?_
      refine ok_iload_n (q := 120) 2 dX12_isRight_119 rfl rfl rfl ?_
      refine ok_aload_n (q := 121) 0 dX12_isRight_120 rfl rfl rfl ?_
      refine ok_getR (q := 124) (ci := 12) (k := 27) (x := F a0 27) dX12_isRight_121 rfl fo_X12_39 h0 rfl ?_
      refine fi_callV1P (q := 127) (as := [qi x2, qr (F a0 27)]) (st := []) dX12_isRight_124 rfl mo_X12_241 h0 rfl (Nat.le_of_ble_eq_true rfl) rfl rfl (Nat.le_of_ble_eq_true rfl) (Nat.le_of_ble_eq_true rfl) (Nat.le_of_ble_eq_true rfl) (Nat.zero_le _) (Nat.zero_le _) (fun _ hr => ct_X12_reached (N := N) h0 hr) (fun v_5 => ?_)
      refine ok_istore (q := 129) (ls' := [(8, qi v_5), (0, qr a0), (1, qi x1), (2, qi x2), (3, qi x3), (4, qi x4), (5, qi x5), (6, qi x6), (7, qi x7)]) dX12_isRight_127 rfl (Nat.le_of_ble_eq_true rfl) rfl ?_
      refine ok_iload (q := 131) 5 dX12_isRight_129 rfl rfl ?_
      refine ok_iload (q := 133) 0 dX12_isRight_131 rfl rfl ?_
      refine ok_mmax (q := 136) dX12_isRight_133 rfl mm_X12_219 (Nat.le_of_ble_eq_true rfl) (Nat.le_of_ble_eq_true rfl) (Nat.le_of_ble_eq_true rfl) (Nat.zero_le _) (Nat.zero_le _) ?_
      refine ok_istoreL (q := 138) (fun x4_6 => [(4, qi x4_6), (8, qi v_5), (0, qr a0), (1, qi x1), (2, qi x2), (3, qi x3), (5, qi x5), (6, qi x6), (7, qi x7)]) dX12_isRight_136 rfl (Nat.le_of_ble_eq_true rfl) (fun _ => rfl) (fun x4_6 => ?_)
      refine ok_aload_n (q := 139) 2 dX12_isRight_138 rfl rfl rfl ?_
      refine ok_getI (q := 142) (ci := 12) (k := 17) (x := I_4 a0 17) dX12_isRight_139 rfl fo_X12_148 h0 rfl ?_
      refine ok_if_gt (q := 171) (q2 := 145) dX12_isRight_142 rfl rfl ?_ ?_
      · skip
        exact fun g => ok_pick [2, 3, 4, 5, 0, 6, 7, 8, 1] rfl (w_X12_isRight_b171 (N := N) h0 H85 g)
      · skip
        refine ok_aload_n (q := 146) 2 dX12_isRight_145 rfl rfl rfl ?_
        refine ok_getR (q := 149) (ci := 12) (k := 28) (x := F a0 28) dX12_isRight_146 rfl fo_X12_42 h0 rfl ?_
        refine ok_aload_n (q := 150) 2 dX12_isRight_149 rfl rfl rfl ?_
        refine ok_aload_n (q := 151) 2 dX12_isRight_150 rfl rfl rfl ?_
        refine ok_getR (q := 154) (ci := 12) (k := 16) (x := F a0 16) dX12_isRight_151 rfl fo_X12_26 h0 rfl ?_
        refine ok_iconst (q := 155) (x := 1) dX12_isRight_154 rfl rfl (by decide) ?_
        refine ok_iload_n (q := 156) 4 dX12_isRight_155 rfl rfl rfl ?_
        refine fi_chk (fun h_7 => ?_)
        refine ok_isub (q := 157) dX12_isRight_156 rfl h_7 ?_
        refine fi_callV2P (q := 160) (as := [qr (F a0 16), qi (1 - x2)]) (st := [qr (F a0 28)]) dX12_isRight_157 rfl mo_X12_209 h0 rfl (Nat.le_of_ble_eq_true rfl) rfl rfl (Nat.le_of_ble_eq_true rfl) (Nat.le_of_ble_eq_true rfl) (Nat.le_of_ble_eq_true rfl) (Nat.zero_le _) (Nat.zero_le _) (fun _ hr => ct_X12_placeOf (N := N) h0 hr) (fun v_8 => ?_)
        refine fi_chk (fun h_9 => ?_)
        refine ok_l2i (q := 161) dX12_isRight_160 rfl h_9 ?_
        refine fi_chk (fun h_10 => ?_)
        refine fi_chk (fun h_11 => ?_)
        refine ok_iaload (q := 162) (v := I_4 (F a0 28) v_8) dX12_isRight_161 rfl h_10 h_11.1 h_11.2 rfl ?_
        refine ok_aload_n (q := 163) 2 dX12_isRight_162 rfl rfl rfl ?_
        refine ok_getR (q := 166) (ci := 12) (k := 28) (x := F a0 28) dX12_isRight_163 rfl fo_X12_42 h0 rfl ?_
        refine ok_iload_n (q := 167) 3 dX12_isRight_166 rfl rfl rfl ?_
        refine fi_chk (fun h_12 => ?_)
        refine ok_iaload (q := 168) (v := I_4 (F a0 28) x1) dX12_isRight_167 rfl h_10 h_12.1 h_12.2 rfl ?_
        refine ok_icmp_ge (q := 175) (q2 := 171) dX12_isRight_168 rfl rfl ?_ ?_
        · skip
          refine ok_iconst (q := 176) (x := 0) dX12_isRight_175 rfl rfl (by decide) ?_
          exact fun g => ok_pick [2, 3, 4, 5, 0, 6, 7, 8, 1] rfl (w_X12_isRight_b176 (N := N) h0 H85 g)
        · skip
          exact fun g => ok_pick [2, 3, 4, 5, 0, 6, 7, 8, 1] rfl (w_X12_isRight_b171 (N := N) h0 H85 g)
    · skip
      refine ok_goto (q := 224) dX12_isRight_104 rfl ?_
      exact fun g => ok_pick [0, 1, 2, 3, 4, 5, 6, 7] rfl (w_X12_isRight_b224 (N := N) h0 H85 g)
def X12_isRight_h85 (N : Nat) (K : am_K) (F : am_F) (a0 : Nat) : Nat → am_I → Int → Int → Int → Int → Int → Int → Int → Option (Int × am_I) := am_it (fun kh => X12_isRight_s85 N K F a0 kh) (fun _ _ _ _ _ _ _ _ => none)
theorem w_X12_isRight_h85 {η : am_E} {l : Launch} {N : Nat} {n : Nat} {K : am_K} {F : am_F} {a0 : Nat} {r0 : Int × am_I} (h0 : (K a0).1 = 12) (f : Nat) : ∀ (I : am_I) (x1 : Int) (x2 : Int) (x3 : Int) (x4 : Int) (x5 : Int) (x6 : Int) (x7 : Int), X12_isRight_h85 N K F a0 f I x1 x2 x3 x4 x5 x6 x7 = some r0 → Ok η l M_X12_isRight (am_qm η (am_pS 1 r0 n K F) 0 0) 85 [(0, qr a0), (1, qi x1), (2, qi x2), (3, qi x3), (4, qi x4), (5, qi x5), (6, qi x6), (7, qi x7)] [] n K I F 0 0 := by
  induction f with
  | zero => intro I x1 x2 x3 x4 x5 x6 x7 g; exact fi_none g
  | succ f ih => intro I x1 x2 x3 x4 x5 x6 x7 g; exact w_X12_isRight_s85 (N := N) h0 ih g
def X12_isRight_b71 (N : Nat) (K : am_K) (F : am_F) (a0 : Nat) (I : am_I) (s0 : Int) : Option (Int × am_I) :=
  if s0 = 0 ∨ s0 = 1 then some (s0, I) else none
theorem w_X12_isRight_b71 {η : am_E} {l : Launch} {N : Nat} {n : Nat} {K : am_K} {I : am_I} {F : am_F} {a0 : Nat} {r0 : Int × am_I} {s0 : Int} (h0 : (K a0).1 = 12) : X12_isRight_b71 N K F a0 I s0 = some r0 → Ok η l M_X12_isRight (am_qm η (am_pS 1 r0 n K F) 0 0) 71 [(0, qr a0)] [qi s0] n K I F 0 0 := by
  unfold X12_isRight_b71
  refine fi_chk (fun h_1 => ?_)
  exact fi_zreturnS dX12_isRight_71 rfl h_1
def X12_isRight_b70 (N : Nat) (K : am_K) (F : am_F) (a0 : Nat) (I : am_I) : Option (Int × am_I) :=
  X12_isRight_b71 N K F a0 I 0
theorem w_X12_isRight_b70 {η : am_E} {l : Launch} {N : Nat} {n : Nat} {K : am_K} {I : am_I} {F : am_F} {a0 : Nat} {r0 : Int × am_I} (h0 : (K a0).1 = 12) : X12_isRight_b70 N K F a0 I = some r0 → Ok η l M_X12_isRight (am_qm η (am_pS 1 r0 n K F) 0 0) 70 [(0, qr a0)] [] n K I F 0 0 := by
  unfold X12_isRight_b70
  refine ok_iconst (q := 71) (x := 0) dX12_isRight_70 rfl rfl (by decide) ?_
  exact fun g => ok_pick [0] rfl (w_X12_isRight_b71 (N := N) h0 g)
def X12_isRight (N : Nat) (K : am_K) (F : am_F) (a0 : Nat) (I : am_I) (x1 : Int) : Option (Int × am_I) :=
  am_cl (X12_layOut N K F a0 I x1) (fun v_1 I_2 => if (K (F a0 27)).1 = 100 then if (0 : Int) ≤ x1 ∧ x1 < (K (F a0 27)).2 then am_lt (I_2 (F a0 27) x1) (fun x3_5 => am_cl (X12_mayMove N K F a0 I_2 (F a0 20) v_1 (F a0 35)) (fun v_6 I_7 => if v_6 = 0 then (am_cq (X12_counts N K F I_7 a0 (F a0 20) v_1 v_1) (fun v_8 => if am_inI (1 - v_1) then am_cq (X12_counts N K F I_7 a0 (F a0 20) v_1 (1 - v_1)) (fun v_10 => if am_inI (v_8 - v_10) then if x3_5 = (v_8 - v_10) then (if (K (F a0 28)).1 = 100 then if (0 : Int) ≤ x1 ∧ x1 < (K (F a0 28)).2 then if (I_7 (F a0 28) x1) = 0 then (X12_isRight_b71 N K F a0 I_7 1) else (X12_isRight_b70 N K F a0 I_7) else none else none) else (X12_isRight_b70 N K F a0 I_7) else none) else none)) else (X12_isRight_h85 N K F a0 N I_7 x1 v_1 x3_5 (-2147483648) 0 1 0))) else none else none)
theorem w_X12_isRight {η : am_E} {l : Launch} {N : Nat} {n : Nat} {K : am_K} {I : am_I} {F : am_F} {a0 : Nat} {r0 : Int × am_I} {x1 : Int} (h0 : (K a0).1 = 12) : X12_isRight N K F a0 I x1 = some r0 → Ok η l M_X12_isRight (am_qm η (am_pS 1 r0 n K F) 0 0) 0 [(0, qr a0), (1, qi x1)] [] n K I F 0 0 := by
  unfold X12_isRight
  refine ok_aload_n (q := 1) 0 dX12_isRight_0 rfl rfl rfl ?_
  refine ok_iload_n (q := 2) 1 dX12_isRight_1 rfl rfl rfl ?_
  refine ok_i2l (q := 3) dX12_isRight_2 rfl ?_
  refine fi_callV1S (q := 6) (as := [ql x1]) (st := []) dX12_isRight_3 rfl mo_X12_197 h0 rfl (Nat.le_of_ble_eq_true rfl) rfl rfl (Nat.le_of_ble_eq_true rfl) (Nat.le_of_ble_eq_true rfl) (Nat.le_of_ble_eq_true rfl) (Nat.zero_le _) (Nat.zero_le _) (fun _ hr => ct_X12_layOut (N := N) h0 hr) (fun v_1 I_2 => ?_)
  refine ok_istore_n (q := 7) (ls' := [(2, qi v_1), (0, qr a0), (1, qi x1)]) dX12_isRight_6 rfl rfl (Nat.le_of_ble_eq_true rfl) rfl ?_
  refine ok_aload_n (q := 8) 1 dX12_isRight_7 rfl rfl rfl ?_
  refine ok_getR (q := 11) (ci := 12) (k := 27) (x := F a0 27) dX12_isRight_8 rfl fo_X12_39 h0 rfl ?_
  refine ok_iload_n (q := 12) 2 dX12_isRight_11 rfl rfl rfl ?_
  refine fi_chk (fun h_3 => ?_)
  refine fi_chk (fun h_4 => ?_)
  refine ok_iaload (q := 13) (v := I_2 (F a0 27) x1) dX12_isRight_12 rfl h_3 h_4.1 h_4.2 rfl ?_
  refine ok_istore_nL (q := 14) (fun x3_5 => [(3, qi x3_5), (2, qi v_1), (0, qr a0), (1, qi x1)]) dX12_isRight_13 rfl rfl (Nat.le_of_ble_eq_true rfl) (fun _ => rfl) (fun x3_5 => ?_)
  refine ok_aload_n (q := 15) 2 dX12_isRight_14 rfl rfl rfl ?_
  refine ok_aload_n (q := 16) 2 dX12_isRight_15 rfl rfl rfl ?_
  refine ok_getR (q := 19) (ci := 12) (k := 20) (x := F a0 20) dX12_isRight_16 rfl fo_X12_29 h0 rfl ?_
  refine ok_iload_n (q := 20) 1 dX12_isRight_19 rfl rfl rfl ?_
  refine ok_aload_n (q := 21) 2 dX12_isRight_20 rfl rfl rfl ?_
  refine ok_getR (q := 24) (ci := 12) (k := 35) (x := F a0 35) dX12_isRight_21 rfl fo_X12_65 h0 rfl ?_
  refine fi_callV1S (q := 27) (as := [qr (F a0 20), qi v_1, qr (F a0 35)]) (st := []) dX12_isRight_24 rfl mo_X12_201 h0 rfl (Nat.le_of_ble_eq_true rfl) rfl rfl (Nat.le_of_ble_eq_true rfl) (Nat.le_of_ble_eq_true rfl) (Nat.le_of_ble_eq_true rfl) (Nat.zero_le _) (Nat.zero_le _) (fun _ hr => ct_X12_mayMove (N := N) h0 hr) (fun v_6 I_7 => ?_)
  refine ok_if_ne (q := 72) (q2 := 30) dX12_isRight_27 rfl rfl ?_ ?_
  · skip
    refine ok_ldc (q := 74) (x := -2147483648) (v := -2147483648) dX12_isRight_72 rfl kc_X12_218 rfl (by decide) ?_
    refine ok_istore (q := 76) (ls' := [(4, qi (-2147483648)), (3, qi x3_5), (2, qi v_1), (0, qr a0), (1, qi x1)]) dX12_isRight_74 rfl (Nat.le_of_ble_eq_true rfl) rfl ?_
    refine ok_iconst (q := 77) (x := 0) dX12_isRight_76 rfl rfl (by decide) ?_
    refine ok_istore (q := 79) (ls' := [(5, qi 0), (4, qi (-2147483648)), (3, qi x3_5), (2, qi v_1), (0, qr a0), (1, qi x1)]) dX12_isRight_77 rfl (Nat.le_of_ble_eq_true rfl) rfl ?_
    refine ok_iconst (q := 80) (x := 1) dX12_isRight_79 rfl rfl (by decide) ?_
    refine ok_istore (q := 82) (ls' := [(6, qi 1), (5, qi 0), (4, qi (-2147483648)), (3, qi x3_5), (2, qi v_1), (0, qr a0), (1, qi x1)]) dX12_isRight_80 rfl (Nat.le_of_ble_eq_true rfl) rfl ?_
    refine ok_iconst (q := 83) (x := 0) dX12_isRight_82 rfl rfl (by decide) ?_
    refine ok_istore (q := 85) (ls' := [(7, qi 0), (6, qi 1), (5, qi 0), (4, qi (-2147483648)), (3, qi x3_5), (2, qi v_1), (0, qr a0), (1, qi x1)]) dX12_isRight_83 rfl (Nat.le_of_ble_eq_true rfl) rfl ?_
    exact fun g => ok_pick [6, 7, 5, 4, 3, 2, 1, 0] rfl (w_X12_isRight_h85 (N := N) h0 N _ _ _ _ _ _ _ _ g)
  · skip
    refine ok_iload_n (q := 31) 0 dX12_isRight_30 rfl rfl rfl ?_
    refine ok_aload_n (q := 32) 2 dX12_isRight_31 rfl rfl rfl ?_
    refine ok_aload_n (q := 33) 2 dX12_isRight_32 rfl rfl rfl ?_
    refine ok_getR (q := 36) (ci := 12) (k := 20) (x := F a0 20) dX12_isRight_33 rfl fo_X12_29 h0 rfl ?_
    refine ok_iload_n (q := 37) 1 dX12_isRight_36 rfl rfl rfl ?_
    refine ok_iload_n (q := 38) 1 dX12_isRight_37 rfl rfl rfl ?_
    refine fi_callV1P (q := 41) (as := [qr (F a0 20), qi v_1, qi v_1]) (st := [qi x3_5]) dX12_isRight_38 rfl mo_X12_205 h0 rfl (Nat.le_of_ble_eq_true rfl) rfl rfl (Nat.le_of_ble_eq_true rfl) (Nat.le_of_ble_eq_true rfl) (Nat.le_of_ble_eq_true rfl) (Nat.zero_le _) (Nat.zero_le _) (fun _ hr => ct_X12_counts (N := N) h0 hr) (fun v_8 => ?_)
    refine ok_aload_n (q := 42) 2 dX12_isRight_41 rfl rfl rfl ?_
    refine ok_aload_n (q := 43) 2 dX12_isRight_42 rfl rfl rfl ?_
    refine ok_getR (q := 46) (ci := 12) (k := 20) (x := F a0 20) dX12_isRight_43 rfl fo_X12_29 h0 rfl ?_
    refine ok_iload_n (q := 47) 1 dX12_isRight_46 rfl rfl rfl ?_
    refine ok_iconst (q := 48) (x := 1) dX12_isRight_47 rfl rfl (by decide) ?_
    refine ok_iload_n (q := 49) 1 dX12_isRight_48 rfl rfl rfl ?_
    refine fi_chk (fun h_9 => ?_)
    refine ok_isub (q := 50) dX12_isRight_49 rfl h_9 ?_
    refine fi_callV1P (q := 53) (as := [qr (F a0 20), qi v_1, qi (1 - v_1)]) (st := [qi v_8, qi x3_5]) dX12_isRight_50 rfl mo_X12_205 h0 rfl (Nat.le_of_ble_eq_true rfl) rfl rfl (Nat.le_of_ble_eq_true rfl) (Nat.le_of_ble_eq_true rfl) (Nat.le_of_ble_eq_true rfl) (Nat.zero_le _) (Nat.zero_le _) (fun _ hr => ct_X12_counts (N := N) h0 hr) (fun v_10 => ?_)
    refine fi_chk (fun h_11 => ?_)
    refine ok_isub (q := 54) dX12_isRight_53 rfl h_11 ?_
    refine ok_icmp_ne (q := 70) (q2 := 57) dX12_isRight_54 rfl rfl ?_ ?_
    · skip
      exact fun g => ok_pick [2] rfl (w_X12_isRight_b70 (N := N) h0 g)
    · skip
      refine ok_aload_n (q := 58) 2 dX12_isRight_57 rfl rfl rfl ?_
      refine ok_getR (q := 61) (ci := 12) (k := 28) (x := F a0 28) dX12_isRight_58 rfl fo_X12_42 h0 rfl ?_
      refine ok_iload_n (q := 62) 3 dX12_isRight_61 rfl rfl rfl ?_
      refine fi_chk (fun h_12 => ?_)
      refine fi_chk (fun h_13 => ?_)
      refine ok_iaload (q := 63) (v := I_7 (F a0 28) x1) dX12_isRight_62 rfl h_12 h_13.1 h_13.2 rfl ?_
      refine ok_if_ne (q := 70) (q2 := 66) dX12_isRight_63 rfl rfl ?_ ?_
      · skip
        exact fun g => ok_pick [2] rfl (w_X12_isRight_b70 (N := N) h0 g)
      · skip
        refine ok_iconst (q := 67) (x := 1) dX12_isRight_66 rfl rfl (by decide) ?_
        refine ok_goto (q := 71) dX12_isRight_67 rfl ?_
        exact fun g => ok_pick [2] rfl (w_X12_isRight_b71 (N := N) h0 g)
theorem ct_X12_isRight {η : am_E} {l : Launch} {N : Nat} {n : Nat} {K : am_K} {I : am_I} {F : am_F} {a0 : Nat} {r0 : Int × am_I} {x1 : Int} (h0 : (K a0).1 = 12) : X12_isRight N K F a0 I x1 = some r0 → am_Ct η l yX12_isRight cX12_isRight 10 (some .boolean) 5 120 0 0 [qr a0, qi x1] n K I F (am_pS 1 r0 n K F) := fun g => am_Ct.of false (by decide) (by decide) (Nat.le_of_ble_eq_true rfl) (fun _ => w_X12_isRight (N := N) h0 g)
def M_X12_keep : am_M := (yX12_keep.cls, cX12_keep, 4, none, am_room 0 0 0 0, false)
def X12_keep_s7 (N : Nat) (K : am_K) (F : am_F) (a0 : Nat) (k7 : am_I → Int → Int → Option (Int × am_I)) (I : am_I) (x2 : Int) (x3 : Int) : Option (Int × am_I) :=
  if x3 < 32 then (if am_inI (x2 + x3) then if (K (F a0 3)).1 = 100 then if (0 : Int) ≤ x3 ∧ x3 < (K (F a0 3)).2 then if (K (F a0 36)).1 = 100 then if F a0 36 ≠ 1 then if (0 : Int) ≤ (x2 + x3) ∧ (x2 + x3) < (K (F a0 36)).2 then am_lt (am_u2 I (F a0 36) (x2 + x3) (I (F a0 3) x3)) (fun I_21 => if am_inI (x3 + 1) then am_lt (x3 + 1) (fun x3_23 => k7 I_21 x2 x3_23) else none) else none else none else none else none else none else none) else (if am_inI (x2 + 32) then if (K (F a0 4)).1 = 100 then if (0 : Int) ≤ 0 ∧ 0 < (K (F a0 4)).2 then if (K (F a0 36)).1 = 100 then if F a0 36 ≠ 1 then if (0 : Int) ≤ (x2 + 32) ∧ (x2 + 32) < (K (F a0 36)).2 then am_lt (am_u2 I (F a0 36) (x2 + 32) (I (F a0 4) 0)) (fun I_7 => if am_inI ((x2 + 32) + 1) then if (0 : Int) ≤ 1 ∧ 1 < (K (F a0 4)).2 then if (0 : Int) ≤ ((x2 + 32) + 1) ∧ ((x2 + 32) + 1) < (K (F a0 36)).2 then am_lt (am_u2 I_7 (F a0 36) ((x2 + 32) + 1) (I_7 (F a0 4) 1)) (fun I_11 => if am_inI ((x2 + 32) + 2) then if (0 : Int) ≤ ((x2 + 32) + 2) ∧ ((x2 + 32) + 2) < (K (F a0 36)).2 then am_lt (am_u2 I_11 (F a0 36) ((x2 + 32) + 2) (I_11 a0 5)) (fun I_14 => some (0, I_14)) else none else none) else none else none else none) else none else none else none else none else none else none)
theorem w_X12_keep_s7 {η : am_E} {l : Launch} {N : Nat} {n : Nat} {K : am_K} {I : am_I} {F : am_F} {a0 : Nat} {r0 : Int × am_I} {k7 : am_I → Int → Int → Option (Int × am_I)} {x2 : Int} {x3 : Int} (h0 : (K a0).1 = 12) (H7 : ∀ (I : am_I) (x2 : Int) (x3 : Int), k7 I x2 x3 = some r0 → Ok η l M_X12_keep (am_qm η (am_pS 0 r0 n K F) 0 0) 7 [(0, qr a0), (2, qi x2), (3, qi x3)] [] n K I F 0 0) : X12_keep_s7 N K F a0 k7 I x2 x3 = some r0 → Ok η l M_X12_keep (am_qm η (am_pS 0 r0 n K F) 0 0) 7 [(0, qr a0), (2, qi x2), (3, qi x3)] [] n K I F 0 0 := by
  unfold X12_keep_s7
  refine ok_iload_n (q := 8) 2 dX12_keep_7 rfl rfl rfl ?_
  refine ok_bipush (q := 10) (x := 32) dX12_keep_8 rfl rfl (by decide) ?_
  refine ok_icmp_ge (q := 33) (q2 := 13) dX12_keep_10 rfl rfl ?_ ?_
  · skip
    refine ok_aload_n (q := 34) 0 dX12_keep_33 rfl rfl rfl ?_
    refine ok_getR (q := 37) (ci := 12) (k := 36) (x := F a0 36) dX12_keep_34 rfl fo_X12_69 h0 rfl ?_
    refine ok_iload_n (q := 38) 1 dX12_keep_37 rfl rfl rfl ?_
    refine ok_bipush (q := 40) (x := 32) dX12_keep_38 rfl rfl (by decide) ?_
    refine fi_chk (fun h_1 => ?_)
    refine ok_iadd (q := 41) dX12_keep_40 rfl h_1 ?_
    refine ok_aload_n (q := 42) 0 dX12_keep_41 rfl rfl rfl ?_
    refine ok_getR (q := 45) (ci := 12) (k := 4) (x := F a0 4) dX12_keep_42 rfl fo_X12_17 h0 rfl ?_
    refine ok_iconst (q := 46) (x := 0) dX12_keep_45 rfl rfl (by decide) ?_
    refine fi_chk (fun h_2 => ?_)
    refine fi_chk (fun h_3 => ?_)
    refine ok_iaload (q := 47) (v := I (F a0 4) 0) dX12_keep_46 rfl h_2 h_3.1 h_3.2 rfl ?_
    refine fi_chk (fun h_4 => ?_)
    refine fi_chk (fun h_5 => ?_)
    refine fi_chk (fun h_6 => ?_)
    refine ok_iastore (q := 48) dX12_keep_47 rfl h_4 h_5 h_6.1 h_6.2 (fun I_7 => ?_)
    refine ok_aload_n (q := 49) 0 dX12_keep_48 rfl rfl rfl ?_
    refine ok_getR (q := 52) (ci := 12) (k := 36) (x := F a0 36) dX12_keep_49 rfl fo_X12_69 h0 rfl ?_
    refine ok_iload_n (q := 53) 1 dX12_keep_52 rfl rfl rfl ?_
    refine ok_bipush (q := 55) (x := 32) dX12_keep_53 rfl rfl (by decide) ?_
    refine ok_iadd (q := 56) dX12_keep_55 rfl h_1 ?_
    refine ok_iconst (q := 57) (x := 1) dX12_keep_56 rfl rfl (by decide) ?_
    refine fi_chk (fun h_8 => ?_)
    refine ok_iadd (q := 58) dX12_keep_57 rfl h_8 ?_
    refine ok_aload_n (q := 59) 0 dX12_keep_58 rfl rfl rfl ?_
    refine ok_getR (q := 62) (ci := 12) (k := 4) (x := F a0 4) dX12_keep_59 rfl fo_X12_17 h0 rfl ?_
    refine ok_iconst (q := 63) (x := 1) dX12_keep_62 rfl rfl (by decide) ?_
    refine fi_chk (fun h_9 => ?_)
    refine ok_iaload (q := 64) (v := I_7 (F a0 4) 1) dX12_keep_63 rfl h_2 h_9.1 h_9.2 rfl ?_
    refine fi_chk (fun h_10 => ?_)
    refine ok_iastore (q := 65) dX12_keep_64 rfl h_4 h_5 h_10.1 h_10.2 (fun I_11 => ?_)
    refine ok_aload_n (q := 66) 0 dX12_keep_65 rfl rfl rfl ?_
    refine ok_getR (q := 69) (ci := 12) (k := 36) (x := F a0 36) dX12_keep_66 rfl fo_X12_69 h0 rfl ?_
    refine ok_iload_n (q := 70) 1 dX12_keep_69 rfl rfl rfl ?_
    refine ok_bipush (q := 72) (x := 32) dX12_keep_70 rfl rfl (by decide) ?_
    refine ok_iadd (q := 73) dX12_keep_72 rfl h_1 ?_
    refine ok_iconst (q := 74) (x := 2) dX12_keep_73 rfl rfl (by decide) ?_
    refine fi_chk (fun h_12 => ?_)
    refine ok_iadd (q := 75) dX12_keep_74 rfl h_12 ?_
    refine ok_aload_n (q := 76) 0 dX12_keep_75 rfl rfl rfl ?_
    refine ok_getI (q := 79) (ci := 12) (k := 5) (x := I_11 a0 5) dX12_keep_76 rfl fo_X12_96 h0 rfl ?_
    refine fi_chk (fun h_13 => ?_)
    refine ok_iastore (q := 80) dX12_keep_79 rfl h_4 h_5 h_13.1 h_13.2 (fun I_14 => ?_)
    exact fi_returnS dX12_keep_80 rfl
  · skip
    refine ok_aload_n (q := 14) 0 dX12_keep_13 rfl rfl rfl ?_
    refine ok_getR (q := 17) (ci := 12) (k := 36) (x := F a0 36) dX12_keep_14 rfl fo_X12_69 h0 rfl ?_
    refine ok_iload_n (q := 18) 1 dX12_keep_17 rfl rfl rfl ?_
    refine ok_iload_n (q := 19) 2 dX12_keep_18 rfl rfl rfl ?_
    refine fi_chk (fun h_15 => ?_)
    refine ok_iadd (q := 20) dX12_keep_19 rfl h_15 ?_
    refine ok_aload_n (q := 21) 0 dX12_keep_20 rfl rfl rfl ?_
    refine ok_getR (q := 24) (ci := 12) (k := 3) (x := F a0 3) dX12_keep_21 rfl fo_X12_13 h0 rfl ?_
    refine ok_iload_n (q := 25) 2 dX12_keep_24 rfl rfl rfl ?_
    refine fi_chk (fun h_16 => ?_)
    refine fi_chk (fun h_17 => ?_)
    refine ok_iaload (q := 26) (v := I (F a0 3) x3) dX12_keep_25 rfl h_16 h_17.1 h_17.2 rfl ?_
    refine fi_chk (fun h_18 => ?_)
    refine fi_chk (fun h_19 => ?_)
    refine fi_chk (fun h_20 => ?_)
    refine ok_iastore (q := 27) dX12_keep_26 rfl h_18 h_19 h_20.1 h_20.2 (fun I_21 => ?_)
    refine fi_chk (fun h_22 => ?_)
    refine ok_iincL (q := 30) (fun x3_23 => [(3, qi x3_23), (0, qr a0), (2, qi x2)]) 2 dX12_keep_27 rfl rfl h_22 (Nat.le_of_ble_eq_true rfl) (fun _ => rfl) (fun x3_23 => ?_)
    refine ok_goto (q := 7) dX12_keep_30 rfl ?_
    exact fun g => ok_pick [1, 2, 0] rfl (H7 _ _ _ g)
def X12_keep_h7 (N : Nat) (K : am_K) (F : am_F) (a0 : Nat) : Nat → am_I → Int → Int → Option (Int × am_I) := am_it (fun kh => X12_keep_s7 N K F a0 kh) (fun _ _ _ => none)
theorem w_X12_keep_h7 {η : am_E} {l : Launch} {N : Nat} {n : Nat} {K : am_K} {F : am_F} {a0 : Nat} {r0 : Int × am_I} (h0 : (K a0).1 = 12) (f : Nat) : ∀ (I : am_I) (x2 : Int) (x3 : Int), X12_keep_h7 N K F a0 f I x2 x3 = some r0 → Ok η l M_X12_keep (am_qm η (am_pS 0 r0 n K F) 0 0) 7 [(0, qr a0), (2, qi x2), (3, qi x3)] [] n K I F 0 0 := by
  induction f with
  | zero => intro I x2 x3 g; exact fi_none g
  | succ f ih => intro I x2 x3 g; exact w_X12_keep_s7 (N := N) h0 ih g
def X12_keep (N : Nat) (K : am_K) (F : am_F) (a0 : Nat) (I : am_I) (x1 : Int) : Option (Int × am_I) :=
  if am_inI (x1 * 35) then am_lt (x1 * 35) (fun x2_2 => X12_keep_h7 N K F a0 N I x2_2 0) else none
theorem w_X12_keep {η : am_E} {l : Launch} {N : Nat} {n : Nat} {K : am_K} {I : am_I} {F : am_F} {a0 : Nat} {r0 : Int × am_I} {x1 : Int} (h0 : (K a0).1 = 12) : X12_keep N K F a0 I x1 = some r0 → Ok η l M_X12_keep (am_qm η (am_pS 0 r0 n K F) 0 0) 0 [(0, qr a0), (1, qi x1)] [] n K I F 0 0 := by
  unfold X12_keep
  refine ok_iload_n (q := 1) 1 dX12_keep_0 rfl rfl rfl ?_
  refine ok_bipush (q := 3) (x := 35) dX12_keep_1 rfl rfl (by decide) ?_
  refine fi_chk (fun h_1 => ?_)
  refine ok_imul (q := 4) dX12_keep_3 rfl h_1 ?_
  refine ok_istore_nL (q := 5) (fun x2_2 => [(2, qi x2_2), (0, qr a0), (1, qi x1)]) dX12_keep_4 rfl rfl (Nat.le_of_ble_eq_true rfl) (fun _ => rfl) (fun x2_2 => ?_)
  refine ok_iconst (q := 6) (x := 0) dX12_keep_5 rfl rfl (by decide) ?_
  refine ok_istore_n (q := 7) (ls' := [(3, qi 0), (2, qi x2_2), (0, qr a0), (1, qi x1)]) dX12_keep_6 rfl rfl (Nat.le_of_ble_eq_true rfl) rfl ?_
  exact fun g => ok_pick [2, 1, 0] rfl (w_X12_keep_h7 (N := N) h0 N _ _ _ g)
theorem ct_X12_keep {η : am_E} {l : Launch} {N : Nat} {n : Nat} {K : am_K} {I : am_I} {F : am_F} {a0 : Nat} {r0 : Int × am_I} {x1 : Int} (h0 : (K a0).1 = 12) : X12_keep N K F a0 I x1 = some r0 → am_Ct η l yX12_keep cX12_keep 4 none 0 0 0 0 [qr a0, qi x1] n K I F (am_pS 0 r0 n K F) := fun g => am_Ct.of false (by decide) (by decide) (Nat.le_of_ble_eq_true rfl) (fun _ => w_X12_keep (N := N) h0 g)
def M_X12_bring : am_M := (yX12_bring.cls, cX12_bring, 4, none, am_room 0 0 0 0, false)
def X12_bring_s7 (N : Nat) (K : am_K) (F : am_F) (a0 : Nat) (k7 : am_I → Int → Int → Option (Int × am_I)) (I : am_I) (x2 : Int) (x3 : Int) : Option (Int × am_I) :=
  if x3 < 32 then (if am_inI (x2 + x3) then if (K (F a0 36)).1 = 100 then if (0 : Int) ≤ (x2 + x3) ∧ (x2 + x3) < (K (F a0 36)).2 then if (K (F a0 3)).1 = 100 then if F a0 3 ≠ 1 then if (0 : Int) ≤ x3 ∧ x3 < (K (F a0 3)).2 then am_lt (am_u2 I (F a0 3) x3 (I (F a0 36) (x2 + x3))) (fun I_21 => if am_inI (x3 + 1) then am_lt (x3 + 1) (fun x3_23 => k7 I_21 x2 x3_23) else none) else none else none else none else none else none else none) else (if am_inI (x2 + 32) then if (K (F a0 36)).1 = 100 then if (0 : Int) ≤ (x2 + 32) ∧ (x2 + 32) < (K (F a0 36)).2 then if (K (F a0 4)).1 = 100 then if F a0 4 ≠ 1 then if (0 : Int) ≤ 0 ∧ 0 < (K (F a0 4)).2 then am_lt (am_u2 I (F a0 4) 0 (I (F a0 36) (x2 + 32))) (fun I_7 => if am_inI ((x2 + 32) + 1) then if (0 : Int) ≤ ((x2 + 32) + 1) ∧ ((x2 + 32) + 1) < (K (F a0 36)).2 then if (0 : Int) ≤ 1 ∧ 1 < (K (F a0 4)).2 then am_lt (am_u2 I_7 (F a0 4) 1 (I_7 (F a0 36) ((x2 + 32) + 1))) (fun I_11 => if am_inI ((x2 + 32) + 2) then if (0 : Int) ≤ ((x2 + 32) + 2) ∧ ((x2 + 32) + 2) < (K (F a0 36)).2 then am_lt (am_u2 I_11 a0 5 (I_11 (F a0 36) ((x2 + 32) + 2))) (fun I_14 => some (0, I_14)) else none else none) else none else none else none) else none else none else none else none else none else none)
theorem w_X12_bring_s7 {η : am_E} {l : Launch} {N : Nat} {n : Nat} {K : am_K} {I : am_I} {F : am_F} {a0 : Nat} {r0 : Int × am_I} {k7 : am_I → Int → Int → Option (Int × am_I)} {x2 : Int} {x3 : Int} (h0 : (K a0).1 = 12) (H7 : ∀ (I : am_I) (x2 : Int) (x3 : Int), k7 I x2 x3 = some r0 → Ok η l M_X12_bring (am_qm η (am_pS 0 r0 n K F) 0 0) 7 [(0, qr a0), (2, qi x2), (3, qi x3)] [] n K I F 0 0) : X12_bring_s7 N K F a0 k7 I x2 x3 = some r0 → Ok η l M_X12_bring (am_qm η (am_pS 0 r0 n K F) 0 0) 7 [(0, qr a0), (2, qi x2), (3, qi x3)] [] n K I F 0 0 := by
  unfold X12_bring_s7
  refine ok_iload_n (q := 8) 2 dX12_bring_7 rfl rfl rfl ?_
  refine ok_bipush (q := 10) (x := 32) dX12_bring_8 rfl rfl (by decide) ?_
  refine ok_icmp_ge (q := 33) (q2 := 13) dX12_bring_10 rfl rfl ?_ ?_
  · skip
    refine ok_aload_n (q := 34) 0 dX12_bring_33 rfl rfl rfl ?_
    refine ok_getR (q := 37) (ci := 12) (k := 4) (x := F a0 4) dX12_bring_34 rfl fo_X12_17 h0 rfl ?_
    refine ok_iconst (q := 38) (x := 0) dX12_bring_37 rfl rfl (by decide) ?_
    refine ok_aload_n (q := 39) 0 dX12_bring_38 rfl rfl rfl ?_
    refine ok_getR (q := 42) (ci := 12) (k := 36) (x := F a0 36) dX12_bring_39 rfl fo_X12_69 h0 rfl ?_
    refine ok_iload_n (q := 43) 1 dX12_bring_42 rfl rfl rfl ?_
    refine ok_bipush (q := 45) (x := 32) dX12_bring_43 rfl rfl (by decide) ?_
    refine fi_chk (fun h_1 => ?_)
    refine ok_iadd (q := 46) dX12_bring_45 rfl h_1 ?_
    refine fi_chk (fun h_2 => ?_)
    refine fi_chk (fun h_3 => ?_)
    refine ok_iaload (q := 47) (v := I (F a0 36) (x2 + 32)) dX12_bring_46 rfl h_2 h_3.1 h_3.2 rfl ?_
    refine fi_chk (fun h_4 => ?_)
    refine fi_chk (fun h_5 => ?_)
    refine fi_chk (fun h_6 => ?_)
    refine ok_iastore (q := 48) dX12_bring_47 rfl h_4 h_5 h_6.1 h_6.2 (fun I_7 => ?_)
    refine ok_aload_n (q := 49) 0 dX12_bring_48 rfl rfl rfl ?_
    refine ok_getR (q := 52) (ci := 12) (k := 4) (x := F a0 4) dX12_bring_49 rfl fo_X12_17 h0 rfl ?_
    refine ok_iconst (q := 53) (x := 1) dX12_bring_52 rfl rfl (by decide) ?_
    refine ok_aload_n (q := 54) 0 dX12_bring_53 rfl rfl rfl ?_
    refine ok_getR (q := 57) (ci := 12) (k := 36) (x := F a0 36) dX12_bring_54 rfl fo_X12_69 h0 rfl ?_
    refine ok_iload_n (q := 58) 1 dX12_bring_57 rfl rfl rfl ?_
    refine ok_bipush (q := 60) (x := 32) dX12_bring_58 rfl rfl (by decide) ?_
    refine ok_iadd (q := 61) dX12_bring_60 rfl h_1 ?_
    refine ok_iconst (q := 62) (x := 1) dX12_bring_61 rfl rfl (by decide) ?_
    refine fi_chk (fun h_8 => ?_)
    refine ok_iadd (q := 63) dX12_bring_62 rfl h_8 ?_
    refine fi_chk (fun h_9 => ?_)
    refine ok_iaload (q := 64) (v := I_7 (F a0 36) ((x2 + 32) + 1)) dX12_bring_63 rfl h_2 h_9.1 h_9.2 rfl ?_
    refine fi_chk (fun h_10 => ?_)
    refine ok_iastore (q := 65) dX12_bring_64 rfl h_4 h_5 h_10.1 h_10.2 (fun I_11 => ?_)
    refine ok_aload_n (q := 66) 0 dX12_bring_65 rfl rfl rfl ?_
    refine ok_aload_n (q := 67) 0 dX12_bring_66 rfl rfl rfl ?_
    refine ok_getR (q := 70) (ci := 12) (k := 36) (x := F a0 36) dX12_bring_67 rfl fo_X12_69 h0 rfl ?_
    refine ok_iload_n (q := 71) 1 dX12_bring_70 rfl rfl rfl ?_
    refine ok_bipush (q := 73) (x := 32) dX12_bring_71 rfl rfl (by decide) ?_
    refine ok_iadd (q := 74) dX12_bring_73 rfl h_1 ?_
    refine ok_iconst (q := 75) (x := 2) dX12_bring_74 rfl rfl (by decide) ?_
    refine fi_chk (fun h_12 => ?_)
    refine ok_iadd (q := 76) dX12_bring_75 rfl h_12 ?_
    refine fi_chk (fun h_13 => ?_)
    refine ok_iaload (q := 77) (v := I_11 (F a0 36) ((x2 + 32) + 2)) dX12_bring_76 rfl h_2 h_13.1 h_13.2 rfl ?_
    refine ok_putI (q := 80) (ci := 12) (k := 5) dX12_bring_77 rfl fo_X12_96 h0 ft_12_5 ff_12_5 (fun I_14 => ?_)
    exact fi_returnS dX12_bring_80 rfl
  · skip
    refine ok_aload_n (q := 14) 0 dX12_bring_13 rfl rfl rfl ?_
    refine ok_getR (q := 17) (ci := 12) (k := 3) (x := F a0 3) dX12_bring_14 rfl fo_X12_13 h0 rfl ?_
    refine ok_iload_n (q := 18) 2 dX12_bring_17 rfl rfl rfl ?_
    refine ok_aload_n (q := 19) 0 dX12_bring_18 rfl rfl rfl ?_
    refine ok_getR (q := 22) (ci := 12) (k := 36) (x := F a0 36) dX12_bring_19 rfl fo_X12_69 h0 rfl ?_
    refine ok_iload_n (q := 23) 1 dX12_bring_22 rfl rfl rfl ?_
    refine ok_iload_n (q := 24) 2 dX12_bring_23 rfl rfl rfl ?_
    refine fi_chk (fun h_15 => ?_)
    refine ok_iadd (q := 25) dX12_bring_24 rfl h_15 ?_
    refine fi_chk (fun h_16 => ?_)
    refine fi_chk (fun h_17 => ?_)
    refine ok_iaload (q := 26) (v := I (F a0 36) (x2 + x3)) dX12_bring_25 rfl h_16 h_17.1 h_17.2 rfl ?_
    refine fi_chk (fun h_18 => ?_)
    refine fi_chk (fun h_19 => ?_)
    refine fi_chk (fun h_20 => ?_)
    refine ok_iastore (q := 27) dX12_bring_26 rfl h_18 h_19 h_20.1 h_20.2 (fun I_21 => ?_)
    refine fi_chk (fun h_22 => ?_)
    refine ok_iincL (q := 30) (fun x3_23 => [(3, qi x3_23), (0, qr a0), (2, qi x2)]) 2 dX12_bring_27 rfl rfl h_22 (Nat.le_of_ble_eq_true rfl) (fun _ => rfl) (fun x3_23 => ?_)
    refine ok_goto (q := 7) dX12_bring_30 rfl ?_
    exact fun g => ok_pick [1, 2, 0] rfl (H7 _ _ _ g)
def X12_bring_h7 (N : Nat) (K : am_K) (F : am_F) (a0 : Nat) : Nat → am_I → Int → Int → Option (Int × am_I) := am_it (fun kh => X12_bring_s7 N K F a0 kh) (fun _ _ _ => none)
theorem w_X12_bring_h7 {η : am_E} {l : Launch} {N : Nat} {n : Nat} {K : am_K} {F : am_F} {a0 : Nat} {r0 : Int × am_I} (h0 : (K a0).1 = 12) (f : Nat) : ∀ (I : am_I) (x2 : Int) (x3 : Int), X12_bring_h7 N K F a0 f I x2 x3 = some r0 → Ok η l M_X12_bring (am_qm η (am_pS 0 r0 n K F) 0 0) 7 [(0, qr a0), (2, qi x2), (3, qi x3)] [] n K I F 0 0 := by
  induction f with
  | zero => intro I x2 x3 g; exact fi_none g
  | succ f ih => intro I x2 x3 g; exact w_X12_bring_s7 (N := N) h0 ih g
def X12_bring (N : Nat) (K : am_K) (F : am_F) (a0 : Nat) (I : am_I) (x1 : Int) : Option (Int × am_I) :=
  if am_inI (x1 * 35) then am_lt (x1 * 35) (fun x2_2 => X12_bring_h7 N K F a0 N I x2_2 0) else none
theorem w_X12_bring {η : am_E} {l : Launch} {N : Nat} {n : Nat} {K : am_K} {I : am_I} {F : am_F} {a0 : Nat} {r0 : Int × am_I} {x1 : Int} (h0 : (K a0).1 = 12) : X12_bring N K F a0 I x1 = some r0 → Ok η l M_X12_bring (am_qm η (am_pS 0 r0 n K F) 0 0) 0 [(0, qr a0), (1, qi x1)] [] n K I F 0 0 := by
  unfold X12_bring
  refine ok_iload_n (q := 1) 1 dX12_bring_0 rfl rfl rfl ?_
  refine ok_bipush (q := 3) (x := 35) dX12_bring_1 rfl rfl (by decide) ?_
  refine fi_chk (fun h_1 => ?_)
  refine ok_imul (q := 4) dX12_bring_3 rfl h_1 ?_
  refine ok_istore_nL (q := 5) (fun x2_2 => [(2, qi x2_2), (0, qr a0), (1, qi x1)]) dX12_bring_4 rfl rfl (Nat.le_of_ble_eq_true rfl) (fun _ => rfl) (fun x2_2 => ?_)
  refine ok_iconst (q := 6) (x := 0) dX12_bring_5 rfl rfl (by decide) ?_
  refine ok_istore_n (q := 7) (ls' := [(3, qi 0), (2, qi x2_2), (0, qr a0), (1, qi x1)]) dX12_bring_6 rfl rfl (Nat.le_of_ble_eq_true rfl) rfl ?_
  exact fun g => ok_pick [2, 1, 0] rfl (w_X12_bring_h7 (N := N) h0 N _ _ _ g)
theorem ct_X12_bring {η : am_E} {l : Launch} {N : Nat} {n : Nat} {K : am_K} {I : am_I} {F : am_F} {a0 : Nat} {r0 : Int × am_I} {x1 : Int} (h0 : (K a0).1 = 12) : X12_bring N K F a0 I x1 = some r0 → am_Ct η l yX12_bring cX12_bring 4 none 0 0 0 0 [qr a0, qi x1] n K I F (am_pS 0 r0 n K F) := fun g => am_Ct.of false (by decide) (by decide) (Nat.le_of_ble_eq_true rfl) (fun _ => w_X12_bring (N := N) h0 g)
def M_X12_moveFrom : am_M := (yX12_moveFrom.cls, cX12_moveFrom, 3, (some .int), am_room 4 94 0 0, false)
def X12_moveFrom_s23 (N : Nat) (K : am_K) (F : am_F) (a0 : Nat) (k23 : am_I → Int → Option (Int × am_I)) (I : am_I) (x2 : Int) : Option (Int × am_I) :=
  am_cq (X12_all N K F I a0) (fun v_1 => if x2 < v_1 then (if (K (F a0 16)).1 = 100 then if (0 : Int) ≤ x2 ∧ x2 < (K (F a0 16)).2 then if (K (F a0 3)).1 = 100 then if F a0 3 ≠ 1 then if (0 : Int) ≤ x2 ∧ x2 < (K (F a0 3)).2 then am_lt (am_u2 I (F a0 3) x2 (I (F a0 16) x2)) (fun I_18 => if am_inI (x2 + 1) then am_lt (x2 + 1) (fun x2_20 => k23 I_18 x2_20) else none) else none else none else none else none else none) else (if (K (F a0 4)).1 = 100 then if (0 : Int) ≤ (I a0 5) ∧ (I a0 5) < (K (F a0 4)).2 then if am_inI ((I (F a0 4) (I a0 5)) + (I a0 17)) then if F a0 4 ≠ 1 then am_lt (am_u2 I (F a0 4) (I a0 5) ((I (F a0 4) (I a0 5)) + (I a0 17))) (fun I_6 => if am_inI (1 - (I_6 a0 5)) then am_lt (am_u2 I_6 a0 5 (1 - (I_6 a0 5))) (fun I_8 => if am_inI ((I_8 a0 37) + 1) then am_lt (am_u2 I_8 a0 37 ((I_8 a0 37) + 1)) (fun I_10 => am_lt (am_u2 I_10 a0 38 0) (fun I_11 => am_cl (X12_keep N K F a0 I_11 (I_11 a0 37)) (fun _ I_12 => some (I_12 a0 17, I_12)))) else none) else none) else none else none else none else none))
theorem w_X12_moveFrom_s23 {η : am_E} {l : Launch} {N : Nat} {n : Nat} {K : am_K} {I : am_I} {F : am_F} {a0 : Nat} {r0 : Int × am_I} {k23 : am_I → Int → Option (Int × am_I)} {x2 : Int} (h0 : (K a0).1 = 12) (H23 : ∀ (I : am_I) (x2 : Int), k23 I x2 = some r0 → Ok η l M_X12_moveFrom (am_qm η (am_pS 1 r0 n K F) 0 0) 23 [(0, qr a0), (2, qi x2)] [] n K I F 0 0) : X12_moveFrom_s23 N K F a0 k23 I x2 = some r0 → Ok η l M_X12_moveFrom (am_qm η (am_pS 1 r0 n K F) 0 0) 23 [(0, qr a0), (2, qi x2)] [] n K I F 0 0 := by
  unfold X12_moveFrom_s23
  refine ok_iload_n (q := 24) 1 dX12_moveFrom_23 rfl rfl rfl ?_
  refine ok_aload_n (q := 25) 0 dX12_moveFrom_24 rfl rfl rfl ?_
  refine fi_callV1P (q := 28) (as := []) (st := [qi x2]) dX12_moveFrom_25 rfl mo_X12_133 h0 rfl (Nat.le_of_ble_eq_true rfl) rfl rfl (Nat.le_of_ble_eq_true rfl) (Nat.le_of_ble_eq_true rfl) (Nat.le_of_ble_eq_true rfl) (Nat.zero_le _) (Nat.zero_le _) (fun _ hr => ct_X12_all (N := N) h0 hr) (fun v_1 => ?_)
  refine ok_icmp_ge (q := 49) (q2 := 31) dX12_moveFrom_28 rfl rfl ?_ ?_
  · skip
    refine ok_aload_n (q := 50) 0 dX12_moveFrom_49 rfl rfl rfl ?_
    refine ok_getR (q := 53) (ci := 12) (k := 4) (x := F a0 4) dX12_moveFrom_50 rfl fo_X12_17 h0 rfl ?_
    refine ok_aload_n (q := 54) 0 dX12_moveFrom_53 rfl rfl rfl ?_
    refine ok_getI (q := 57) (ci := 12) (k := 5) (x := I a0 5) dX12_moveFrom_54 rfl fo_X12_96 h0 rfl ?_
    refine ok_dup2 (q := 58) dX12_moveFrom_57 rfl rfl rfl ?_
    refine fi_chk (fun h_2 => ?_)
    refine fi_chk (fun h_3 => ?_)
    refine ok_iaload (q := 59) (v := I (F a0 4) (I a0 5)) dX12_moveFrom_58 rfl h_2 h_3.1 h_3.2 rfl ?_
    refine ok_aload_n (q := 60) 0 dX12_moveFrom_59 rfl rfl rfl ?_
    refine ok_getI (q := 63) (ci := 12) (k := 17) (x := I a0 17) dX12_moveFrom_60 rfl fo_X12_148 h0 rfl ?_
    refine fi_chk (fun h_4 => ?_)
    refine ok_iadd (q := 64) dX12_moveFrom_63 rfl h_4 ?_
    refine fi_chk (fun h_5 => ?_)
    refine ok_iastore (q := 65) dX12_moveFrom_64 rfl h_2 h_5 h_3.1 h_3.2 (fun I_6 => ?_)
    refine ok_aload_n (q := 66) 0 dX12_moveFrom_65 rfl rfl rfl ?_
    refine ok_iconst (q := 67) (x := 1) dX12_moveFrom_66 rfl rfl (by decide) ?_
    refine ok_aload_n (q := 68) 0 dX12_moveFrom_67 rfl rfl rfl ?_
    refine ok_getI (q := 71) (ci := 12) (k := 5) (x := I_6 a0 5) dX12_moveFrom_68 rfl fo_X12_96 h0 rfl ?_
    refine fi_chk (fun h_7 => ?_)
    refine ok_isub (q := 72) dX12_moveFrom_71 rfl h_7 ?_
    refine ok_putI (q := 75) (ci := 12) (k := 5) dX12_moveFrom_72 rfl fo_X12_96 h0 ft_12_5 ff_12_5 (fun I_8 => ?_)
    refine ok_aload_n (q := 76) 0 dX12_moveFrom_75 rfl rfl rfl ?_
    refine ok_dup (q := 77) dX12_moveFrom_76 rfl rfl ?_
    refine ok_getI (q := 80) (ci := 12) (k := 37) (x := I_8 a0 37) dX12_moveFrom_77 rfl fo_X12_121 h0 rfl ?_
    refine ok_iconst (q := 81) (x := 1) dX12_moveFrom_80 rfl rfl (by decide) ?_
    refine fi_chk (fun h_9 => ?_)
    refine ok_iadd (q := 82) dX12_moveFrom_81 rfl h_9 ?_
    refine ok_putI (q := 85) (ci := 12) (k := 37) dX12_moveFrom_82 rfl fo_X12_121 h0 ft_12_37 ff_12_37 (fun I_10 => ?_)
    refine ok_aload_n (q := 86) 0 dX12_moveFrom_85 rfl rfl rfl ?_
    refine ok_iconst (q := 87) (x := 0) dX12_moveFrom_86 rfl rfl (by decide) ?_
    refine ok_putI (q := 90) (ci := 12) (k := 38) dX12_moveFrom_87 rfl fo_X12_124 h0 ft_12_38 ff_12_38 (fun I_11 => ?_)
    refine ok_aload_n (q := 91) 0 dX12_moveFrom_90 rfl rfl rfl ?_
    refine ok_aload_n (q := 92) 0 dX12_moveFrom_91 rfl rfl rfl ?_
    refine ok_getI (q := 95) (ci := 12) (k := 37) (x := I_11 a0 37) dX12_moveFrom_92 rfl fo_X12_121 h0 rfl ?_
    refine fi_callV0S (q := 98) (as := [qi (I_11 a0 37)]) (st := []) dX12_moveFrom_95 rfl mo_X12_245 h0 rfl (Nat.le_of_ble_eq_true rfl) rfl rfl (Nat.le_of_ble_eq_true rfl) (Nat.le_of_ble_eq_true rfl) (Nat.le_of_ble_eq_true rfl) (Nat.zero_le _) (Nat.zero_le _) (fun _ hr => ct_X12_keep (N := N) h0 hr) (fun _ I_12 => ?_)
    refine ok_aload_n (q := 99) 0 dX12_moveFrom_98 rfl rfl rfl ?_
    refine ok_getI (q := 102) (ci := 12) (k := 17) (x := I_12 a0 17) dX12_moveFrom_99 rfl fo_X12_148 h0 rfl ?_
    exact fi_ireturnS dX12_moveFrom_102 rfl
  · skip
    refine ok_aload_n (q := 32) 0 dX12_moveFrom_31 rfl rfl rfl ?_
    refine ok_getR (q := 35) (ci := 12) (k := 3) (x := F a0 3) dX12_moveFrom_32 rfl fo_X12_13 h0 rfl ?_
    refine ok_iload_n (q := 36) 1 dX12_moveFrom_35 rfl rfl rfl ?_
    refine ok_aload_n (q := 37) 0 dX12_moveFrom_36 rfl rfl rfl ?_
    refine ok_getR (q := 40) (ci := 12) (k := 16) (x := F a0 16) dX12_moveFrom_37 rfl fo_X12_26 h0 rfl ?_
    refine ok_iload_n (q := 41) 1 dX12_moveFrom_40 rfl rfl rfl ?_
    refine fi_chk (fun h_13 => ?_)
    refine fi_chk (fun h_14 => ?_)
    refine ok_iaload (q := 42) (v := I (F a0 16) x2) dX12_moveFrom_41 rfl h_13 h_14.1 h_14.2 rfl ?_
    refine fi_chk (fun h_15 => ?_)
    refine fi_chk (fun h_16 => ?_)
    refine fi_chk (fun h_17 => ?_)
    refine ok_iastore (q := 43) dX12_moveFrom_42 rfl h_15 h_16 h_17.1 h_17.2 (fun I_18 => ?_)
    refine fi_chk (fun h_19 => ?_)
    refine ok_iincL (q := 46) (fun x2_20 => [(2, qi x2_20), (0, qr a0)]) 1 dX12_moveFrom_43 rfl rfl h_19 (Nat.le_of_ble_eq_true rfl) (fun _ => rfl) (fun x2_20 => ?_)
    refine ok_goto (q := 23) dX12_moveFrom_46 rfl ?_
    exact fun g => ok_pick [1, 0] rfl (H23 _ _ g)
def X12_moveFrom_h23 (N : Nat) (K : am_K) (F : am_F) (a0 : Nat) : Nat → am_I → Int → Option (Int × am_I) := am_it (fun kh => X12_moveFrom_s23 N K F a0 kh) (fun _ _ => none)
theorem w_X12_moveFrom_h23 {η : am_E} {l : Launch} {N : Nat} {n : Nat} {K : am_K} {F : am_F} {a0 : Nat} {r0 : Int × am_I} (h0 : (K a0).1 = 12) (f : Nat) : ∀ (I : am_I) (x2 : Int), X12_moveFrom_h23 N K F a0 f I x2 = some r0 → Ok η l M_X12_moveFrom (am_qm η (am_pS 1 r0 n K F) 0 0) 23 [(0, qr a0), (2, qi x2)] [] n K I F 0 0 := by
  induction f with
  | zero => intro I x2 g; exact fi_none g
  | succ f ih => intro I x2 g; exact w_X12_moveFrom_s23 (N := N) h0 ih g
def X12_moveFrom (N : Nat) (K : am_K) (F : am_F) (a0 : Nat) (I : am_I) (x1 : Int) : Option (Int × am_I) :=
  am_cl (X12_make N K F a0 I (F a0 3) (I a0 5) x1) (fun _ I_1 => am_cl (X12_keep N K F a0 I_1 (I_1 a0 37)) (fun _ I_2 => X12_moveFrom_h23 N K F a0 N I_2 0))
theorem w_X12_moveFrom {η : am_E} {l : Launch} {N : Nat} {n : Nat} {K : am_K} {I : am_I} {F : am_F} {a0 : Nat} {r0 : Int × am_I} {x1 : Int} (h0 : (K a0).1 = 12) : X12_moveFrom N K F a0 I x1 = some r0 → Ok η l M_X12_moveFrom (am_qm η (am_pS 1 r0 n K F) 0 0) 0 [(0, qr a0), (1, qi x1)] [] n K I F 0 0 := by
  unfold X12_moveFrom
  refine ok_aload_n (q := 1) 0 dX12_moveFrom_0 rfl rfl rfl ?_
  refine ok_aload_n (q := 2) 0 dX12_moveFrom_1 rfl rfl rfl ?_
  refine ok_getR (q := 5) (ci := 12) (k := 3) (x := F a0 3) dX12_moveFrom_2 rfl fo_X12_13 h0 rfl ?_
  refine ok_aload_n (q := 6) 0 dX12_moveFrom_5 rfl rfl rfl ?_
  refine ok_getI (q := 9) (ci := 12) (k := 5) (x := I a0 5) dX12_moveFrom_6 rfl fo_X12_96 h0 rfl ?_
  refine ok_iload_n (q := 10) 1 dX12_moveFrom_9 rfl rfl rfl ?_
  refine fi_callV0S (q := 13) (as := [qr (F a0 3), qi (I a0 5), qi x1]) (st := []) dX12_moveFrom_10 rfl mo_X12_172 h0 rfl (Nat.le_of_ble_eq_true rfl) rfl rfl (Nat.le_of_ble_eq_true rfl) (Nat.le_of_ble_eq_true rfl) (Nat.le_of_ble_eq_true rfl) (Nat.zero_le _) (Nat.zero_le _) (fun _ hr => ct_X12_make (N := N) h0 hr) (fun _ I_1 => ?_)
  refine ok_aload_n (q := 14) 0 dX12_moveFrom_13 rfl rfl rfl ?_
  refine ok_aload_n (q := 15) 0 dX12_moveFrom_14 rfl rfl rfl ?_
  refine ok_getI (q := 18) (ci := 12) (k := 37) (x := I_1 a0 37) dX12_moveFrom_15 rfl fo_X12_121 h0 rfl ?_
  refine fi_callV0S (q := 21) (as := [qi (I_1 a0 37)]) (st := []) dX12_moveFrom_18 rfl mo_X12_245 h0 rfl (Nat.le_of_ble_eq_true rfl) rfl rfl (Nat.le_of_ble_eq_true rfl) (Nat.le_of_ble_eq_true rfl) (Nat.le_of_ble_eq_true rfl) (Nat.zero_le _) (Nat.zero_le _) (fun _ hr => ct_X12_keep (N := N) h0 hr) (fun _ I_2 => ?_)
  refine ok_iconst (q := 22) (x := 0) dX12_moveFrom_21 rfl rfl (by decide) ?_
  refine ok_istore_n (q := 23) (ls' := [(2, qi 0), (0, qr a0), (1, qi x1)]) dX12_moveFrom_22 rfl rfl (Nat.le_of_ble_eq_true rfl) rfl ?_
  exact fun g => ok_pick [1, 0] rfl (w_X12_moveFrom_h23 (N := N) h0 N _ _ g)
theorem ct_X12_moveFrom {η : am_E} {l : Launch} {N : Nat} {n : Nat} {K : am_K} {I : am_I} {F : am_F} {a0 : Nat} {r0 : Int × am_I} {x1 : Int} (h0 : (K a0).1 = 12) : X12_moveFrom N K F a0 I x1 = some r0 → am_Ct η l yX12_moveFrom cX12_moveFrom 3 (some .int) 4 94 0 0 [qr a0, qi x1] n K I F (am_pS 1 r0 n K F) := fun g => am_Ct.of false (by decide) (by decide) (Nat.le_of_ble_eq_true rfl) (fun _ => w_X12_moveFrom (N := N) h0 g)
def M_X12_forget : am_M := (yX12_forget.cls, cX12_forget, 1, none, am_room 0 0 0 0, false)
def X12_forget (N : Nat) (K : am_K) (F : am_F) (a0 : Nat) (I : am_I) : Option (Int × am_I) :=
  am_lt (am_u2 I a0 37 0) (fun I_1 => am_lt (am_u2 I_1 a0 38 0) (fun I_2 => some (0, I_2)))
theorem w_X12_forget {η : am_E} {l : Launch} {N : Nat} {n : Nat} {K : am_K} {I : am_I} {F : am_F} {a0 : Nat} {r0 : Int × am_I} (h0 : (K a0).1 = 12) : X12_forget N K F a0 I = some r0 → Ok η l M_X12_forget (am_qm η (am_pS 0 r0 n K F) 0 0) 0 [(0, qr a0)] [] n K I F 0 0 := by
  unfold X12_forget
  refine ok_aload_n (q := 1) 0 dX12_forget_0 rfl rfl rfl ?_
  refine ok_iconst (q := 2) (x := 0) dX12_forget_1 rfl rfl (by decide) ?_
  refine ok_putI (q := 5) (ci := 12) (k := 37) dX12_forget_2 rfl fo_X12_121 h0 ft_12_37 ff_12_37 (fun I_1 => ?_)
  refine ok_aload_n (q := 6) 0 dX12_forget_5 rfl rfl rfl ?_
  refine ok_iconst (q := 7) (x := 0) dX12_forget_6 rfl rfl (by decide) ?_
  refine ok_putI (q := 10) (ci := 12) (k := 38) dX12_forget_7 rfl fo_X12_124 h0 ft_12_38 ff_12_38 (fun I_2 => ?_)
  exact fi_returnS dX12_forget_10 rfl
theorem ct_X12_forget {η : am_E} {l : Launch} {N : Nat} {n : Nat} {K : am_K} {I : am_I} {F : am_F} {a0 : Nat} {r0 : Int × am_I} (h0 : (K a0).1 = 12) : X12_forget N K F a0 I = some r0 → am_Ct η l yX12_forget cX12_forget 1 none 0 0 0 0 [qr a0] n K I F (am_pS 0 r0 n K F) := fun g => am_Ct.of false (by decide) (by decide) (Nat.le_of_ble_eq_true rfl) (fun _ => w_X12_forget (N := N) h0 g)
def M_X12_otherGame : am_M := (yX12_otherGame.cls, cX12_otherGame, 1, none, am_room 1 20 0 0, false)
def X12_otherGame (N : Nat) (K : am_K) (F : am_F) (a0 : Nat) (I : am_I) : Option (Int × am_I) :=
  am_cl (X12_forget N K F a0 I) (fun _ I_1 => am_lt (am_u2 I_1 a0 21 0) (fun I_2 => some (0, I_2)))
theorem w_X12_otherGame {η : am_E} {l : Launch} {N : Nat} {n : Nat} {K : am_K} {I : am_I} {F : am_F} {a0 : Nat} {r0 : Int × am_I} (h0 : (K a0).1 = 12) : X12_otherGame N K F a0 I = some r0 → Ok η l M_X12_otherGame (am_qm η (am_pS 0 r0 n K F) 0 0) 0 [(0, qr a0)] [] n K I F 0 0 := by
  unfold X12_otherGame
  refine ok_aload_n (q := 1) 0 dX12_otherGame_0 rfl rfl rfl ?_
  refine fi_callV0S (q := 4) (as := []) (st := []) dX12_otherGame_1 rfl mo_X12_248 h0 rfl (Nat.le_of_ble_eq_true rfl) rfl rfl (Nat.le_of_ble_eq_true rfl) (Nat.le_of_ble_eq_true rfl) (Nat.le_of_ble_eq_true rfl) (Nat.zero_le _) (Nat.zero_le _) (fun _ hr => ct_X12_forget (N := N) h0 hr) (fun _ I_1 => ?_)
  refine ok_aload_n (q := 5) 0 dX12_otherGame_4 rfl rfl rfl ?_
  refine ok_iconst (q := 6) (x := 0) dX12_otherGame_5 rfl rfl (by decide) ?_
  refine ok_putZ (q := 9) (ci := 12) (k := 21) dX12_otherGame_6 rfl fo_X12_127 h0 ft_12_21 (by decide) ff_12_21 (fun I_2 => ?_)
  exact fi_returnS dX12_otherGame_9 rfl
theorem ct_X12_otherGame {η : am_E} {l : Launch} {N : Nat} {n : Nat} {K : am_K} {I : am_I} {F : am_F} {a0 : Nat} {r0 : Int × am_I} (h0 : (K a0).1 = 12) : X12_otherGame N K F a0 I = some r0 → am_Ct η l yX12_otherGame cX12_otherGame 1 none 1 20 0 0 [qr a0] n K I F (am_pS 0 r0 n K F) := fun g => am_Ct.of false (by decide) (by decide) (Nat.le_of_ble_eq_true rfl) (fun _ => w_X12_otherGame (N := N) h0 g)
def M_X12_follow : am_M := (yX12_follow.cls, cX12_follow, 6, (some .int), am_room 6 143 0 0, false)
def X12_follow_b181 (N : Nat) (K : am_K) (F : am_F) (a0 : Nat) (I : am_I) : Option (Int × am_I) :=
  some (I a0 40, I)
theorem w_X12_follow_b181 {η : am_E} {l : Launch} {N : Nat} {n : Nat} {K : am_K} {I : am_I} {F : am_F} {a0 : Nat} {r0 : Int × am_I} (h0 : (K a0).1 = 12) : X12_follow_b181 N K F a0 I = some r0 → Ok η l M_X12_follow (am_qm η (am_pS 1 r0 n K F) 0 0) 181 [(0, qr a0)] [] n K I F 0 0 := by
  unfold X12_follow_b181
  refine ok_aload_n (q := 182) 0 dX12_follow_181 rfl rfl rfl ?_
  refine ok_getI (q := 185) (ci := 12) (k := 40) (x := I a0 40) dX12_follow_182 rfl fo_X12_251 h0 rfl ?_
  exact fi_ireturnS dX12_follow_185 rfl
def X12_follow_b178 (N : Nat) (K : am_K) (F : am_F) (a0 : Nat) (k22 : am_I → Option (Int × am_I)) (I : am_I) : Option (Int × am_I) :=
  k22 I
theorem w_X12_follow_b178 {η : am_E} {l : Launch} {N : Nat} {n : Nat} {K : am_K} {I : am_I} {F : am_F} {a0 : Nat} {r0 : Int × am_I} {k22 : am_I → Option (Int × am_I)} (h0 : (K a0).1 = 12) (H22 : ∀ (I : am_I), k22 I = some r0 → Ok η l M_X12_follow (am_qm η (am_pS 1 r0 n K F) 0 0) 22 [(0, qr a0)] [] n K I F 0 0) : X12_follow_b178 N K F a0 k22 I = some r0 → Ok η l M_X12_follow (am_qm η (am_pS 1 r0 n K F) 0 0) 178 [(0, qr a0)] [] n K I F 0 0 := by
  unfold X12_follow_b178
  refine ok_goto (q := 22) dX12_follow_178 rfl ?_
  exact fun g => ok_pick [0] rfl (H22 _ g)
def X12_follow_b172 (N : Nat) (K : am_K) (F : am_F) (a0 : Nat) (k22 : am_I → Option (Int × am_I)) (k130 : am_I → Int → Option (Int × am_I)) (I : am_I) (x5 : Int) : Option (Int × am_I) :=
  if am_inI (x5 + 1) then am_lt (x5 + 1) (fun x5_2 => k130 I x5_2) else none
theorem w_X12_follow_b172 {η : am_E} {l : Launch} {N : Nat} {n : Nat} {K : am_K} {I : am_I} {F : am_F} {a0 : Nat} {r0 : Int × am_I} {k22 : am_I → Option (Int × am_I)} {k130 : am_I → Int → Option (Int × am_I)} {x5 : Int} (h0 : (K a0).1 = 12) (H22 : ∀ (I : am_I), k22 I = some r0 → Ok η l M_X12_follow (am_qm η (am_pS 1 r0 n K F) 0 0) 22 [(0, qr a0)] [] n K I F 0 0) (H130 : ∀ (I : am_I) (x5 : Int), k130 I x5 = some r0 → Ok η l M_X12_follow (am_qm η (am_pS 1 r0 n K F) 0 0) 130 [(0, qr a0), (5, qi x5)] [] n K I F 0 0) : X12_follow_b172 N K F a0 k22 k130 I x5 = some r0 → Ok η l M_X12_follow (am_qm η (am_pS 1 r0 n K F) 0 0) 172 [(0, qr a0), (5, qi x5)] [] n K I F 0 0 := by
  unfold X12_follow_b172
  refine fi_chk (fun h_1 => ?_)
  refine ok_iincL (q := 175) (fun x5_2 => [(5, qi x5_2), (0, qr a0)]) 1 dX12_follow_172 rfl rfl h_1 (Nat.le_of_ble_eq_true rfl) (fun _ => rfl) (fun x5_2 => ?_)
  refine ok_goto (q := 130) dX12_follow_175 rfl ?_
  exact fun g => ok_pick [1, 0] rfl (H130 _ _ g)
def X12_follow_s130 (N : Nat) (K : am_K) (F : am_F) (a0 : Nat) (k22 : am_I → Option (Int × am_I)) (k130 : am_I → Int → Option (Int × am_I)) (I : am_I) (x5 : Int) : Option (Int × am_I) :=
  if x5 < (I a0 40) then (if (I a0 43) = (-1) then (if (K (F a0 42)).1 = 100 then if (0 : Int) ≤ x5 ∧ x5 < (K (F a0 42)).2 then if (0 : Int) ≤ (I a0 40) ∧ (I a0 40) < (K (F a0 42)).2 then if (I (F a0 42) x5) = (I (F a0 42) (I a0 40)) then (am_lt (am_u2 I a0 43 x5) (fun I_4 => X12_follow_b172 N K F a0 k22 k130 I_4 x5)) else (X12_follow_b172 N K F a0 k22 k130 I x5) else none else none else none) else (X12_follow_b178 N K F a0 k22 I)) else (X12_follow_b178 N K F a0 k22 I)
theorem w_X12_follow_s130 {η : am_E} {l : Launch} {N : Nat} {n : Nat} {K : am_K} {I : am_I} {F : am_F} {a0 : Nat} {r0 : Int × am_I} {k22 : am_I → Option (Int × am_I)} {k130 : am_I → Int → Option (Int × am_I)} {x5 : Int} (h0 : (K a0).1 = 12) (H22 : ∀ (I : am_I), k22 I = some r0 → Ok η l M_X12_follow (am_qm η (am_pS 1 r0 n K F) 0 0) 22 [(0, qr a0)] [] n K I F 0 0) (H130 : ∀ (I : am_I) (x5 : Int), k130 I x5 = some r0 → Ok η l M_X12_follow (am_qm η (am_pS 1 r0 n K F) 0 0) 130 [(0, qr a0), (5, qi x5)] [] n K I F 0 0) : X12_follow_s130 N K F a0 k22 k130 I x5 = some r0 → Ok η l M_X12_follow (am_qm η (am_pS 1 r0 n K F) 0 0) 130 [(0, qr a0), (5, qi x5)] [] n K I F 0 0 := by
  unfold X12_follow_s130
  refine ok_iload (q := 132) 1 dX12_follow_130 rfl rfl ?_
  refine ok_aload_n (q := 133) 0 dX12_follow_132 rfl rfl rfl ?_
  refine ok_getI (q := 136) (ci := 12) (k := 40) (x := I a0 40) dX12_follow_133 rfl fo_X12_251 h0 rfl ?_
  refine ok_icmp_ge (q := 178) (q2 := 139) dX12_follow_136 rfl rfl ?_ ?_
  · skip
    exact fun g => ok_pick [0] rfl (w_X12_follow_b178 (N := N) h0 H22 g)
  · skip
    refine ok_aload_n (q := 140) 0 dX12_follow_139 rfl rfl rfl ?_
    refine ok_getI (q := 143) (ci := 12) (k := 43) (x := I a0 43) dX12_follow_140 rfl fo_X12_254 h0 rfl ?_
    refine ok_iconst (q := 144) (x := -1) dX12_follow_143 rfl rfl (by decide) ?_
    refine ok_icmp_ne (q := 178) (q2 := 147) dX12_follow_144 rfl rfl ?_ ?_
    · skip
      exact fun g => ok_pick [0] rfl (w_X12_follow_b178 (N := N) h0 H22 g)
    · skip
      refine ok_aload_n (q := 148) 0 dX12_follow_147 rfl rfl rfl ?_
      refine ok_getR (q := 151) (ci := 12) (k := 42) (x := F a0 42) dX12_follow_148 rfl fo_X12_75 h0 rfl ?_
      refine ok_iload (q := 153) 1 dX12_follow_151 rfl rfl ?_
      refine fi_chk (fun h_1 => ?_)
      refine fi_chk (fun h_2 => ?_)
      refine ok_iaload (q := 154) (v := I (F a0 42) x5) dX12_follow_153 rfl h_1 h_2.1 h_2.2 rfl ?_
      refine ok_aload_n (q := 155) 0 dX12_follow_154 rfl rfl rfl ?_
      refine ok_getR (q := 158) (ci := 12) (k := 42) (x := F a0 42) dX12_follow_155 rfl fo_X12_75 h0 rfl ?_
      refine ok_aload_n (q := 159) 0 dX12_follow_158 rfl rfl rfl ?_
      refine ok_getI (q := 162) (ci := 12) (k := 40) (x := I a0 40) dX12_follow_159 rfl fo_X12_251 h0 rfl ?_
      refine fi_chk (fun h_3 => ?_)
      refine ok_iaload (q := 163) (v := I (F a0 42) (I a0 40)) dX12_follow_162 rfl h_1 h_3.1 h_3.2 rfl ?_
      refine ok_icmp_ne (q := 172) (q2 := 166) dX12_follow_163 rfl rfl ?_ ?_
      · skip
        exact fun g => ok_pick [0, 1] rfl (w_X12_follow_b172 (N := N) h0 H22 H130 g)
      · skip
        refine ok_aload_n (q := 167) 0 dX12_follow_166 rfl rfl rfl ?_
        refine ok_iload (q := 169) 1 dX12_follow_167 rfl rfl ?_
        refine ok_putI (q := 172) (ci := 12) (k := 43) dX12_follow_169 rfl fo_X12_254 h0 ft_12_43 ff_12_43 (fun I_4 => ?_)
        exact fun g => ok_pick [0, 1] rfl (w_X12_follow_b172 (N := N) h0 H22 H130 g)
def X12_follow_h130 (N : Nat) (K : am_K) (F : am_F) (a0 : Nat) (k22 : am_I → Option (Int × am_I)) : Nat → am_I → Int → Option (Int × am_I) := am_it (fun kh => X12_follow_s130 N K F a0 k22 kh) (fun _ _ => none)
theorem w_X12_follow_h130 {η : am_E} {l : Launch} {N : Nat} {n : Nat} {K : am_K} {F : am_F} {a0 : Nat} {r0 : Int × am_I} {k22 : am_I → Option (Int × am_I)} (h0 : (K a0).1 = 12) (H22 : ∀ (I : am_I), k22 I = some r0 → Ok η l M_X12_follow (am_qm η (am_pS 1 r0 n K F) 0 0) 22 [(0, qr a0)] [] n K I F 0 0) (f : Nat) : ∀ (I : am_I) (x5 : Int), X12_follow_h130 N K F a0 k22 f I x5 = some r0 → Ok η l M_X12_follow (am_qm η (am_pS 1 r0 n K F) 0 0) 130 [(0, qr a0), (5, qi x5)] [] n K I F 0 0 := by
  induction f with
  | zero => intro I x5 g; exact fi_none g
  | succ f ih => intro I x5 g; exact w_X12_follow_s130 (N := N) h0 H22 ih g
def X12_follow_s22 (N : Nat) (K : am_K) (F : am_F) (a0 : Nat) (k22 : am_I → Option (Int × am_I)) (I : am_I) : Option (Int × am_I) :=
  if (I a0 40) < 400 then (if (I a0 43) = (-1) then (if (K (F a0 42)).1 = 100 then if (0 : Int) ≤ (I a0 40) ∧ (I a0 40) < (K (F a0 42)).2 then am_lt (I (F a0 42) (I a0 40)) (fun x2_3 => am_cl (X12_bestOf N K F a0 I x2_3) (fun v_4 I_5 => if v_4 = (-1) then (some (I_5 a0 40, I_5)) else (am_cl (X12_layOut N K F a0 I_5 x2_3) (fun v_6 I_7 => am_cl (X12_make N K F a0 I_7 (F a0 20) v_6 v_4) (fun _ I_8 => if (K (F a0 41)).1 = 100 then if F a0 41 ≠ 1 then if (0 : Int) ≤ (I_8 a0 40) ∧ (I_8 a0 40) < (K (F a0 41)).2 then am_lt (am_u2 I_8 (F a0 41) (I_8 a0 40) v_4) (fun I_12 => if am_inI ((I_12 a0 40) + 1) then am_lt (am_u2 I_12 a0 40 ((I_12 a0 40) + 1)) (fun I_14 => if am_inI (1 - v_6) then am_cq (X12_placeOf N K F I_14 a0 (F a0 16) (1 - v_6)) (fun v_16 => if am_inI (v_16) then if F a0 42 ≠ 1 then if (0 : Int) ≤ (I_14 a0 40) ∧ (I_14 a0 40) < (K (F a0 42)).2 then am_lt (am_u2 I_14 (F a0 42) (I_14 a0 40) v_16) (fun I_20 => X12_follow_h130 N K F a0 k22 N I_20 0) else none else none else none) else none) else none) else none else none else none))))) else none else none) else (X12_follow_b181 N K F a0 I)) else (X12_follow_b181 N K F a0 I)
theorem w_X12_follow_s22 {η : am_E} {l : Launch} {N : Nat} {n : Nat} {K : am_K} {I : am_I} {F : am_F} {a0 : Nat} {r0 : Int × am_I} {k22 : am_I → Option (Int × am_I)} (h0 : (K a0).1 = 12) (H22 : ∀ (I : am_I), k22 I = some r0 → Ok η l M_X12_follow (am_qm η (am_pS 1 r0 n K F) 0 0) 22 [(0, qr a0)] [] n K I F 0 0) : X12_follow_s22 N K F a0 k22 I = some r0 → Ok η l M_X12_follow (am_qm η (am_pS 1 r0 n K F) 0 0) 22 [(0, qr a0)] [] n K I F 0 0 := by
  unfold X12_follow_s22
  refine ok_aload_n (q := 23) 0 dX12_follow_22 rfl rfl rfl ?_
  refine ok_getI (q := 26) (ci := 12) (k := 40) (x := I a0 40) dX12_follow_23 rfl fo_X12_251 h0 rfl ?_
  refine ok_sipush (q := 29) (x := 400) dX12_follow_26 rfl rfl (by decide) ?_
  refine ok_icmp_ge (q := 181) (q2 := 32) dX12_follow_29 rfl rfl ?_ ?_
  · skip
    exact fun g => ok_pick [0] rfl (w_X12_follow_b181 (N := N) h0 g)
  · skip
    refine ok_aload_n (q := 33) 0 dX12_follow_32 rfl rfl rfl ?_
    refine ok_getI (q := 36) (ci := 12) (k := 43) (x := I a0 43) dX12_follow_33 rfl fo_X12_254 h0 rfl ?_
    refine ok_iconst (q := 37) (x := -1) dX12_follow_36 rfl rfl (by decide) ?_
    refine ok_icmp_ne (q := 181) (q2 := 40) dX12_follow_37 rfl rfl ?_ ?_
    · skip
      exact fun g => ok_pick [0] rfl (w_X12_follow_b181 (N := N) h0 g)
    · skip
      refine ok_aload_n (q := 41) 0 dX12_follow_40 rfl rfl rfl ?_
      refine ok_getR (q := 44) (ci := 12) (k := 42) (x := F a0 42) dX12_follow_41 rfl fo_X12_75 h0 rfl ?_
      refine ok_aload_n (q := 45) 0 dX12_follow_44 rfl rfl rfl ?_
      refine ok_getI (q := 48) (ci := 12) (k := 40) (x := I a0 40) dX12_follow_45 rfl fo_X12_251 h0 rfl ?_
      refine fi_chk (fun h_1 => ?_)
      refine fi_chk (fun h_2 => ?_)
      refine ok_iaload (q := 49) (v := I (F a0 42) (I a0 40)) dX12_follow_48 rfl h_1 h_2.1 h_2.2 rfl ?_
      refine ok_istore_nL (q := 50) (fun x2_3 => [(2, qi x2_3), (0, qr a0)]) dX12_follow_49 rfl rfl (Nat.le_of_ble_eq_true rfl) (fun _ => rfl) (fun x2_3 => ?_)
      refine ok_aload_n (q := 51) 1 dX12_follow_50 rfl rfl rfl ?_
      refine ok_iload_n (q := 52) 0 dX12_follow_51 rfl rfl rfl ?_
      refine fi_callV1S (q := 55) (as := [qi x2_3]) (st := []) dX12_follow_52 rfl mo_X12_257 h0 rfl (Nat.le_of_ble_eq_true rfl) rfl rfl (Nat.le_of_ble_eq_true rfl) (Nat.le_of_ble_eq_true rfl) (Nat.le_of_ble_eq_true rfl) (Nat.zero_le _) (Nat.zero_le _) (fun _ hr => ct_X12_bestOf (N := N) h0 hr) (fun v_4 I_5 => ?_)
      refine ok_istore_n (q := 56) (ls' := [(3, qi v_4), (2, qi x2_3), (0, qr a0)]) dX12_follow_55 rfl rfl (Nat.le_of_ble_eq_true rfl) rfl ?_
      refine ok_iload_n (q := 57) 0 dX12_follow_56 rfl rfl rfl ?_
      refine ok_iconst (q := 58) (x := -1) dX12_follow_57 rfl rfl (by decide) ?_
      refine ok_icmp_ne (q := 66) (q2 := 61) dX12_follow_58 rfl rfl ?_ ?_
      · skip
        refine ok_aload_n (q := 67) 2 dX12_follow_66 rfl rfl rfl ?_
        refine ok_iload_n (q := 68) 1 dX12_follow_67 rfl rfl rfl ?_
        refine ok_i2l (q := 69) dX12_follow_68 rfl ?_
        refine fi_callV1S (q := 72) (as := [ql x2_3]) (st := []) dX12_follow_69 rfl mo_X12_197 h0 rfl (Nat.le_of_ble_eq_true rfl) rfl rfl (Nat.le_of_ble_eq_true rfl) (Nat.le_of_ble_eq_true rfl) (Nat.le_of_ble_eq_true rfl) (Nat.zero_le _) (Nat.zero_le _) (fun _ hr => ct_X12_layOut (N := N) h0 hr) (fun v_6 I_7 => ?_)
        refine ok_istore (q := 74) (ls' := [(4, qi v_6), (3, qi v_4), (2, qi x2_3), (0, qr a0)]) dX12_follow_72 rfl (Nat.le_of_ble_eq_true rfl) rfl ?_
        refine ok_aload_n (q := 75) 3 dX12_follow_74 rfl rfl rfl ?_
        refine ok_aload_n (q := 76) 3 dX12_follow_75 rfl rfl rfl ?_
        refine ok_getR (q := 79) (ci := 12) (k := 20) (x := F a0 20) dX12_follow_76 rfl fo_X12_29 h0 rfl ?_
        refine ok_iload (q := 81) 0 dX12_follow_79 rfl rfl ?_
        refine ok_iload_n (q := 82) 1 dX12_follow_81 rfl rfl rfl ?_
        refine fi_callV0S (q := 85) (as := [qr (F a0 20), qi v_6, qi v_4]) (st := []) dX12_follow_82 rfl mo_X12_172 h0 rfl (Nat.le_of_ble_eq_true rfl) rfl rfl (Nat.le_of_ble_eq_true rfl) (Nat.le_of_ble_eq_true rfl) (Nat.le_of_ble_eq_true rfl) (Nat.zero_le _) (Nat.zero_le _) (fun _ hr => ct_X12_make (N := N) h0 hr) (fun _ I_8 => ?_)
        refine ok_aload_n (q := 86) 3 dX12_follow_85 rfl rfl rfl ?_
        refine ok_getR (q := 89) (ci := 12) (k := 41) (x := F a0 41) dX12_follow_86 rfl fo_X12_72 h0 rfl ?_
        refine ok_aload_n (q := 90) 3 dX12_follow_89 rfl rfl rfl ?_
        refine ok_getI (q := 93) (ci := 12) (k := 40) (x := I_8 a0 40) dX12_follow_90 rfl fo_X12_251 h0 rfl ?_
        refine ok_iload_n (q := 94) 1 dX12_follow_93 rfl rfl rfl ?_
        refine fi_chk (fun h_9 => ?_)
        refine fi_chk (fun h_10 => ?_)
        refine fi_chk (fun h_11 => ?_)
        refine ok_iastore (q := 95) dX12_follow_94 rfl h_9 h_10 h_11.1 h_11.2 (fun I_12 => ?_)
        refine ok_aload_n (q := 96) 3 dX12_follow_95 rfl rfl rfl ?_
        refine ok_dup (q := 97) dX12_follow_96 rfl rfl ?_
        refine ok_getI (q := 100) (ci := 12) (k := 40) (x := I_12 a0 40) dX12_follow_97 rfl fo_X12_251 h0 rfl ?_
        refine ok_iconst (q := 101) (x := 1) dX12_follow_100 rfl rfl (by decide) ?_
        refine fi_chk (fun h_13 => ?_)
        refine ok_iadd (q := 102) dX12_follow_101 rfl h_13 ?_
        refine ok_putI (q := 105) (ci := 12) (k := 40) dX12_follow_102 rfl fo_X12_251 h0 ft_12_40 ff_12_40 (fun I_14 => ?_)
        refine ok_aload_n (q := 106) 3 dX12_follow_105 rfl rfl rfl ?_
        refine ok_getR (q := 109) (ci := 12) (k := 42) (x := F a0 42) dX12_follow_106 rfl fo_X12_75 h0 rfl ?_
        refine ok_aload_n (q := 110) 3 dX12_follow_109 rfl rfl rfl ?_
        refine ok_getI (q := 113) (ci := 12) (k := 40) (x := I_14 a0 40) dX12_follow_110 rfl fo_X12_251 h0 rfl ?_
        refine ok_aload_n (q := 114) 3 dX12_follow_113 rfl rfl rfl ?_
        refine ok_aload_n (q := 115) 3 dX12_follow_114 rfl rfl rfl ?_
        refine ok_getR (q := 118) (ci := 12) (k := 16) (x := F a0 16) dX12_follow_115 rfl fo_X12_26 h0 rfl ?_
        refine ok_iconst (q := 119) (x := 1) dX12_follow_118 rfl rfl (by decide) ?_
        refine ok_iload (q := 121) 0 dX12_follow_119 rfl rfl ?_
        refine fi_chk (fun h_15 => ?_)
        refine ok_isub (q := 122) dX12_follow_121 rfl h_15 ?_
        refine fi_callV2P (q := 125) (as := [qr (F a0 16), qi (1 - v_6)]) (st := [qi (I_14 a0 40), qr (F a0 42)]) dX12_follow_122 rfl mo_X12_209 h0 rfl (Nat.le_of_ble_eq_true rfl) rfl rfl (Nat.le_of_ble_eq_true rfl) (Nat.le_of_ble_eq_true rfl) (Nat.le_of_ble_eq_true rfl) (Nat.zero_le _) (Nat.zero_le _) (fun _ hr => ct_X12_placeOf (N := N) h0 hr) (fun v_16 => ?_)
        refine fi_chk (fun h_17 => ?_)
        refine ok_l2i (q := 126) dX12_follow_125 rfl h_17 ?_
        refine fi_chk (fun h_18 => ?_)
        refine fi_chk (fun h_19 => ?_)
        refine ok_iastore (q := 127) dX12_follow_126 rfl h_1 h_18 h_19.1 h_19.2 (fun I_20 => ?_)
        refine ok_iconst (q := 128) (x := 0) dX12_follow_127 rfl rfl (by decide) ?_
        refine ok_istore (q := 130) (ls' := [(5, qi 0), (4, qi v_6), (3, qi v_4), (2, qi x2_3), (0, qr a0)]) dX12_follow_128 rfl (Nat.le_of_ble_eq_true rfl) rfl ?_
        exact fun g => ok_pick [4, 0] rfl (w_X12_follow_h130 (N := N) h0 H22 N _ _ g)
      · skip
        refine ok_aload_n (q := 62) 2 dX12_follow_61 rfl rfl rfl ?_
        refine ok_getI (q := 65) (ci := 12) (k := 40) (x := I_5 a0 40) dX12_follow_62 rfl fo_X12_251 h0 rfl ?_
        exact fi_ireturnS dX12_follow_65 rfl
def X12_follow_h22 (N : Nat) (K : am_K) (F : am_F) (a0 : Nat) : Nat → am_I → Option (Int × am_I) := am_it (fun kh => X12_follow_s22 N K F a0 kh) (fun _ => none)
theorem w_X12_follow_h22 {η : am_E} {l : Launch} {N : Nat} {n : Nat} {K : am_K} {F : am_F} {a0 : Nat} {r0 : Int × am_I} (h0 : (K a0).1 = 12) (f : Nat) : ∀ (I : am_I), X12_follow_h22 N K F a0 f I = some r0 → Ok η l M_X12_follow (am_qm η (am_pS 1 r0 n K F) 0 0) 22 [(0, qr a0)] [] n K I F 0 0 := by
  induction f with
  | zero => intro I g; exact fi_none g
  | succ f ih => intro I g; exact w_X12_follow_s22 (N := N) h0 ih g
def X12_follow (N : Nat) (K : am_K) (F : am_F) (a0 : Nat) (I : am_I) (x1 : Int) : Option (Int × am_I) :=
  am_lt (am_u2 I a0 39 1) (fun I_1 => am_lt (am_u2 I_1 a0 40 0) (fun I_2 => am_lt (am_u2 I_2 a0 43 (-1)) (fun I_3 => if (K (F a0 42)).1 = 100 then if F a0 42 ≠ 1 then if (0 : Int) ≤ 0 ∧ 0 < (K (F a0 42)).2 then am_lt (am_u2 I_3 (F a0 42) 0 x1) (fun I_7 => X12_follow_h22 N K F a0 N I_7) else none else none else none)))
theorem w_X12_follow {η : am_E} {l : Launch} {N : Nat} {n : Nat} {K : am_K} {I : am_I} {F : am_F} {a0 : Nat} {r0 : Int × am_I} {x1 : Int} (h0 : (K a0).1 = 12) : X12_follow N K F a0 I x1 = some r0 → Ok η l M_X12_follow (am_qm η (am_pS 1 r0 n K F) 0 0) 0 [(0, qr a0), (1, qi x1)] [] n K I F 0 0 := by
  unfold X12_follow
  refine ok_aload_n (q := 1) 0 dX12_follow_0 rfl rfl rfl ?_
  refine ok_iconst (q := 2) (x := 1) dX12_follow_1 rfl rfl (by decide) ?_
  refine ok_putZ (q := 5) (ci := 12) (k := 39) dX12_follow_2 rfl fo_X12_130 h0 ft_12_39 (by decide) ff_12_39 (fun I_1 => ?_)
  refine ok_aload_n (q := 6) 0 dX12_follow_5 rfl rfl rfl ?_
  refine ok_iconst (q := 7) (x := 0) dX12_follow_6 rfl rfl (by decide) ?_
  refine ok_putI (q := 10) (ci := 12) (k := 40) dX12_follow_7 rfl fo_X12_251 h0 ft_12_40 ff_12_40 (fun I_2 => ?_)
  refine ok_aload_n (q := 11) 0 dX12_follow_10 rfl rfl rfl ?_
  refine ok_iconst (q := 12) (x := -1) dX12_follow_11 rfl rfl (by decide) ?_
  refine ok_putI (q := 15) (ci := 12) (k := 43) dX12_follow_12 rfl fo_X12_254 h0 ft_12_43 ff_12_43 (fun I_3 => ?_)
  refine ok_aload_n (q := 16) 0 dX12_follow_15 rfl rfl rfl ?_
  refine ok_getR (q := 19) (ci := 12) (k := 42) (x := F a0 42) dX12_follow_16 rfl fo_X12_75 h0 rfl ?_
  refine ok_iconst (q := 20) (x := 0) dX12_follow_19 rfl rfl (by decide) ?_
  refine ok_iload_n (q := 21) 1 dX12_follow_20 rfl rfl rfl ?_
  refine fi_chk (fun h_4 => ?_)
  refine fi_chk (fun h_5 => ?_)
  refine fi_chk (fun h_6 => ?_)
  refine ok_iastore (q := 22) dX12_follow_21 rfl h_4 h_5 h_6.1 h_6.2 (fun I_7 => ?_)
  exact fun g => ok_pick [0] rfl (w_X12_follow_h22 (N := N) h0 N _ g)
theorem ct_X12_follow {η : am_E} {l : Launch} {N : Nat} {n : Nat} {K : am_K} {I : am_I} {F : am_F} {a0 : Nat} {r0 : Int × am_I} {x1 : Int} (h0 : (K a0).1 = 12) : X12_follow N K F a0 I x1 = some r0 → am_Ct η l yX12_follow cX12_follow 6 (some .int) 6 143 0 0 [qr a0, qi x1] n K I F (am_pS 1 r0 n K F) := fun g => am_Ct.of false (by decide) (by decide) (Nat.le_of_ble_eq_true rfl) (fun _ => w_X12_follow (N := N) h0 g)
def M_X12_chosen : am_M := (yX12_chosen.cls, cX12_chosen, 8, (some .int), am_room 6 143 0 0, false)
def X12_chosen_b267 (N : Nat) (K : am_K) (F : am_F) (a0 : Nat) (k242 : am_I → Int → Int → Option (Int × am_I)) (I : am_I) (x7 : Int) (s0 : Int) (s1 : Int) : Option (Int × am_I) :=
  if am_inI (s1 - s0) then am_lt (s1 - s0) (fun x6_2 => k242 I x6_2 x7) else none
theorem w_X12_chosen_b267 {η : am_E} {l : Launch} {N : Nat} {n : Nat} {K : am_K} {I : am_I} {F : am_F} {a0 : Nat} {r0 : Int × am_I} {k242 : am_I → Int → Int → Option (Int × am_I)} {x7 : Int} {s0 : Int} {s1 : Int} (h0 : (K a0).1 = 12) (H242 : ∀ (I : am_I) (x6 : Int) (x7 : Int), k242 I x6 x7 = some r0 → Ok η l M_X12_chosen (am_qm η (am_pS 1 r0 n K F) 0 0) 242 [(0, qr a0), (6, qi x6), (7, qi x7)] [] n K I F 0 0) : X12_chosen_b267 N K F a0 k242 I x7 s0 s1 = some r0 → Ok η l M_X12_chosen (am_qm η (am_pS 1 r0 n K F) 0 0) 267 [(0, qr a0), (7, qi x7)] [qi s0, qi s1] n K I F 0 0 := by
  unfold X12_chosen_b267
  refine fi_chk (fun h_1 => ?_)
  refine ok_isub (q := 268) dX12_chosen_267 rfl h_1 ?_
  refine ok_istoreL (q := 270) (fun x6_2 => [(6, qi x6_2), (0, qr a0), (7, qi x7)]) dX12_chosen_268 rfl (Nat.le_of_ble_eq_true rfl) (fun _ => rfl) (fun x6_2 => ?_)
  refine ok_goto (q := 242) dX12_chosen_270 rfl ?_
  exact fun g => ok_pick [1, 0, 2] rfl (H242 _ _ _ g)
def X12_chosen_s242 (N : Nat) (K : am_K) (F : am_F) (a0 : Nat) (k242 : am_I → Int → Int → Option (Int × am_I)) (I : am_I) (x6 : Int) (x7 : Int) : Option (Int × am_I) :=
  if 0 < x6 then (if am_inI (x7 + 1) then am_lt (x7 + 1) (fun x7_2 => if (K (F a0 35)).1 = 101 then if (0 : Int) ≤ x7_2 ∧ x7_2 < (K (F a0 35)).2 then if (I (F a0 35) x7_2) = 0 then (X12_chosen_b267 N K F a0 k242 I x7_2 0 x6) else (X12_chosen_b267 N K F a0 k242 I x7_2 1 x6) else none else none) else none) else (some (x7, I))
theorem w_X12_chosen_s242 {η : am_E} {l : Launch} {N : Nat} {n : Nat} {K : am_K} {I : am_I} {F : am_F} {a0 : Nat} {r0 : Int × am_I} {k242 : am_I → Int → Int → Option (Int × am_I)} {x6 : Int} {x7 : Int} (h0 : (K a0).1 = 12) (H242 : ∀ (I : am_I) (x6 : Int) (x7 : Int), k242 I x6 x7 = some r0 → Ok η l M_X12_chosen (am_qm η (am_pS 1 r0 n K F) 0 0) 242 [(0, qr a0), (6, qi x6), (7, qi x7)] [] n K I F 0 0) : X12_chosen_s242 N K F a0 k242 I x6 x7 = some r0 → Ok η l M_X12_chosen (am_qm η (am_pS 1 r0 n K F) 0 0) 242 [(0, qr a0), (6, qi x6), (7, qi x7)] [] n K I F 0 0 := by
  unfold X12_chosen_s242
  refine ok_iload (q := 244) 1 dX12_chosen_242 rfl rfl ?_
  refine ok_if_le (q := 273) (q2 := 247) dX12_chosen_244 rfl rfl ?_ ?_
  · skip
    refine ok_iload (q := 275) 2 dX12_chosen_273 rfl rfl ?_
    exact fi_ireturnS dX12_chosen_275 rfl
  · skip
    refine fi_chk (fun h_1 => ?_)
    refine ok_iincL (q := 250) (fun x7_2 => [(7, qi x7_2), (0, qr a0), (6, qi x6)]) 2 dX12_chosen_247 rfl rfl h_1 (Nat.le_of_ble_eq_true rfl) (fun _ => rfl) (fun x7_2 => ?_)
    refine ok_iload (q := 252) 2 dX12_chosen_250 rfl rfl ?_
    refine ok_aload_n (q := 253) 1 dX12_chosen_252 rfl rfl rfl ?_
    refine ok_getR (q := 256) (ci := 12) (k := 35) (x := F a0 35) dX12_chosen_253 rfl fo_X12_65 h0 rfl ?_
    refine ok_iload (q := 258) 0 dX12_chosen_256 rfl rfl ?_
    refine fi_chk (fun h_3 => ?_)
    refine fi_chk (fun h_4 => ?_)
    refine ok_baload (q := 259) (v := I (F a0 35) x7_2) dX12_chosen_258 rfl h_3 h_4.1 h_4.2 rfl ?_
    refine ok_if_eq (q := 266) (q2 := 262) dX12_chosen_259 rfl rfl ?_ ?_
    · skip
      refine ok_iconst (q := 267) (x := 0) dX12_chosen_266 rfl rfl (by decide) ?_
      exact fun g => ok_pick [1, 0] rfl (w_X12_chosen_b267 (N := N) h0 H242 g)
    · skip
      refine ok_iconst (q := 263) (x := 1) dX12_chosen_262 rfl rfl (by decide) ?_
      refine ok_goto (q := 267) dX12_chosen_263 rfl ?_
      exact fun g => ok_pick [1, 0] rfl (w_X12_chosen_b267 (N := N) h0 H242 g)
def X12_chosen_h242 (N : Nat) (K : am_K) (F : am_F) (a0 : Nat) : Nat → am_I → Int → Int → Option (Int × am_I) := am_it (fun kh => X12_chosen_s242 N K F a0 kh) (fun _ _ _ => none)
theorem w_X12_chosen_h242 {η : am_E} {l : Launch} {N : Nat} {n : Nat} {K : am_K} {F : am_F} {a0 : Nat} {r0 : Int × am_I} (h0 : (K a0).1 = 12) (f : Nat) : ∀ (I : am_I) (x6 : Int) (x7 : Int), X12_chosen_h242 N K F a0 f I x6 x7 = some r0 → Ok η l M_X12_chosen (am_qm η (am_pS 1 r0 n K F) 0 0) 242 [(0, qr a0), (6, qi x6), (7, qi x7)] [] n K I F 0 0 := by
  induction f with
  | zero => intro I x6 x7 g; exact fi_none g
  | succ f ih => intro I x6 x7 g; exact w_X12_chosen_s242 (N := N) h0 ih g
def X12_chosen_b170 (N : Nat) (K : am_K) (F : am_F) (a0 : Nat) (I : am_I) (x1 : Int) (x2 : Int) (x3 : Int) : Option (Int × am_I) :=
  if x2 = 3 then (if (K (F a0 45)).1 = 102 then if (0 : Int) ≤ (I a0 5) ∧ (I a0 5) < (K (F a0 45)).2 then am_lt (I (F a0 45) (I a0 5)) (fun x4_3 => am_lt (am_lxor x4_3 (am_lshl x4_3 13)) (fun x4_4 => am_lt (am_lxor x4_4 (am_lushr x4_4 7)) (fun x4_5 => am_lt (am_lxor x4_5 (am_lshl x4_5 17)) (fun x4_6 => if F a0 45 ≠ 1 then am_lt (am_u2 I (F a0 45) (I a0 5) x4_6) (fun I_8 => if x1 ≠ (0 : Int) then if am_inI (am_lrem (am_lushr x4_6 1) x1) then am_lt (am_lrem (am_lushr x4_6 1) x1) (fun x6_11 => X12_chosen_h242 N K F a0 N I_8 x6_11 x3) else none else none) else none)))) else none else none) else (some (x3, I))
theorem w_X12_chosen_b170 {η : am_E} {l : Launch} {N : Nat} {n : Nat} {K : am_K} {I : am_I} {F : am_F} {a0 : Nat} {r0 : Int × am_I} {x1 : Int} {x2 : Int} {x3 : Int} (h0 : (K a0).1 = 12) : X12_chosen_b170 N K F a0 I x1 x2 x3 = some r0 → Ok η l M_X12_chosen (am_qm η (am_pS 1 r0 n K F) 0 0) 170 [(0, qr a0), (1, qi x1), (2, qi x2), (3, qi x3)] [] n K I F 0 0 := by
  unfold X12_chosen_b170
  refine ok_iload_n (q := 171) 2 dX12_chosen_170 rfl rfl rfl ?_
  refine ok_iconst (q := 172) (x := 3) dX12_chosen_171 rfl rfl (by decide) ?_
  refine ok_icmp_eq (q := 177) (q2 := 175) dX12_chosen_172 rfl rfl ?_ ?_
  · skip
    refine ok_aload_n (q := 178) 0 dX12_chosen_177 rfl rfl rfl ?_
    refine ok_getR (q := 181) (ci := 12) (k := 45) (x := F a0 45) dX12_chosen_178 rfl fo_X12_81 h0 rfl ?_
    refine ok_aload_n (q := 182) 0 dX12_chosen_181 rfl rfl rfl ?_
    refine ok_getI (q := 185) (ci := 12) (k := 5) (x := I a0 5) dX12_chosen_182 rfl fo_X12_96 h0 rfl ?_
    refine fi_chk (fun h_1 => ?_)
    refine fi_chk (fun h_2 => ?_)
    refine ok_laload (q := 186) (v := I (F a0 45) (I a0 5)) dX12_chosen_185 rfl h_1 h_2.1 h_2.2 rfl ?_
    refine ok_lstoreL (q := 188) (fun x4_3 => [(4, ql x4_3), (0, qr a0), (1, qi x1), (2, qi x2), (3, qi x3)]) dX12_chosen_186 rfl (Nat.le_of_ble_eq_true rfl) (fun _ => rfl) (fun x4_3 => ?_)
    refine ok_lload (q := 190) 0 dX12_chosen_188 rfl rfl ?_
    refine ok_lload (q := 192) 0 dX12_chosen_190 rfl rfl ?_
    refine ok_bipush (q := 194) (x := 13) dX12_chosen_192 rfl rfl (by decide) ?_
    refine ok_lshl (q := 195) (r := am_lshl x4_3 13) dX12_chosen_194 rfl rfl ?_
    refine ok_lxor (q := 196) (r := am_lxor x4_3 (am_lshl x4_3 13)) dX12_chosen_195 rfl rfl ?_
    refine ok_lstoreL (q := 198) (fun x4_4 => [(4, ql x4_4), (0, qr a0), (1, qi x1), (2, qi x2), (3, qi x3)]) dX12_chosen_196 rfl (Nat.le_of_ble_eq_true rfl) (fun _ => rfl) (fun x4_4 => ?_)
    refine ok_lload (q := 200) 0 dX12_chosen_198 rfl rfl ?_
    refine ok_lload (q := 202) 0 dX12_chosen_200 rfl rfl ?_
    refine ok_bipush (q := 204) (x := 7) dX12_chosen_202 rfl rfl (by decide) ?_
    refine ok_lushr (q := 205) (r := am_lushr x4_4 7) dX12_chosen_204 rfl rfl ?_
    refine ok_lxor (q := 206) (r := am_lxor x4_4 (am_lushr x4_4 7)) dX12_chosen_205 rfl rfl ?_
    refine ok_lstoreL (q := 208) (fun x4_5 => [(4, ql x4_5), (0, qr a0), (1, qi x1), (2, qi x2), (3, qi x3)]) dX12_chosen_206 rfl (Nat.le_of_ble_eq_true rfl) (fun _ => rfl) (fun x4_5 => ?_)
    refine ok_lload (q := 210) 0 dX12_chosen_208 rfl rfl ?_
    refine ok_lload (q := 212) 0 dX12_chosen_210 rfl rfl ?_
    refine ok_bipush (q := 214) (x := 17) dX12_chosen_212 rfl rfl (by decide) ?_
    refine ok_lshl (q := 215) (r := am_lshl x4_5 17) dX12_chosen_214 rfl rfl ?_
    refine ok_lxor (q := 216) (r := am_lxor x4_5 (am_lshl x4_5 17)) dX12_chosen_215 rfl rfl ?_
    refine ok_lstoreL (q := 218) (fun x4_6 => [(4, ql x4_6), (0, qr a0), (1, qi x1), (2, qi x2), (3, qi x3)]) dX12_chosen_216 rfl (Nat.le_of_ble_eq_true rfl) (fun _ => rfl) (fun x4_6 => ?_)
    refine ok_aload_n (q := 219) 1 dX12_chosen_218 rfl rfl rfl ?_
    refine ok_getR (q := 222) (ci := 12) (k := 45) (x := F a0 45) dX12_chosen_219 rfl fo_X12_81 h0 rfl ?_
    refine ok_aload_n (q := 223) 1 dX12_chosen_222 rfl rfl rfl ?_
    refine ok_getI (q := 226) (ci := 12) (k := 5) (x := I a0 5) dX12_chosen_223 rfl fo_X12_96 h0 rfl ?_
    refine ok_lload (q := 228) 0 dX12_chosen_226 rfl rfl ?_
    refine fi_chk (fun h_7 => ?_)
    refine ok_lastore (q := 229) dX12_chosen_228 rfl h_1 h_7 h_2.1 h_2.2 (fun I_8 => ?_)
    refine ok_lload (q := 231) 0 dX12_chosen_229 rfl rfl ?_
    refine ok_iconst (q := 232) (x := 1) dX12_chosen_231 rfl rfl (by decide) ?_
    refine ok_lushr (q := 233) (r := am_lushr x4_6 1) dX12_chosen_232 rfl rfl ?_
    refine ok_iload_n (q := 234) 2 dX12_chosen_233 rfl rfl rfl ?_
    refine ok_i2l (q := 235) dX12_chosen_234 rfl ?_
    refine fi_chk (fun h_9 => ?_)
    refine ok_lrem (q := 236) (r := am_lrem (am_lushr x4_6 1) x1) dX12_chosen_235 rfl h_9 rfl ?_
    refine fi_chk (fun h_10 => ?_)
    refine ok_l2i (q := 237) dX12_chosen_236 rfl h_10 ?_
    refine ok_istoreL (q := 239) (fun x6_11 => [(6, qi x6_11), (4, ql x4_6), (0, qr a0), (1, qi x1), (2, qi x2), (3, qi x3)]) dX12_chosen_237 rfl (Nat.le_of_ble_eq_true rfl) (fun _ => rfl) (fun x6_11 => ?_)
    refine ok_iload_n (q := 240) 5 dX12_chosen_239 rfl rfl rfl ?_
    refine ok_istore (q := 242) (ls' := [(7, qi x3), (6, qi x6_11), (4, ql x4_6), (0, qr a0), (1, qi x1), (2, qi x2), (3, qi x3)]) dX12_chosen_240 rfl (Nat.le_of_ble_eq_true rfl) rfl ?_
    exact fun g => ok_pick [3, 1, 0] rfl (w_X12_chosen_h242 (N := N) h0 N _ _ _ g)
  · skip
    refine ok_iload_n (q := 176) 3 dX12_chosen_175 rfl rfl rfl ?_
    exact fi_ireturnS dX12_chosen_176 rfl
def X12_chosen_b116 (N : Nat) (K : am_K) (F : am_F) (a0 : Nat) (k58 : am_I → Int → Int → Int → Option (Int × am_I)) (I : am_I) (x4 : Int) (x5 : Int) (x6 : Int) : Option (Int × am_I) :=
  if am_inI (x6 + 1) then am_lt (x6 + 1) (fun x6_2 => k58 I x4 x5 x6_2) else none
theorem w_X12_chosen_b116 {η : am_E} {l : Launch} {N : Nat} {n : Nat} {K : am_K} {I : am_I} {F : am_F} {a0 : Nat} {r0 : Int × am_I} {k58 : am_I → Int → Int → Int → Option (Int × am_I)} {x4 : Int} {x5 : Int} {x6 : Int} (h0 : (K a0).1 = 12) (H58 : ∀ (I : am_I) (x4 : Int) (x5 : Int) (x6 : Int), k58 I x4 x5 x6 = some r0 → Ok η l M_X12_chosen (am_qm η (am_pS 1 r0 n K F) 0 0) 58 [(0, qr a0), (4, qi x4), (5, qi x5), (6, qi x6)] [] n K I F 0 0) : X12_chosen_b116 N K F a0 k58 I x4 x5 x6 = some r0 → Ok η l M_X12_chosen (am_qm η (am_pS 1 r0 n K F) 0 0) 116 [(0, qr a0), (4, qi x4), (5, qi x5), (6, qi x6)] [] n K I F 0 0 := by
  unfold X12_chosen_b116
  refine fi_chk (fun h_1 => ?_)
  refine ok_iincL (q := 119) (fun x6_2 => [(6, qi x6_2), (0, qr a0), (4, qi x4), (5, qi x5)]) 3 dX12_chosen_116 rfl rfl h_1 (Nat.le_of_ble_eq_true rfl) (fun _ => rfl) (fun x6_2 => ?_)
  refine ok_goto (q := 58) dX12_chosen_119 rfl ?_
  exact fun g => ok_pick [1, 2, 3, 0] rfl (H58 _ _ _ _ g)
def X12_chosen_s58 (N : Nat) (K : am_K) (F : am_F) (a0 : Nat) (k58 : am_I → Int → Int → Int → Option (Int × am_I)) (I : am_I) (x4 : Int) (x5 : Int) (x6 : Int) : Option (Int × am_I) :=
  am_cq (X12_all N K F I a0) (fun v_1 => if x6 < v_1 then (if (K (F a0 35)).1 = 101 then if (0 : Int) ≤ x6 ∧ x6 < (K (F a0 35)).2 then if (I (F a0 35) x6) = 0 then (X12_chosen_b116 N K F a0 k58 I x4 x5 x6) else (am_cl (X12_make N K F a0 I (F a0 3) (I a0 5) x6) (fun _ I_4 => if (I_4 a0 17) ≤ x4 then (X12_chosen_b116 N K F a0 k58 I_4 x4 x5 x6) else (am_lt (I_4 a0 17) (fun x4_5 => X12_chosen_b116 N K F a0 k58 I_4 x4_5 x6 x6)))) else none else none) else (some (x5, I)))
theorem w_X12_chosen_s58 {η : am_E} {l : Launch} {N : Nat} {n : Nat} {K : am_K} {I : am_I} {F : am_F} {a0 : Nat} {r0 : Int × am_I} {k58 : am_I → Int → Int → Int → Option (Int × am_I)} {x4 : Int} {x5 : Int} {x6 : Int} (h0 : (K a0).1 = 12) (H58 : ∀ (I : am_I) (x4 : Int) (x5 : Int) (x6 : Int), k58 I x4 x5 x6 = some r0 → Ok η l M_X12_chosen (am_qm η (am_pS 1 r0 n K F) 0 0) 58 [(0, qr a0), (4, qi x4), (5, qi x5), (6, qi x6)] [] n K I F 0 0) : X12_chosen_s58 N K F a0 k58 I x4 x5 x6 = some r0 → Ok η l M_X12_chosen (am_qm η (am_pS 1 r0 n K F) 0 0) 58 [(0, qr a0), (4, qi x4), (5, qi x5), (6, qi x6)] [] n K I F 0 0 := by
  unfold X12_chosen_s58
  refine ok_iload (q := 60) 3 dX12_chosen_58 rfl rfl ?_
  refine ok_aload_n (q := 61) 0 dX12_chosen_60 rfl rfl rfl ?_
  refine fi_callV1P (q := 64) (as := []) (st := [qi x6]) dX12_chosen_61 rfl mo_X12_133 h0 rfl (Nat.le_of_ble_eq_true rfl) rfl rfl (Nat.le_of_ble_eq_true rfl) (Nat.le_of_ble_eq_true rfl) (Nat.le_of_ble_eq_true rfl) (Nat.zero_le _) (Nat.zero_le _) (fun _ hr => ct_X12_all (N := N) h0 hr) (fun v_1 => ?_)
  refine ok_icmp_ge (q := 122) (q2 := 67) dX12_chosen_64 rfl rfl ?_ ?_
  · skip
    refine ok_iload (q := 124) 2 dX12_chosen_122 rfl rfl ?_
    exact fi_ireturnS dX12_chosen_124 rfl
  · skip
    refine ok_aload_n (q := 68) 0 dX12_chosen_67 rfl rfl rfl ?_
    refine ok_getR (q := 71) (ci := 12) (k := 35) (x := F a0 35) dX12_chosen_68 rfl fo_X12_65 h0 rfl ?_
    refine ok_iload (q := 73) 3 dX12_chosen_71 rfl rfl ?_
    refine fi_chk (fun h_2 => ?_)
    refine fi_chk (fun h_3 => ?_)
    refine ok_baload (q := 74) (v := I (F a0 35) x6) dX12_chosen_73 rfl h_2 h_3.1 h_3.2 rfl ?_
    refine ok_if_ne (q := 80) (q2 := 77) dX12_chosen_74 rfl rfl ?_ ?_
    · skip
      refine ok_aload_n (q := 81) 0 dX12_chosen_80 rfl rfl rfl ?_
      refine ok_aload_n (q := 82) 0 dX12_chosen_81 rfl rfl rfl ?_
      refine ok_getR (q := 85) (ci := 12) (k := 3) (x := F a0 3) dX12_chosen_82 rfl fo_X12_13 h0 rfl ?_
      refine ok_aload_n (q := 86) 0 dX12_chosen_85 rfl rfl rfl ?_
      refine ok_getI (q := 89) (ci := 12) (k := 5) (x := I a0 5) dX12_chosen_86 rfl fo_X12_96 h0 rfl ?_
      refine ok_iload (q := 91) 3 dX12_chosen_89 rfl rfl ?_
      refine fi_callV0S (q := 94) (as := [qr (F a0 3), qi (I a0 5), qi x6]) (st := []) dX12_chosen_91 rfl mo_X12_172 h0 rfl (Nat.le_of_ble_eq_true rfl) rfl rfl (Nat.le_of_ble_eq_true rfl) (Nat.le_of_ble_eq_true rfl) (Nat.le_of_ble_eq_true rfl) (Nat.zero_le _) (Nat.zero_le _) (fun _ hr => ct_X12_make (N := N) h0 hr) (fun _ I_4 => ?_)
      refine ok_aload_n (q := 95) 0 dX12_chosen_94 rfl rfl rfl ?_
      refine ok_getI (q := 98) (ci := 12) (k := 17) (x := I_4 a0 17) dX12_chosen_95 rfl fo_X12_148 h0 rfl ?_
      refine ok_iload (q := 100) 1 dX12_chosen_98 rfl rfl ?_
      refine ok_icmp_gt (q := 106) (q2 := 103) dX12_chosen_100 rfl rfl ?_ ?_
      · skip
        refine ok_aload_n (q := 107) 0 dX12_chosen_106 rfl rfl rfl ?_
        refine ok_getI (q := 110) (ci := 12) (k := 17) (x := I_4 a0 17) dX12_chosen_107 rfl fo_X12_148 h0 rfl ?_
        refine ok_istoreL (q := 112) (fun x4_5 => [(4, qi x4_5), (0, qr a0), (5, qi x5), (6, qi x6)]) dX12_chosen_110 rfl (Nat.le_of_ble_eq_true rfl) (fun _ => rfl) (fun x4_5 => ?_)
        refine ok_iload (q := 114) 3 dX12_chosen_112 rfl rfl ?_
        refine ok_istore (q := 116) (ls' := [(5, qi x6), (4, qi x4_5), (0, qr a0), (6, qi x6)]) dX12_chosen_114 rfl (Nat.le_of_ble_eq_true rfl) rfl ?_
        exact fun g => ok_pick [2, 1, 0, 3] rfl (w_X12_chosen_b116 (N := N) h0 H58 g)
      · skip
        refine ok_goto (q := 116) dX12_chosen_103 rfl ?_
        exact fun g => ok_pick [0, 1, 2, 3] rfl (w_X12_chosen_b116 (N := N) h0 H58 g)
    · skip
      refine ok_goto (q := 116) dX12_chosen_77 rfl ?_
      exact fun g => ok_pick [0, 1, 2, 3] rfl (w_X12_chosen_b116 (N := N) h0 H58 g)
def X12_chosen_h58 (N : Nat) (K : am_K) (F : am_F) (a0 : Nat) : Nat → am_I → Int → Int → Int → Option (Int × am_I) := am_it (fun kh => X12_chosen_s58 N K F a0 kh) (fun _ _ _ _ => none)
theorem w_X12_chosen_h58 {η : am_E} {l : Launch} {N : Nat} {n : Nat} {K : am_K} {F : am_F} {a0 : Nat} {r0 : Int × am_I} (h0 : (K a0).1 = 12) (f : Nat) : ∀ (I : am_I) (x4 : Int) (x5 : Int) (x6 : Int), X12_chosen_h58 N K F a0 f I x4 x5 x6 = some r0 → Ok η l M_X12_chosen (am_qm η (am_pS 1 r0 n K F) 0 0) 58 [(0, qr a0), (4, qi x4), (5, qi x5), (6, qi x6)] [] n K I F 0 0 := by
  induction f with
  | zero => intro I x4 x5 x6 g; exact fi_none g
  | succ f ih => intro I x4 x5 x6 g; exact w_X12_chosen_s58 (N := N) h0 ih g
def X12_chosen_s29 (N : Nat) (K : am_K) (F : am_F) (a0 : Nat) (k29 : am_I → Int → Int → Int → Option (Int × am_I)) (I : am_I) (x1 : Int) (x2 : Int) (x3 : Int) : Option (Int × am_I) :=
  if (K (F a0 35)).1 = 101 then if (0 : Int) ≤ x3 ∧ x3 < (K (F a0 35)).2 then if (I (F a0 35) x3) = 0 then (if am_inI (x3 + 1) then am_lt (x3 + 1) (fun x3_9 => k29 I x1 x2 x3_9) else none) else (if x2 = 1 then (X12_chosen_h58 N K F a0 N I (-1) x3 x3) else (if x2 = 2 then (if (I a0 21) = 0 then (X12_chosen_b170 N K F a0 I x1 x2 x3) else (am_cq (X12_seedsOf N K F I a0 (F a0 3)) (fun v_3 => if v_3 < (I a0 23) then (am_cq (X12_placeOf N K F I a0 (F a0 3) (I a0 5)) (fun v_4 => if am_inI (v_4) then am_cl (X12_bestOf N K F a0 I v_4) (fun v_6 I_7 => some (v_6, I_7)) else none)) else (X12_chosen_b170 N K F a0 I x1 x2 x3)))) else (X12_chosen_b170 N K F a0 I x1 x2 x3))) else none else none
theorem w_X12_chosen_s29 {η : am_E} {l : Launch} {N : Nat} {n : Nat} {K : am_K} {I : am_I} {F : am_F} {a0 : Nat} {r0 : Int × am_I} {k29 : am_I → Int → Int → Int → Option (Int × am_I)} {x1 : Int} {x2 : Int} {x3 : Int} (h0 : (K a0).1 = 12) (H29 : ∀ (I : am_I) (x1 : Int) (x2 : Int) (x3 : Int), k29 I x1 x2 x3 = some r0 → Ok η l M_X12_chosen (am_qm η (am_pS 1 r0 n K F) 0 0) 29 [(0, qr a0), (1, qi x1), (2, qi x2), (3, qi x3)] [] n K I F 0 0) : X12_chosen_s29 N K F a0 k29 I x1 x2 x3 = some r0 → Ok η l M_X12_chosen (am_qm η (am_pS 1 r0 n K F) 0 0) 29 [(0, qr a0), (1, qi x1), (2, qi x2), (3, qi x3)] [] n K I F 0 0 := by
  unfold X12_chosen_s29
  refine ok_aload_n (q := 30) 0 dX12_chosen_29 rfl rfl rfl ?_
  refine ok_getR (q := 33) (ci := 12) (k := 35) (x := F a0 35) dX12_chosen_30 rfl fo_X12_65 h0 rfl ?_
  refine ok_iload_n (q := 34) 3 dX12_chosen_33 rfl rfl rfl ?_
  refine fi_chk (fun h_1 => ?_)
  refine fi_chk (fun h_2 => ?_)
  refine ok_baload (q := 35) (v := I (F a0 35) x3) dX12_chosen_34 rfl h_1 h_2.1 h_2.2 rfl ?_
  refine ok_if_ne (q := 44) (q2 := 38) dX12_chosen_35 rfl rfl ?_ ?_
  · skip
    refine ok_iload_n (q := 45) 2 dX12_chosen_44 rfl rfl rfl ?_
    refine ok_iconst (q := 46) (x := 1) dX12_chosen_45 rfl rfl (by decide) ?_
    refine ok_icmp_ne (q := 125) (q2 := 49) dX12_chosen_46 rfl rfl ?_ ?_
    · skip
      refine ok_iload_n (q := 126) 2 dX12_chosen_125 rfl rfl rfl ?_
      refine ok_iconst (q := 127) (x := 2) dX12_chosen_126 rfl rfl (by decide) ?_
      refine ok_icmp_ne (q := 170) (q2 := 130) dX12_chosen_127 rfl rfl ?_ ?_
      · skip
        exact fun g => ok_pick [0, 1, 2, 3] rfl (w_X12_chosen_b170 (N := N) h0 g)
      · skip
        refine ok_aload_n (q := 131) 0 dX12_chosen_130 rfl rfl rfl ?_
        refine ok_getI (q := 134) (ci := 12) (k := 21) (x := I a0 21) dX12_chosen_131 rfl fo_X12_127 h0 rfl ?_
        refine ok_if_eq (q := 170) (q2 := 137) dX12_chosen_134 rfl rfl ?_ ?_
        · skip
          exact fun g => ok_pick [0, 1, 2, 3] rfl (w_X12_chosen_b170 (N := N) h0 g)
        · skip
          refine ok_aload_n (q := 138) 0 dX12_chosen_137 rfl rfl rfl ?_
          refine ok_aload_n (q := 139) 0 dX12_chosen_138 rfl rfl rfl ?_
          refine ok_getR (q := 142) (ci := 12) (k := 3) (x := F a0 3) dX12_chosen_139 rfl fo_X12_13 h0 rfl ?_
          refine fi_callV1P (q := 145) (as := [qr (F a0 3)]) (st := []) dX12_chosen_142 rfl mo_X12_189 h0 rfl (Nat.le_of_ble_eq_true rfl) rfl rfl (Nat.le_of_ble_eq_true rfl) (Nat.le_of_ble_eq_true rfl) (Nat.le_of_ble_eq_true rfl) (Nat.zero_le _) (Nat.zero_le _) (fun _ hr => ct_X12_seedsOf (N := N) h0 hr) (fun v_3 => ?_)
          refine ok_aload_n (q := 146) 0 dX12_chosen_145 rfl rfl rfl ?_
          refine ok_getI (q := 149) (ci := 12) (k := 23) (x := I a0 23) dX12_chosen_146 rfl fo_X12_225 h0 rfl ?_
          refine ok_icmp_ge (q := 170) (q2 := 152) dX12_chosen_149 rfl rfl ?_ ?_
          · skip
            exact fun g => ok_pick [0, 1, 2, 3] rfl (w_X12_chosen_b170 (N := N) h0 g)
          · skip
            refine ok_aload_n (q := 153) 0 dX12_chosen_152 rfl rfl rfl ?_
            refine ok_aload_n (q := 154) 0 dX12_chosen_153 rfl rfl rfl ?_
            refine ok_aload_n (q := 155) 0 dX12_chosen_154 rfl rfl rfl ?_
            refine ok_getR (q := 158) (ci := 12) (k := 3) (x := F a0 3) dX12_chosen_155 rfl fo_X12_13 h0 rfl ?_
            refine ok_aload_n (q := 159) 0 dX12_chosen_158 rfl rfl rfl ?_
            refine ok_getI (q := 162) (ci := 12) (k := 5) (x := I a0 5) dX12_chosen_159 rfl fo_X12_96 h0 rfl ?_
            refine fi_callV2P (q := 165) (as := [qr (F a0 3), qi (I a0 5)]) (st := [qr a0]) dX12_chosen_162 rfl mo_X12_209 h0 rfl (Nat.le_of_ble_eq_true rfl) rfl rfl (Nat.le_of_ble_eq_true rfl) (Nat.le_of_ble_eq_true rfl) (Nat.le_of_ble_eq_true rfl) (Nat.zero_le _) (Nat.zero_le _) (fun _ hr => ct_X12_placeOf (N := N) h0 hr) (fun v_4 => ?_)
            refine fi_chk (fun h_5 => ?_)
            refine ok_l2i (q := 166) dX12_chosen_165 rfl h_5 ?_
            refine fi_callV1S (q := 169) (as := [qi v_4]) (st := []) dX12_chosen_166 rfl mo_X12_257 h0 rfl (Nat.le_of_ble_eq_true rfl) rfl rfl (Nat.le_of_ble_eq_true rfl) (Nat.le_of_ble_eq_true rfl) (Nat.le_of_ble_eq_true rfl) (Nat.zero_le _) (Nat.zero_le _) (fun _ hr => ct_X12_bestOf (N := N) h0 hr) (fun v_6 I_7 => ?_)
            exact fi_ireturnS dX12_chosen_169 rfl
    · skip
      refine ok_iconst (q := 50) (x := -1) dX12_chosen_49 rfl rfl (by decide) ?_
      refine ok_istore (q := 52) (ls' := [(4, qi (-1)), (0, qr a0), (1, qi x1), (2, qi x2), (3, qi x3)]) dX12_chosen_50 rfl (Nat.le_of_ble_eq_true rfl) rfl ?_
      refine ok_iload_n (q := 53) 4 dX12_chosen_52 rfl rfl rfl ?_
      refine ok_istore (q := 55) (ls' := [(5, qi x3), (4, qi (-1)), (0, qr a0), (1, qi x1), (2, qi x2), (3, qi x3)]) dX12_chosen_53 rfl (Nat.le_of_ble_eq_true rfl) rfl ?_
      refine ok_iload_n (q := 56) 5 dX12_chosen_55 rfl rfl rfl ?_
      refine ok_istore (q := 58) (ls' := [(6, qi x3), (5, qi x3), (4, qi (-1)), (0, qr a0), (1, qi x1), (2, qi x2), (3, qi x3)]) dX12_chosen_56 rfl (Nat.le_of_ble_eq_true rfl) rfl ?_
      exact fun g => ok_pick [3, 2, 1, 0] rfl (w_X12_chosen_h58 (N := N) h0 N _ _ _ _ g)
  · skip
    refine fi_chk (fun h_8 => ?_)
    refine ok_iincL (q := 41) (fun x3_9 => [(3, qi x3_9), (0, qr a0), (1, qi x1), (2, qi x2)]) 3 dX12_chosen_38 rfl rfl h_8 (Nat.le_of_ble_eq_true rfl) (fun _ => rfl) (fun x3_9 => ?_)
    refine ok_goto (q := 29) dX12_chosen_41 rfl ?_
    exact fun g => ok_pick [1, 2, 3, 0] rfl (H29 _ _ _ _ g)
def X12_chosen_h29 (N : Nat) (K : am_K) (F : am_F) (a0 : Nat) : Nat → am_I → Int → Int → Int → Option (Int × am_I) := am_it (fun kh => X12_chosen_s29 N K F a0 kh) (fun _ _ _ _ => none)
theorem w_X12_chosen_h29 {η : am_E} {l : Launch} {N : Nat} {n : Nat} {K : am_K} {F : am_F} {a0 : Nat} {r0 : Int × am_I} (h0 : (K a0).1 = 12) (f : Nat) : ∀ (I : am_I) (x1 : Int) (x2 : Int) (x3 : Int), X12_chosen_h29 N K F a0 f I x1 x2 x3 = some r0 → Ok η l M_X12_chosen (am_qm η (am_pS 1 r0 n K F) 0 0) 29 [(0, qr a0), (1, qi x1), (2, qi x2), (3, qi x3)] [] n K I F 0 0 := by
  induction f with
  | zero => intro I x1 x2 x3 g; exact fi_none g
  | succ f ih => intro I x1 x2 x3 g; exact w_X12_chosen_s29 (N := N) h0 ih g
def X12_chosen (N : Nat) (K : am_K) (F : am_F) (a0 : Nat) (I : am_I) : Option (Int × am_I) :=
  am_cl (X12_mayMove N K F a0 I (F a0 3) (I a0 5) (F a0 35)) (fun v_1 I_2 => if (K (F a0 44)).1 = 100 then if (0 : Int) ≤ (I_2 a0 5) ∧ (I_2 a0 5) < (K (F a0 44)).2 then am_lt (I_2 (F a0 44) (I_2 a0 5)) (fun x2_5 => X12_chosen_h29 N K F a0 N I_2 v_1 x2_5 0) else none else none)
theorem w_X12_chosen {η : am_E} {l : Launch} {N : Nat} {n : Nat} {K : am_K} {I : am_I} {F : am_F} {a0 : Nat} {r0 : Int × am_I} (h0 : (K a0).1 = 12) : X12_chosen N K F a0 I = some r0 → Ok η l M_X12_chosen (am_qm η (am_pS 1 r0 n K F) 0 0) 0 [(0, qr a0)] [] n K I F 0 0 := by
  unfold X12_chosen
  refine ok_aload_n (q := 1) 0 dX12_chosen_0 rfl rfl rfl ?_
  refine ok_aload_n (q := 2) 0 dX12_chosen_1 rfl rfl rfl ?_
  refine ok_getR (q := 5) (ci := 12) (k := 3) (x := F a0 3) dX12_chosen_2 rfl fo_X12_13 h0 rfl ?_
  refine ok_aload_n (q := 6) 0 dX12_chosen_5 rfl rfl rfl ?_
  refine ok_getI (q := 9) (ci := 12) (k := 5) (x := I a0 5) dX12_chosen_6 rfl fo_X12_96 h0 rfl ?_
  refine ok_aload_n (q := 10) 0 dX12_chosen_9 rfl rfl rfl ?_
  refine ok_getR (q := 13) (ci := 12) (k := 35) (x := F a0 35) dX12_chosen_10 rfl fo_X12_65 h0 rfl ?_
  refine fi_callV1S (q := 16) (as := [qr (F a0 3), qi (I a0 5), qr (F a0 35)]) (st := []) dX12_chosen_13 rfl mo_X12_201 h0 rfl (Nat.le_of_ble_eq_true rfl) rfl rfl (Nat.le_of_ble_eq_true rfl) (Nat.le_of_ble_eq_true rfl) (Nat.le_of_ble_eq_true rfl) (Nat.zero_le _) (Nat.zero_le _) (fun _ hr => ct_X12_mayMove (N := N) h0 hr) (fun v_1 I_2 => ?_)
  refine ok_istore_n (q := 17) (ls' := [(1, qi v_1), (0, qr a0)]) dX12_chosen_16 rfl rfl (Nat.le_of_ble_eq_true rfl) rfl ?_
  refine ok_aload_n (q := 18) 1 dX12_chosen_17 rfl rfl rfl ?_
  refine ok_getR (q := 21) (ci := 12) (k := 44) (x := F a0 44) dX12_chosen_18 rfl fo_X12_78 h0 rfl ?_
  refine ok_aload_n (q := 22) 1 dX12_chosen_21 rfl rfl rfl ?_
  refine ok_getI (q := 25) (ci := 12) (k := 5) (x := I_2 a0 5) dX12_chosen_22 rfl fo_X12_96 h0 rfl ?_
  refine fi_chk (fun h_3 => ?_)
  refine fi_chk (fun h_4 => ?_)
  refine ok_iaload (q := 26) (v := I_2 (F a0 44) (I_2 a0 5)) dX12_chosen_25 rfl h_3 h_4.1 h_4.2 rfl ?_
  refine ok_istore_nL (q := 27) (fun x2_5 => [(2, qi x2_5), (1, qi v_1), (0, qr a0)]) dX12_chosen_26 rfl rfl (Nat.le_of_ble_eq_true rfl) (fun _ => rfl) (fun x2_5 => ?_)
  refine ok_iconst (q := 28) (x := 0) dX12_chosen_27 rfl rfl (by decide) ?_
  refine ok_istore_n (q := 29) (ls' := [(3, qi 0), (2, qi x2_5), (1, qi v_1), (0, qr a0)]) dX12_chosen_28 rfl rfl (Nat.le_of_ble_eq_true rfl) rfl ?_
  exact fun g => ok_pick [3, 2, 1, 0] rfl (w_X12_chosen_h29 (N := N) h0 N _ _ _ _ g)
theorem ct_X12_chosen {η : am_E} {l : Launch} {N : Nat} {n : Nat} {K : am_K} {I : am_I} {F : am_F} {a0 : Nat} {r0 : Int × am_I} (h0 : (K a0).1 = 12) : X12_chosen N K F a0 I = some r0 → am_Ct η l yX12_chosen cX12_chosen 8 (some .int) 6 143 0 0 [qr a0] n K I F (am_pS 1 r0 n K F) := fun g => am_Ct.of false (by decide) (by decide) (Nat.le_of_ble_eq_true rfl) (fun _ => w_X12_chosen (N := N) h0 g)
