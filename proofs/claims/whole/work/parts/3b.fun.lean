def M_X1_seedsOf : am_M := (yX1_seedsOf.cls, cX1_seedsOf, 5, (some .int), am_room 0 0 0 0, false)
def X1_seedsOf_s10 (N : Nat) (K : am_K) (F : am_F) (I : am_I) (a0 : Nat) (k10 : Int → Nat → Int → Int → Option Int) (x1 : Int) (a2 : Nat) (x3 : Int) (x4 : Int) : Option Int :=
  if (K (F a0 8)).1 = 100 then if (0 : Int) ≤ x1 ∧ x1 < (K (F a0 8)).2 then if x4 < (I (F a0 8) x1) then (if (K a2).1 = 100 then if (0 : Int) ≤ x4 ∧ x4 < (K a2).2 then if am_inI (x3 + (I a2 x4)) then am_lt (x3 + (I a2 x4)) (fun x3_6 => if am_inI (x4 + 1) then am_lt (x4 + 1) (fun x4_8 => k10 x1 a2 x3_6 x4_8) else none) else none else none else none) else (some (x3)) else none else none
theorem w_X1_seedsOf_s10 {η : am_E} {l : Launch} {N : Nat} {n : Nat} {K : am_K} {I : am_I} {F : am_F} {a0 : Nat} {r0 : Int} {k10 : Int → Nat → Int → Int → Option Int} {x1 : Int} {a2 : Nat} {x3 : Int} {x4 : Int} (h0 : (K a0).1 = 1) (H10 : ∀ (x1 : Int) (a2 : Nat) (x3 : Int) (x4 : Int), k10 x1 a2 x3 x4 = some r0 → Ok η l M_X1_seedsOf (am_qm η (am_pS 1 (r0, I) n K F) 0 0) 10 [(0, qr a0), (1, qi x1), (2, qr a2), (3, qi x3), (4, qi x4)] [] n K I F 0 0) : X1_seedsOf_s10 N K F I a0 k10 x1 a2 x3 x4 = some r0 → Ok η l M_X1_seedsOf (am_qm η (am_pS 1 (r0, I) n K F) 0 0) 10 [(0, qr a0), (1, qi x1), (2, qr a2), (3, qi x3), (4, qi x4)] [] n K I F 0 0 := by
  unfold X1_seedsOf_s10
  refine ok_iload (q := 12) 4 dX1_seedsOf_10 rfl rfl ?_
  refine ok_aload_n (q := 13) 0 dX1_seedsOf_12 rfl rfl rfl ?_
  refine ok_getR (q := 16) (ci := 1) (k := 8) (x := F a0 8) dX1_seedsOf_13 rfl fo_X1_25 h0 rfl ?_
  refine ok_iload_n (q := 17) 1 dX1_seedsOf_16 rfl rfl rfl ?_
  refine fi_chk (fun h_1 => ?_)
  refine fi_chk (fun h_2 => ?_)
  refine ok_iaload (q := 18) (v := I (F a0 8) x1) dX1_seedsOf_17 rfl h_1 h_2.1 h_2.2 rfl ?_
  refine ok_icmp_ge (q := 34) (q2 := 21) dX1_seedsOf_18 rfl rfl ?_ ?_
  · skip
    refine ok_iload_n (q := 35) 3 dX1_seedsOf_34 rfl rfl rfl ?_
    exact fi_ireturnP dX1_seedsOf_35 rfl
  · skip
    refine ok_iload_n (q := 22) 3 dX1_seedsOf_21 rfl rfl rfl ?_
    refine ok_aload_n (q := 23) 2 dX1_seedsOf_22 rfl rfl rfl ?_
    refine ok_iload (q := 25) 4 dX1_seedsOf_23 rfl rfl ?_
    refine fi_chk (fun h_3 => ?_)
    refine fi_chk (fun h_4 => ?_)
    refine ok_iaload (q := 26) (v := I a2 x4) dX1_seedsOf_25 rfl h_3 h_4.1 h_4.2 rfl ?_
    refine fi_chk (fun h_5 => ?_)
    refine ok_iadd (q := 27) dX1_seedsOf_26 rfl h_5 ?_
    refine ok_istore_nL (q := 28) (fun x3_6 => [(3, qi x3_6), (0, qr a0), (1, qi x1), (2, qr a2), (4, qi x4)]) dX1_seedsOf_27 rfl rfl (Nat.le_of_ble_eq_true rfl) (fun _ => rfl) (fun x3_6 => ?_)
    refine fi_chk (fun h_7 => ?_)
    refine ok_iincL (q := 31) (fun x4_8 => [(4, qi x4_8), (3, qi x3_6), (0, qr a0), (1, qi x1), (2, qr a2)]) 4 dX1_seedsOf_28 rfl rfl h_7 (Nat.le_of_ble_eq_true rfl) (fun _ => rfl) (fun x4_8 => ?_)
    refine ok_goto (q := 10) dX1_seedsOf_31 rfl ?_
    exact fun g => ok_pick [2, 3, 4, 1, 0] rfl (H10 _ _ _ _ g)
def X1_seedsOf_h10 (N : Nat) (K : am_K) (F : am_F) (I : am_I) (a0 : Nat) : Nat → Int → Nat → Int → Int → Option Int := am_it (fun kh => X1_seedsOf_s10 N K F I a0 kh) (fun _ _ _ _ => none)
theorem w_X1_seedsOf_h10 {η : am_E} {l : Launch} {N : Nat} {n : Nat} {K : am_K} {I : am_I} {F : am_F} {a0 : Nat} {r0 : Int} (h0 : (K a0).1 = 1) (f : Nat) : ∀ (x1 : Int) (a2 : Nat) (x3 : Int) (x4 : Int), X1_seedsOf_h10 N K F I a0 f x1 a2 x3 x4 = some r0 → Ok η l M_X1_seedsOf (am_qm η (am_pS 1 (r0, I) n K F) 0 0) 10 [(0, qr a0), (1, qi x1), (2, qr a2), (3, qi x3), (4, qi x4)] [] n K I F 0 0 := by
  induction f with
  | zero => intro x1 a2 x3 x4 g; exact fi_none g
  | succ f ih => intro x1 a2 x3 x4 g; exact w_X1_seedsOf_s10 (N := N) h0 ih g
def X1_seedsOf (N : Nat) (K : am_K) (F : am_F) (I : am_I) (a0 : Nat) (x1 : Int) (a2 : Nat) : Option Int :=
  if (K (F a0 7)).1 = 100 then if (0 : Int) ≤ x1 ∧ x1 < (K (F a0 7)).2 then am_lt (I (F a0 7) x1) (fun x4_3 => X1_seedsOf_h10 N K F I a0 N x1 a2 0 x4_3) else none else none
theorem w_X1_seedsOf {η : am_E} {l : Launch} {N : Nat} {n : Nat} {K : am_K} {I : am_I} {F : am_F} {a0 : Nat} {r0 : Int} {x1 : Int} {a2 : Nat} (h0 : (K a0).1 = 1) : X1_seedsOf N K F I a0 x1 a2 = some r0 → Ok η l M_X1_seedsOf (am_qm η (am_pS 1 (r0, I) n K F) 0 0) 0 [(0, qr a0), (1, qi x1), (2, qr a2)] [] n K I F 0 0 := by
  unfold X1_seedsOf
  refine ok_iconst (q := 1) (x := 0) dX1_seedsOf_0 rfl rfl (by decide) ?_
  refine ok_istore_n (q := 2) (ls' := [(3, qi 0), (0, qr a0), (1, qi x1), (2, qr a2)]) dX1_seedsOf_1 rfl rfl (Nat.le_of_ble_eq_true rfl) rfl ?_
  refine ok_aload_n (q := 3) 1 dX1_seedsOf_2 rfl rfl rfl ?_
  refine ok_getR (q := 6) (ci := 1) (k := 7) (x := F a0 7) dX1_seedsOf_3 rfl fo_X1_22 h0 rfl ?_
  refine ok_iload_n (q := 7) 2 dX1_seedsOf_6 rfl rfl rfl ?_
  refine fi_chk (fun h_1 => ?_)
  refine fi_chk (fun h_2 => ?_)
  refine ok_iaload (q := 8) (v := I (F a0 7) x1) dX1_seedsOf_7 rfl h_1 h_2.1 h_2.2 rfl ?_
  refine ok_istoreL (q := 10) (fun x4_3 => [(4, qi x4_3), (3, qi 0), (0, qr a0), (1, qi x1), (2, qr a2)]) dX1_seedsOf_8 rfl (Nat.le_of_ble_eq_true rfl) (fun _ => rfl) (fun x4_3 => ?_)
  exact fun g => ok_pick [2, 3, 4, 1, 0] rfl (w_X1_seedsOf_h10 (N := N) h0 N _ _ _ _ g)
theorem ct_X1_seedsOf {η : am_E} {l : Launch} {N : Nat} {n : Nat} {K : am_K} {I : am_I} {F : am_F} {a0 : Nat} {r0 : Int} {x1 : Int} {a2 : Nat} (h0 : (K a0).1 = 1) : X1_seedsOf N K F I a0 x1 a2 = some r0 → am_Ct η l yX1_seedsOf cX1_seedsOf 5 (some .int) 0 0 0 0 [qr a0, qi x1, qr a2] n K I F (am_pS 1 (r0, I) n K F) := fun g => am_Ct.of false (by decide) (by decide) (Nat.le_of_ble_eq_true rfl) (fun _ => w_X1_seedsOf (N := N) h0 g)
def M_X10_tryPit : am_M := (yX10_tryPit.cls, cX10_tryPit, 4, (some .int), am_room 3 78 0 0, false)
def X10_tryPit_b38 (N : Nat) (K : am_K) (F : am_F) (a0 : Nat) (I : am_I) : Option (Int × am_I) :=
  some (0, I)
theorem w_X10_tryPit_b38 {η : am_E} {l : Launch} {N : Nat} {n : Nat} {K : am_K} {I : am_I} {F : am_F} {a0 : Nat} {r0 : Int × am_I} (h0 : (K a0).1 = 10) : X10_tryPit_b38 N K F a0 I = some r0 → Ok η l M_X10_tryPit (am_qm η (am_pS 1 r0 n K F) 0 0) 38 [(0, qr a0)] [] n K I F 0 0 := by
  unfold X10_tryPit_b38
  refine ok_iconst (q := 39) (x := 0) dX10_tryPit_38 rfl rfl (by decide) ?_
  exact fi_ireturnS dX10_tryPit_39 rfl
def X10_tryPit_b86 (N : Nat) (K : am_K) (F : am_F) (a0 : Nat) (I : am_I) (s0 : Int) : Option (Int × am_I) :=
  some (s0, I)
theorem w_X10_tryPit_b86 {η : am_E} {l : Launch} {N : Nat} {n : Nat} {K : am_K} {I : am_I} {F : am_F} {a0 : Nat} {r0 : Int × am_I} {s0 : Int} (h0 : (K a0).1 = 10) : X10_tryPit_b86 N K F a0 I s0 = some r0 → Ok η l M_X10_tryPit (am_qm η (am_pS 1 r0 n K F) 0 0) 86 [(0, qr a0)] [qi s0] n K I F 0 0 := by
  unfold X10_tryPit_b86
  exact fi_ireturnS dX10_tryPit_86 rfl
def X10_tryPit_b85 (N : Nat) (K : am_K) (F : am_F) (a0 : Nat) (I : am_I) : Option (Int × am_I) :=
  X10_tryPit_b86 N K F a0 I 1
theorem w_X10_tryPit_b85 {η : am_E} {l : Launch} {N : Nat} {n : Nat} {K : am_K} {I : am_I} {F : am_F} {a0 : Nat} {r0 : Int × am_I} (h0 : (K a0).1 = 10) : X10_tryPit_b85 N K F a0 I = some r0 → Ok η l M_X10_tryPit (am_qm η (am_pS 1 r0 n K F) 0 0) 85 [(0, qr a0)] [] n K I F 0 0 := by
  unfold X10_tryPit_b85
  refine ok_iconst (q := 86) (x := 1) dX10_tryPit_85 rfl rfl (by decide) ?_
  exact fun g => ok_pick [0] rfl (w_X10_tryPit_b86 (N := N) h0 g)
def X10_tryPit (N : Nat) (K : am_K) (F : am_F) (a0 : Nat) (I : am_I) (a1 : Nat) (x2 : Int) (x3 : Int) : Option (Int × am_I) :=
  if (K (F a0 5)).1 = 1 then if (K (F (F a0 5) 9)).1 = 100 then if (0 : Int) ≤ x3 ∧ x3 < (K (F (F a0 5) 9)).2 then if (I (F (F a0 5) 9) x3) = x2 then (if (K (F (F a0 5) 4)).1 = 101 then if (0 : Int) ≤ x3 ∧ x3 < (K (F (F a0 5) 4)).2 then if (I (F (F a0 5) 4) x3) = 0 then (if (K a1).1 = 100 then if (0 : Int) ≤ x3 ∧ x3 < (K a1).2 then if (K (F a0 6)).1 = 8 then if (I a1 x3) < (I (F a0 6) 4) then (X10_tryPit_b38 N K F a0 I) else (am_cl (X10_carryOut N K F a0 I a1 x2 x3) (fun v_9 I_10 => if v_9 = 0 then (some ((-1), I_10)) else (if (I_10 (F a0 6) 5) = 0 then (X10_tryPit_b85 N K F a0 I_10) else (if am_inI (1 - x2) then if (K (F a0 2)).1 = 103 then if (0 : Int) ≤ x3 ∧ x3 < (K (F a0 2)).2 then am_cq (X1_seedsOf N K F I_10 (F a0 5) (1 - x2) (F (F a0 2) x3)) (fun v_14 => if 0 < v_14 then (X10_tryPit_b86 N K F a0 I_10 2) else (X10_tryPit_b85 N K F a0 I_10)) else none else none else none)))) else none else none else none) else (X10_tryPit_b38 N K F a0 I) else none else none) else (X10_tryPit_b38 N K F a0 I) else none else none else none
theorem w_X10_tryPit {η : am_E} {l : Launch} {N : Nat} {n : Nat} {K : am_K} {I : am_I} {F : am_F} {a0 : Nat} {r0 : Int × am_I} {a1 : Nat} {x2 : Int} {x3 : Int} (h0 : (K a0).1 = 10) : X10_tryPit N K F a0 I a1 x2 x3 = some r0 → Ok η l M_X10_tryPit (am_qm η (am_pS 1 r0 n K F) 0 0) 0 [(0, qr a0), (1, qr a1), (2, qi x2), (3, qi x3)] [] n K I F 0 0 := by
  unfold X10_tryPit
  refine ok_aload_n (q := 1) 0 dX10_tryPit_0 rfl rfl rfl ?_
  refine ok_getR (q := 4) (ci := 10) (k := 5) (x := F a0 5) dX10_tryPit_1 rfl fo_X10_27 h0 rfl ?_
  refine fi_chk (fun h_1 => ?_)
  refine ok_getR (q := 7) (ci := 1) (k := 9) (x := F (F a0 5) 9) dX10_tryPit_4 rfl fo_X10_58 h_1 rfl ?_
  refine ok_iload_n (q := 8) 3 dX10_tryPit_7 rfl rfl rfl ?_
  refine fi_chk (fun h_2 => ?_)
  refine fi_chk (fun h_3 => ?_)
  refine ok_iaload (q := 9) (v := I (F (F a0 5) 9) x3) dX10_tryPit_8 rfl h_2 h_3.1 h_3.2 rfl ?_
  refine ok_iload_n (q := 10) 2 dX10_tryPit_9 rfl rfl rfl ?_
  refine ok_icmp_ne (q := 38) (q2 := 13) dX10_tryPit_10 rfl rfl ?_ ?_
  · skip
    exact fun g => ok_pick [0] rfl (w_X10_tryPit_b38 (N := N) h0 g)
  · skip
    refine ok_aload_n (q := 14) 0 dX10_tryPit_13 rfl rfl rfl ?_
    refine ok_getR (q := 17) (ci := 10) (k := 5) (x := F a0 5) dX10_tryPit_14 rfl fo_X10_27 h0 rfl ?_
    refine ok_getR (q := 20) (ci := 1) (k := 4) (x := F (F a0 5) 4) dX10_tryPit_17 rfl fo_X10_61 h_1 rfl ?_
    refine ok_iload_n (q := 21) 3 dX10_tryPit_20 rfl rfl rfl ?_
    refine fi_chk (fun h_4 => ?_)
    refine fi_chk (fun h_5 => ?_)
    refine ok_baload (q := 22) (v := I (F (F a0 5) 4) x3) dX10_tryPit_21 rfl h_4 h_5.1 h_5.2 rfl ?_
    refine ok_if_ne (q := 38) (q2 := 25) dX10_tryPit_22 rfl rfl ?_ ?_
    · skip
      exact fun g => ok_pick [0] rfl (w_X10_tryPit_b38 (N := N) h0 g)
    · skip
      refine ok_aload_n (q := 26) 1 dX10_tryPit_25 rfl rfl rfl ?_
      refine ok_iload_n (q := 27) 3 dX10_tryPit_26 rfl rfl rfl ?_
      refine fi_chk (fun h_6 => ?_)
      refine fi_chk (fun h_7 => ?_)
      refine ok_iaload (q := 28) (v := I a1 x3) dX10_tryPit_27 rfl h_6 h_7.1 h_7.2 rfl ?_
      refine ok_aload_n (q := 29) 0 dX10_tryPit_28 rfl rfl rfl ?_
      refine ok_getR (q := 32) (ci := 10) (k := 6) (x := F a0 6) dX10_tryPit_29 rfl fo_X10_31 h0 rfl ?_
      refine fi_chk (fun h_8 => ?_)
      refine ok_getI (q := 35) (ci := 8) (k := 4) (x := I (F a0 6) 4) dX10_tryPit_32 rfl fo_X10_64 h_8 rfl ?_
      refine ok_icmp_ge (q := 40) (q2 := 38) dX10_tryPit_35 rfl rfl ?_ ?_
      · skip
        refine ok_aload_n (q := 41) 0 dX10_tryPit_40 rfl rfl rfl ?_
        refine ok_aload_n (q := 42) 1 dX10_tryPit_41 rfl rfl rfl ?_
        refine ok_iload_n (q := 43) 2 dX10_tryPit_42 rfl rfl rfl ?_
        refine ok_iload_n (q := 44) 3 dX10_tryPit_43 rfl rfl rfl ?_
        refine fi_callV1S (q := 47) (as := [qr a1, qi x2, qi x3]) (st := []) dX10_tryPit_44 rfl mo_X10_69 h0 rfl (Nat.le_of_ble_eq_true rfl) rfl rfl (Nat.le_of_ble_eq_true rfl) (Nat.le_of_ble_eq_true rfl) (Nat.le_of_ble_eq_true rfl) (Nat.zero_le _) (Nat.zero_le _) (fun _ hr => ct_X10_carryOut (N := N) h0 hr) (fun v_9 I_10 => ?_)
        refine ok_if_ne (q := 52) (q2 := 50) dX10_tryPit_47 rfl rfl ?_ ?_
        · skip
          refine ok_aload_n (q := 53) 0 dX10_tryPit_52 rfl rfl rfl ?_
          refine ok_getR (q := 56) (ci := 10) (k := 6) (x := F a0 6) dX10_tryPit_53 rfl fo_X10_31 h0 rfl ?_
          refine ok_getI (q := 59) (ci := 8) (k := 5) (x := I_10 (F a0 6) 5) dX10_tryPit_56 rfl fo_X10_73 h_8 rfl ?_
          refine ok_if_eq (q := 85) (q2 := 62) dX10_tryPit_59 rfl rfl ?_ ?_
          · skip
            exact fun g => ok_pick [0] rfl (w_X10_tryPit_b85 (N := N) h0 g)
          · skip
            refine ok_aload_n (q := 63) 0 dX10_tryPit_62 rfl rfl rfl ?_
            refine ok_getR (q := 66) (ci := 10) (k := 5) (x := F a0 5) dX10_tryPit_63 rfl fo_X10_27 h0 rfl ?_
            refine ok_iconst (q := 67) (x := 1) dX10_tryPit_66 rfl rfl (by decide) ?_
            refine ok_iload_n (q := 68) 2 dX10_tryPit_67 rfl rfl rfl ?_
            refine fi_chk (fun h_11 => ?_)
            refine ok_isub (q := 69) dX10_tryPit_68 rfl h_11 ?_
            refine ok_aload_n (q := 70) 0 dX10_tryPit_69 rfl rfl rfl ?_
            refine ok_getR (q := 73) (ci := 10) (k := 2) (x := F a0 2) dX10_tryPit_70 rfl fo_X10_21 h0 rfl ?_
            refine ok_iload_n (q := 74) 3 dX10_tryPit_73 rfl rfl rfl ?_
            refine fi_chk (fun h_12 => ?_)
            refine fi_chk (fun h_13 => ?_)
            refine ok_aaload (q := 75) (i := 0) (v := F (F a0 2) x3) dX10_tryPit_74 rfl h_12 (by decide) rfl rfl h_13.1 h_13.2 rfl ?_
            refine fi_callV1P (q := 78) (as := [qi (1 - x2), qr (F (F a0 2) x3)]) (st := []) dX10_tryPit_75 rfl mo_X10_77 h_1 rfl (Nat.le_of_ble_eq_true rfl) rfl rfl (Nat.le_of_ble_eq_true rfl) (Nat.le_of_ble_eq_true rfl) (Nat.le_of_ble_eq_true rfl) (Nat.zero_le _) (Nat.zero_le _) (fun _ hr => ct_X1_seedsOf (N := N) h_1 hr) (fun v_14 => ?_)
            refine ok_if_le (q := 85) (q2 := 81) dX10_tryPit_78 rfl rfl ?_ ?_
            · skip
              exact fun g => ok_pick [0] rfl (w_X10_tryPit_b85 (N := N) h0 g)
            · skip
              refine ok_iconst (q := 82) (x := 2) dX10_tryPit_81 rfl rfl (by decide) ?_
              refine ok_goto (q := 86) dX10_tryPit_82 rfl ?_
              exact fun g => ok_pick [0] rfl (w_X10_tryPit_b86 (N := N) h0 g)
        · skip
          refine ok_iconst (q := 51) (x := -1) dX10_tryPit_50 rfl rfl (by decide) ?_
          exact fi_ireturnS dX10_tryPit_51 rfl
      · skip
        exact fun g => ok_pick [0] rfl (w_X10_tryPit_b38 (N := N) h0 g)
theorem ct_X10_tryPit {η : am_E} {l : Launch} {N : Nat} {n : Nat} {K : am_K} {I : am_I} {F : am_F} {a0 : Nat} {r0 : Int × am_I} {a1 : Nat} {x2 : Int} {x3 : Int} (h0 : (K a0).1 = 10) : X10_tryPit N K F a0 I a1 x2 x3 = some r0 → am_Ct η l yX10_tryPit cX10_tryPit 4 (some .int) 3 78 0 0 [qr a0, qr a1, qi x2, qi x3] n K I F (am_pS 1 r0 n K F) := fun g => am_Ct.of false (by decide) (by decide) (Nat.le_of_ble_eq_true rfl) (fun _ => w_X10_tryPit (N := N) h0 g)
def M_X10_survey : am_M := (yX10_survey.cls, cX10_survey, 5, (some .int), am_room 4 101 0 0, false)
def X10_survey_b113 (N : Nat) (K : am_K) (F : am_F) (a0 : Nat) (k58 : am_I → Int → Int → Option (Int × am_I)) (I : am_I) (x3 : Int) (x4 : Int) : Option (Int × am_I) :=
  if am_inI (x4 + 1) then am_lt (x4 + 1) (fun x4_2 => k58 I x3 x4_2) else none
theorem w_X10_survey_b113 {η : am_E} {l : Launch} {N : Nat} {n : Nat} {K : am_K} {I : am_I} {F : am_F} {a0 : Nat} {r0 : Int × am_I} {k58 : am_I → Int → Int → Option (Int × am_I)} {x3 : Int} {x4 : Int} (h0 : (K a0).1 = 10) (H58 : ∀ (I : am_I) (x3 : Int) (x4 : Int), k58 I x3 x4 = some r0 → Ok η l M_X10_survey (am_qm η (am_pS 1 r0 n K F) 0 0) 58 [(0, qr a0), (3, qi x3), (4, qi x4)] [] n K I F 0 0) : X10_survey_b113 N K F a0 k58 I x3 x4 = some r0 → Ok η l M_X10_survey (am_qm η (am_pS 1 r0 n K F) 0 0) 113 [(0, qr a0), (3, qi x3), (4, qi x4)] [] n K I F 0 0 := by
  unfold X10_survey_b113
  refine fi_chk (fun h_1 => ?_)
  refine ok_iincL (q := 116) (fun x4_2 => [(4, qi x4_2), (0, qr a0), (3, qi x3)]) 2 dX10_survey_113 rfl rfl h_1 (Nat.le_of_ble_eq_true rfl) (fun _ => rfl) (fun x4_2 => ?_)
  refine ok_goto (q := 58) dX10_survey_116 rfl ?_
  exact fun g => ok_pick [1, 2, 0] rfl (H58 _ _ _ g)
def X10_survey_b92 (N : Nat) (K : am_K) (F : am_F) (a0 : Nat) (k58 : am_I → Int → Int → Option (Int × am_I)) (I : am_I) (x3 : Int) (x4 : Int) (s0 : Int) (s1 : Int) (t2 : Nat) : Option (Int × am_I) :=
  if (K t2).1 = 101 then if t2 ≠ 1 then if (0 : Int) ≤ s1 ∧ s1 < (K t2).2 then if s0 = 0 ∨ s0 = 1 then am_lt (am_u2 I t2 s1 s0) (fun I_5 => if (K (F a0 0)).1 = 101 then if (0 : Int) ≤ x4 ∧ x4 < (K (F a0 0)).2 then if (I_5 (F a0 0) x4) = 0 then (X10_survey_b113 N K F a0 k58 I_5 x3 x4) else (if am_inI ((I_5 a0 3) + 1) then am_lt (am_u2 I_5 a0 3 ((I_5 a0 3) + 1)) (fun I_9 => X10_survey_b113 N K F a0 k58 I_9 x3 x4) else none) else none else none) else none else none else none else none
theorem w_X10_survey_b92 {η : am_E} {l : Launch} {N : Nat} {n : Nat} {K : am_K} {I : am_I} {F : am_F} {a0 : Nat} {r0 : Int × am_I} {k58 : am_I → Int → Int → Option (Int × am_I)} {x3 : Int} {x4 : Int} {s0 : Int} {s1 : Int} {t2 : Nat} (h0 : (K a0).1 = 10) (H58 : ∀ (I : am_I) (x3 : Int) (x4 : Int), k58 I x3 x4 = some r0 → Ok η l M_X10_survey (am_qm η (am_pS 1 r0 n K F) 0 0) 58 [(0, qr a0), (3, qi x3), (4, qi x4)] [] n K I F 0 0) : X10_survey_b92 N K F a0 k58 I x3 x4 s0 s1 t2 = some r0 → Ok η l M_X10_survey (am_qm η (am_pS 1 r0 n K F) 0 0) 92 [(0, qr a0), (3, qi x3), (4, qi x4)] [qi s0, qi s1, qr t2] n K I F 0 0 := by
  unfold X10_survey_b92
  refine fi_chk (fun h_1 => ?_)
  refine fi_chk (fun h_2 => ?_)
  refine fi_chk (fun h_3 => ?_)
  refine fi_chk (fun h_4 => ?_)
  refine ok_bastore (q := 93) dX10_survey_92 rfl h_1 h_2 h_3.1 h_3.2 h_4 (fun I_5 => ?_)
  refine ok_aload_n (q := 94) 0 dX10_survey_93 rfl rfl rfl ?_
  refine ok_getR (q := 97) (ci := 10) (k := 0) (x := F a0 0) dX10_survey_94 rfl fo_X10_9 h0 rfl ?_
  refine ok_iload (q := 99) 2 dX10_survey_97 rfl rfl ?_
  refine fi_chk (fun h_6 => ?_)
  refine fi_chk (fun h_7 => ?_)
  refine ok_baload (q := 100) (v := I_5 (F a0 0) x4) dX10_survey_99 rfl h_6 h_7.1 h_7.2 rfl ?_
  refine ok_if_eq (q := 113) (q2 := 103) dX10_survey_100 rfl rfl ?_ ?_
  · skip
    exact fun g => ok_pick [0, 1, 2] rfl (w_X10_survey_b113 (N := N) h0 H58 g)
  · skip
    refine ok_aload_n (q := 104) 0 dX10_survey_103 rfl rfl rfl ?_
    refine ok_dup (q := 105) dX10_survey_104 rfl rfl ?_
    refine ok_getI (q := 108) (ci := 10) (k := 3) (x := I_5 a0 3) dX10_survey_105 rfl fo_X10_51 h0 rfl ?_
    refine ok_iconst (q := 109) (x := 1) dX10_survey_108 rfl rfl (by decide) ?_
    refine fi_chk (fun h_8 => ?_)
    refine ok_iadd (q := 110) dX10_survey_109 rfl h_8 ?_
    refine ok_putI (q := 113) (ci := 10) (k := 3) dX10_survey_110 rfl fo_X10_51 h0 ft_10_3 ff_10_3 (fun I_9 => ?_)
    exact fun g => ok_pick [0, 1, 2] rfl (w_X10_survey_b113 (N := N) h0 H58 g)
def X10_survey_s58 (N : Nat) (K : am_K) (F : am_F) (a0 : Nat) (k58 : am_I → Int → Int → Option (Int × am_I)) (I : am_I) (x3 : Int) (x4 : Int) : Option (Int × am_I) :=
  if (K (F a0 5)).1 = 1 then if x4 < (I (F a0 5) 2) then (if (K (F a0 4)).1 = 100 then if (0 : Int) ≤ x4 ∧ x4 < (K (F a0 4)).2 then if x3 ≤ (I (F a0 4) x4) then (X10_survey_b92 N K F a0 k58 I x3 x4 1 x4 (F a0 0)) else (X10_survey_b92 N K F a0 k58 I x3 x4 0 x4 (F a0 0)) else none else none) else (some (I a0 3, I)) else none
theorem w_X10_survey_s58 {η : am_E} {l : Launch} {N : Nat} {n : Nat} {K : am_K} {I : am_I} {F : am_F} {a0 : Nat} {r0 : Int × am_I} {k58 : am_I → Int → Int → Option (Int × am_I)} {x3 : Int} {x4 : Int} (h0 : (K a0).1 = 10) (H58 : ∀ (I : am_I) (x3 : Int) (x4 : Int), k58 I x3 x4 = some r0 → Ok η l M_X10_survey (am_qm η (am_pS 1 r0 n K F) 0 0) 58 [(0, qr a0), (3, qi x3), (4, qi x4)] [] n K I F 0 0) : X10_survey_s58 N K F a0 k58 I x3 x4 = some r0 → Ok η l M_X10_survey (am_qm η (am_pS 1 r0 n K F) 0 0) 58 [(0, qr a0), (3, qi x3), (4, qi x4)] [] n K I F 0 0 := by
  unfold X10_survey_s58
  refine ok_iload (q := 60) 2 dX10_survey_58 rfl rfl ?_
  refine ok_aload_n (q := 61) 0 dX10_survey_60 rfl rfl rfl ?_
  refine ok_getR (q := 64) (ci := 10) (k := 5) (x := F a0 5) dX10_survey_61 rfl fo_X10_27 h0 rfl ?_
  refine fi_chk (fun h_1 => ?_)
  refine ok_getI (q := 67) (ci := 1) (k := 2) (x := I (F a0 5) 2) dX10_survey_64 rfl fo_X10_35 h_1 rfl ?_
  refine ok_icmp_ge (q := 119) (q2 := 70) dX10_survey_67 rfl rfl ?_ ?_
  · skip
    refine ok_aload_n (q := 120) 0 dX10_survey_119 rfl rfl rfl ?_
    refine ok_getI (q := 123) (ci := 10) (k := 3) (x := I a0 3) dX10_survey_120 rfl fo_X10_51 h0 rfl ?_
    exact fi_ireturnS dX10_survey_123 rfl
  · skip
    refine ok_aload_n (q := 71) 0 dX10_survey_70 rfl rfl rfl ?_
    refine ok_getR (q := 74) (ci := 10) (k := 0) (x := F a0 0) dX10_survey_71 rfl fo_X10_9 h0 rfl ?_
    refine ok_iload (q := 76) 2 dX10_survey_74 rfl rfl ?_
    refine ok_aload_n (q := 77) 0 dX10_survey_76 rfl rfl rfl ?_
    refine ok_getR (q := 80) (ci := 10) (k := 4) (x := F a0 4) dX10_survey_77 rfl fo_X10_24 h0 rfl ?_
    refine ok_iload (q := 82) 2 dX10_survey_80 rfl rfl ?_
    refine fi_chk (fun h_2 => ?_)
    refine fi_chk (fun h_3 => ?_)
    refine ok_iaload (q := 83) (v := I (F a0 4) x4) dX10_survey_82 rfl h_2 h_3.1 h_3.2 rfl ?_
    refine ok_iload_n (q := 84) 1 dX10_survey_83 rfl rfl rfl ?_
    refine ok_icmp_lt (q := 91) (q2 := 87) dX10_survey_84 rfl rfl ?_ ?_
    · skip
      refine ok_iconst (q := 92) (x := 0) dX10_survey_91 rfl rfl (by decide) ?_
      exact fun g => ok_pick [0, 1, 2] rfl (w_X10_survey_b92 (N := N) h0 H58 g)
    · skip
      refine ok_iconst (q := 88) (x := 1) dX10_survey_87 rfl rfl (by decide) ?_
      refine ok_goto (q := 92) dX10_survey_88 rfl ?_
      exact fun g => ok_pick [0, 1, 2] rfl (w_X10_survey_b92 (N := N) h0 H58 g)
def X10_survey_h58 (N : Nat) (K : am_K) (F : am_F) (a0 : Nat) : Nat → am_I → Int → Int → Option (Int × am_I) := am_it (fun kh => X10_survey_s58 N K F a0 kh) (fun _ _ _ => none)
theorem w_X10_survey_h58 {η : am_E} {l : Launch} {N : Nat} {n : Nat} {K : am_K} {F : am_F} {a0 : Nat} {r0 : Int × am_I} (h0 : (K a0).1 = 10) (f : Nat) : ∀ (I : am_I) (x3 : Int) (x4 : Int), X10_survey_h58 N K F a0 f I x3 x4 = some r0 → Ok η l M_X10_survey (am_qm η (am_pS 1 r0 n K F) 0 0) 58 [(0, qr a0), (3, qi x3), (4, qi x4)] [] n K I F 0 0 := by
  induction f with
  | zero => intro I x3 x4 g; exact fi_none g
  | succ f ih => intro I x3 x4 g; exact w_X10_survey_s58 (N := N) h0 ih g
def X10_survey_s5 (N : Nat) (K : am_K) (F : am_F) (a0 : Nat) (k5 : am_I → Nat → Int → Int → Int → Option (Int × am_I)) (I : am_I) (a1 : Nat) (x2 : Int) (x3 : Int) (x4 : Int) : Option (Int × am_I) :=
  if (K (F a0 5)).1 = 1 then if x4 < (I (F a0 5) 2) then (am_cl (X10_tryPit N K F a0 I a1 x2 x4) (fun v_3 I_4 => if (K (F a0 4)).1 = 100 then if F a0 4 ≠ 1 then if (0 : Int) ≤ x4 ∧ x4 < (K (F a0 4)).2 then am_lt (am_u2 I_4 (F a0 4) x4 v_3) (fun I_8 => am_lt (am_max x3 (I_8 (F a0 4) x4)) (fun x3_9 => if am_inI (x4 + 1) then am_lt (x4 + 1) (fun x4_11 => k5 I_8 a1 x2 x3_9 x4_11) else none)) else none else none else none)) else (am_lt (am_u2 I a0 3 0) (fun I_2 => X10_survey_h58 N K F a0 N I_2 x3 0)) else none
theorem w_X10_survey_s5 {η : am_E} {l : Launch} {N : Nat} {n : Nat} {K : am_K} {I : am_I} {F : am_F} {a0 : Nat} {r0 : Int × am_I} {k5 : am_I → Nat → Int → Int → Int → Option (Int × am_I)} {a1 : Nat} {x2 : Int} {x3 : Int} {x4 : Int} (h0 : (K a0).1 = 10) (H5 : ∀ (I : am_I) (a1 : Nat) (x2 : Int) (x3 : Int) (x4 : Int), k5 I a1 x2 x3 x4 = some r0 → Ok η l M_X10_survey (am_qm η (am_pS 1 r0 n K F) 0 0) 5 [(0, qr a0), (1, qr a1), (2, qi x2), (3, qi x3), (4, qi x4)] [] n K I F 0 0) : X10_survey_s5 N K F a0 k5 I a1 x2 x3 x4 = some r0 → Ok η l M_X10_survey (am_qm η (am_pS 1 r0 n K F) 0 0) 5 [(0, qr a0), (1, qr a1), (2, qi x2), (3, qi x3), (4, qi x4)] [] n K I F 0 0 := by
  unfold X10_survey_s5
  refine ok_iload (q := 7) 4 dX10_survey_5 rfl rfl ?_
  refine ok_aload_n (q := 8) 0 dX10_survey_7 rfl rfl rfl ?_
  refine ok_getR (q := 11) (ci := 10) (k := 5) (x := F a0 5) dX10_survey_8 rfl fo_X10_27 h0 rfl ?_
  refine fi_chk (fun h_1 => ?_)
  refine ok_getI (q := 14) (ci := 1) (k := 2) (x := I (F a0 5) 2) dX10_survey_11 rfl fo_X10_35 h_1 rfl ?_
  refine ok_icmp_ge (q := 50) (q2 := 17) dX10_survey_14 rfl rfl ?_ ?_
  · skip
    refine ok_aload_n (q := 51) 0 dX10_survey_50 rfl rfl rfl ?_
    refine ok_iconst (q := 52) (x := 0) dX10_survey_51 rfl rfl (by decide) ?_
    refine ok_putI (q := 55) (ci := 10) (k := 3) dX10_survey_52 rfl fo_X10_51 h0 ft_10_3 ff_10_3 (fun I_2 => ?_)
    refine ok_iconst (q := 56) (x := 0) dX10_survey_55 rfl rfl (by decide) ?_
    refine ok_istore (q := 58) (ls' := [(4, qi 0), (0, qr a0), (1, qr a1), (2, qi x2), (3, qi x3)]) dX10_survey_56 rfl (Nat.le_of_ble_eq_true rfl) rfl ?_
    exact fun g => ok_pick [1, 4, 0] rfl (w_X10_survey_h58 (N := N) h0 N _ _ _ g)
  · skip
    refine ok_aload_n (q := 18) 0 dX10_survey_17 rfl rfl rfl ?_
    refine ok_getR (q := 21) (ci := 10) (k := 4) (x := F a0 4) dX10_survey_18 rfl fo_X10_24 h0 rfl ?_
    refine ok_iload (q := 23) 4 dX10_survey_21 rfl rfl ?_
    refine ok_aload_n (q := 24) 0 dX10_survey_23 rfl rfl rfl ?_
    refine ok_aload_n (q := 25) 1 dX10_survey_24 rfl rfl rfl ?_
    refine ok_iload_n (q := 26) 2 dX10_survey_25 rfl rfl rfl ?_
    refine ok_iload (q := 28) 4 dX10_survey_26 rfl rfl ?_
    refine fi_callV1S (q := 31) (as := [qr a1, qi x2, qi x4]) (st := [qi x4, qr (F a0 4)]) dX10_survey_28 rfl mo_X10_41 h0 rfl (Nat.le_of_ble_eq_true rfl) rfl rfl (Nat.le_of_ble_eq_true rfl) (Nat.le_of_ble_eq_true rfl) (Nat.le_of_ble_eq_true rfl) (Nat.zero_le _) (Nat.zero_le _) (fun _ hr => ct_X10_tryPit (N := N) h0 hr) (fun v_3 I_4 => ?_)
    refine fi_chk (fun h_5 => ?_)
    refine fi_chk (fun h_6 => ?_)
    refine fi_chk (fun h_7 => ?_)
    refine ok_iastore (q := 32) dX10_survey_31 rfl h_5 h_6 h_7.1 h_7.2 (fun I_8 => ?_)
    refine ok_iload_n (q := 33) 3 dX10_survey_32 rfl rfl rfl ?_
    refine ok_aload_n (q := 34) 0 dX10_survey_33 rfl rfl rfl ?_
    refine ok_getR (q := 37) (ci := 10) (k := 4) (x := F a0 4) dX10_survey_34 rfl fo_X10_24 h0 rfl ?_
    refine ok_iload (q := 39) 4 dX10_survey_37 rfl rfl ?_
    refine ok_iaload (q := 40) (v := I_8 (F a0 4) x4) dX10_survey_39 rfl h_5 h_7.1 h_7.2 rfl ?_
    refine ok_mmax (q := 43) dX10_survey_40 rfl mm_X10_45 (Nat.le_of_ble_eq_true rfl) (Nat.le_of_ble_eq_true rfl) (Nat.le_of_ble_eq_true rfl) (Nat.zero_le _) (Nat.zero_le _) ?_
    refine ok_istore_nL (q := 44) (fun x3_9 => [(3, qi x3_9), (0, qr a0), (1, qr a1), (2, qi x2), (4, qi x4)]) dX10_survey_43 rfl rfl (Nat.le_of_ble_eq_true rfl) (fun _ => rfl) (fun x3_9 => ?_)
    refine fi_chk (fun h_10 => ?_)
    refine ok_iincL (q := 47) (fun x4_11 => [(4, qi x4_11), (3, qi x3_9), (0, qr a0), (1, qr a1), (2, qi x2)]) 4 dX10_survey_44 rfl rfl h_10 (Nat.le_of_ble_eq_true rfl) (fun _ => rfl) (fun x4_11 => ?_)
    refine ok_goto (q := 5) dX10_survey_47 rfl ?_
    exact fun g => ok_pick [2, 3, 4, 1, 0] rfl (H5 _ _ _ _ _ g)
def X10_survey_h5 (N : Nat) (K : am_K) (F : am_F) (a0 : Nat) : Nat → am_I → Nat → Int → Int → Int → Option (Int × am_I) := am_it (fun kh => X10_survey_s5 N K F a0 kh) (fun _ _ _ _ _ => none)
theorem w_X10_survey_h5 {η : am_E} {l : Launch} {N : Nat} {n : Nat} {K : am_K} {F : am_F} {a0 : Nat} {r0 : Int × am_I} (h0 : (K a0).1 = 10) (f : Nat) : ∀ (I : am_I) (a1 : Nat) (x2 : Int) (x3 : Int) (x4 : Int), X10_survey_h5 N K F a0 f I a1 x2 x3 x4 = some r0 → Ok η l M_X10_survey (am_qm η (am_pS 1 r0 n K F) 0 0) 5 [(0, qr a0), (1, qr a1), (2, qi x2), (3, qi x3), (4, qi x4)] [] n K I F 0 0 := by
  induction f with
  | zero => intro I a1 x2 x3 x4 g; exact fi_none g
  | succ f ih => intro I a1 x2 x3 x4 g; exact w_X10_survey_s5 (N := N) h0 ih g
def X10_survey (N : Nat) (K : am_K) (F : am_F) (a0 : Nat) (I : am_I) (a1 : Nat) (x2 : Int) : Option (Int × am_I) :=
  X10_survey_h5 N K F a0 N I a1 x2 1 0
theorem w_X10_survey {η : am_E} {l : Launch} {N : Nat} {n : Nat} {K : am_K} {I : am_I} {F : am_F} {a0 : Nat} {r0 : Int × am_I} {a1 : Nat} {x2 : Int} (h0 : (K a0).1 = 10) : X10_survey N K F a0 I a1 x2 = some r0 → Ok η l M_X10_survey (am_qm η (am_pS 1 r0 n K F) 0 0) 0 [(0, qr a0), (1, qr a1), (2, qi x2)] [] n K I F 0 0 := by
  unfold X10_survey
  refine ok_iconst (q := 1) (x := 1) dX10_survey_0 rfl rfl (by decide) ?_
  refine ok_istore_n (q := 2) (ls' := [(3, qi 1), (0, qr a0), (1, qr a1), (2, qi x2)]) dX10_survey_1 rfl rfl (Nat.le_of_ble_eq_true rfl) rfl ?_
  refine ok_iconst (q := 3) (x := 0) dX10_survey_2 rfl rfl (by decide) ?_
  refine ok_istore (q := 5) (ls' := [(4, qi 0), (3, qi 1), (0, qr a0), (1, qr a1), (2, qi x2)]) dX10_survey_3 rfl (Nat.le_of_ble_eq_true rfl) rfl ?_
  exact fun g => ok_pick [2, 3, 4, 1, 0] rfl (w_X10_survey_h5 (N := N) h0 N _ _ _ _ _ g)
theorem ct_X10_survey {η : am_E} {l : Launch} {N : Nat} {n : Nat} {K : am_K} {I : am_I} {F : am_F} {a0 : Nat} {r0 : Int × am_I} {a1 : Nat} {x2 : Int} (h0 : (K a0).1 = 10) : X10_survey N K F a0 I a1 x2 = some r0 → am_Ct η l yX10_survey cX10_survey 5 (some .int) 4 101 0 0 [qr a0, qr a1, qi x2] n K I F (am_pS 1 r0 n K F) := fun g => am_Ct.of false (by decide) (by decide) (Nat.le_of_ble_eq_true rfl) (fun _ => w_X10_survey (N := N) h0 g)
def M_X1_seedsIn : am_M := (yX1_seedsIn.cls, cX1_seedsIn, 2, (some .int), am_room 1 24 0 0, false)
def X1_seedsIn (N : Nat) (K : am_K) (F : am_F) (I : am_I) (a0 : Nat) (a1 : Nat) : Option Int :=
  am_cq (X1_seedsOf N K F I a0 0 a1) (fun v_1 => am_cq (X1_seedsOf N K F I a0 1 a1) (fun v_2 => if am_inI (v_1 + v_2) then some (v_1 + v_2) else none))
theorem w_X1_seedsIn {η : am_E} {l : Launch} {N : Nat} {n : Nat} {K : am_K} {I : am_I} {F : am_F} {a0 : Nat} {r0 : Int} {a1 : Nat} (h0 : (K a0).1 = 1) : X1_seedsIn N K F I a0 a1 = some r0 → Ok η l M_X1_seedsIn (am_qm η (am_pS 1 (r0, I) n K F) 0 0) 0 [(0, qr a0), (1, qr a1)] [] n K I F 0 0 := by
  unfold X1_seedsIn
  refine ok_aload_n (q := 1) 0 dX1_seedsIn_0 rfl rfl rfl ?_
  refine ok_iconst (q := 2) (x := 0) dX1_seedsIn_1 rfl rfl (by decide) ?_
  refine ok_aload_n (q := 3) 1 dX1_seedsIn_2 rfl rfl rfl ?_
  refine fi_callV1P (q := 6) (as := [qi 0, qr a1]) (st := []) dX1_seedsIn_3 rfl mo_X1_65 h0 rfl (Nat.le_of_ble_eq_true rfl) rfl rfl (Nat.le_of_ble_eq_true rfl) (Nat.le_of_ble_eq_true rfl) (Nat.le_of_ble_eq_true rfl) (Nat.zero_le _) (Nat.zero_le _) (fun _ hr => ct_X1_seedsOf (N := N) h0 hr) (fun v_1 => ?_)
  refine ok_aload_n (q := 7) 0 dX1_seedsIn_6 rfl rfl rfl ?_
  refine ok_iconst (q := 8) (x := 1) dX1_seedsIn_7 rfl rfl (by decide) ?_
  refine ok_aload_n (q := 9) 1 dX1_seedsIn_8 rfl rfl rfl ?_
  refine fi_callV1P (q := 12) (as := [qi 1, qr a1]) (st := [qi v_1]) dX1_seedsIn_9 rfl mo_X1_65 h0 rfl (Nat.le_of_ble_eq_true rfl) rfl rfl (Nat.le_of_ble_eq_true rfl) (Nat.le_of_ble_eq_true rfl) (Nat.le_of_ble_eq_true rfl) (Nat.zero_le _) (Nat.zero_le _) (fun _ hr => ct_X1_seedsOf (N := N) h0 hr) (fun v_2 => ?_)
  refine fi_chk (fun h_3 => ?_)
  refine ok_iadd (q := 13) dX1_seedsIn_12 rfl h_3 ?_
  exact fi_ireturnP dX1_seedsIn_13 rfl
theorem ct_X1_seedsIn {η : am_E} {l : Launch} {N : Nat} {n : Nat} {K : am_K} {I : am_I} {F : am_F} {a0 : Nat} {r0 : Int} {a1 : Nat} (h0 : (K a0).1 = 1) : X1_seedsIn N K F I a0 a1 = some r0 → am_Ct η l yX1_seedsIn cX1_seedsIn 2 (some .int) 1 24 0 0 [qr a0, qr a1] n K I F (am_pS 1 (r0, I) n K F) := fun g => am_Ct.of false (by decide) (by decide) (Nat.le_of_ble_eq_true rfl) (fun _ => w_X1_seedsIn (N := N) h0 g)
def M_X3_numberOf : am_M := (yX3_numberOf.cls, cX3_numberOf, 8, (some .long), am_room 2 45 0 0, false)
def X3_numberOf_b92 (N : Nat) (K : am_K) (F : am_F) (I : am_I) (a0 : Nat) (x3 : Int) : Option Int :=
  some (x3)
theorem w_X3_numberOf_b92 {η : am_E} {l : Launch} {N : Nat} {n : Nat} {K : am_K} {I : am_I} {F : am_F} {a0 : Nat} {r0 : Int} {x3 : Int} (h0 : (K a0).1 = 3) : X3_numberOf_b92 N K F I a0 x3 = some r0 → Ok η l M_X3_numberOf (am_qm η (am_pS 2 (r0, I) n K F) 0 0) 92 [(0, qr a0), (3, ql x3)] [] n K I F 0 0 := by
  unfold X3_numberOf_b92
  refine ok_lload_n (q := 93) 1 dX3_numberOf_92 rfl rfl rfl ?_
  exact fi_lreturnP dX3_numberOf_93 rfl
def X3_numberOf_s20 (N : Nat) (K : am_K) (F : am_F) (I : am_I) (a0 : Nat) (k20 : Nat → Int → Int → Int → Option Int) (a1 : Nat) (x2 : Int) (x3 : Int) (x5 : Int) : Option Int :=
  if (K (F a0 0)).1 = 1 then if x5 < (I (F a0 0) 3) then (if 0 < x2 then (if (K (F (F a0 0) 5)).1 = 100 then if (0 : Int) ≤ x5 ∧ x5 < (K (F (F a0 0) 5)).2 then if (K a1).1 = 100 then if (0 : Int) ≤ (I (F (F a0 0) 5) x5) ∧ (I (F (F a0 0) 5) x5) < (K a1).2 then if am_inI (x2 - (I a1 (I (F (F a0 0) 5) x5))) then am_lt (x2 - (I a1 (I (F (F a0 0) 5) x5))) (fun x6_7 => if am_inI ((I (F a0 0) 3) - x5) then am_lt ((I (F a0 0) 3) - x5) (fun x7_9 => am_cq (X3_waysOf N K F I a0 x7_9 x2) (fun v_10 => am_cq (X3_waysOf N K F I a0 x7_9 x6_7) (fun v_11 => am_lt (am_wL (x3 + (am_wL (v_10 - v_11)))) (fun x3_12 => if am_inI (x5 + 1) then am_lt (x5 + 1) (fun x5_14 => k20 a1 x6_7 x3_12 x5_14) else none)))) else none) else none else none else none else none else none) else (X3_numberOf_b92 N K F I a0 x3)) else (X3_numberOf_b92 N K F I a0 x3) else none
theorem w_X3_numberOf_s20 {η : am_E} {l : Launch} {N : Nat} {n : Nat} {K : am_K} {I : am_I} {F : am_F} {a0 : Nat} {r0 : Int} {k20 : Nat → Int → Int → Int → Option Int} {a1 : Nat} {x2 : Int} {x3 : Int} {x5 : Int} (h0 : (K a0).1 = 3) (H20 : ∀ (a1 : Nat) (x2 : Int) (x3 : Int) (x5 : Int), k20 a1 x2 x3 x5 = some r0 → Ok η l M_X3_numberOf (am_qm η (am_pS 2 (r0, I) n K F) 0 0) 20 [(0, qr a0), (1, qr a1), (2, qi x2), (3, ql x3), (5, qi x5)] [] n K I F 0 0) : X3_numberOf_s20 N K F I a0 k20 a1 x2 x3 x5 = some r0 → Ok η l M_X3_numberOf (am_qm η (am_pS 2 (r0, I) n K F) 0 0) 20 [(0, qr a0), (1, qr a1), (2, qi x2), (3, ql x3), (5, qi x5)] [] n K I F 0 0 := by
  unfold X3_numberOf_s20
  refine ok_iload (q := 22) 4 dX3_numberOf_20 rfl rfl ?_
  refine ok_aload_n (q := 23) 0 dX3_numberOf_22 rfl rfl rfl ?_
  refine ok_getR (q := 26) (ci := 3) (k := 0) (x := F a0 0) dX3_numberOf_23 rfl fo_X3_19 h0 rfl ?_
  refine fi_chk (fun h_1 => ?_)
  refine ok_getI (q := 29) (ci := 1) (k := 3) (x := I (F a0 0) 3) dX3_numberOf_26 rfl fo_X3_23 h_1 rfl ?_
  refine ok_icmp_ge (q := 92) (q2 := 32) dX3_numberOf_29 rfl rfl ?_ ?_
  · skip
    exact fun g => ok_pick [0, 3] rfl (w_X3_numberOf_b92 (N := N) h0 g)
  · skip
    refine ok_iload_n (q := 33) 2 dX3_numberOf_32 rfl rfl rfl ?_
    refine ok_if_le (q := 92) (q2 := 36) dX3_numberOf_33 rfl rfl ?_ ?_
    · skip
      exact fun g => ok_pick [0, 3] rfl (w_X3_numberOf_b92 (N := N) h0 g)
    · skip
      refine ok_iload_n (q := 37) 2 dX3_numberOf_36 rfl rfl rfl ?_
      refine ok_aload_n (q := 38) 1 dX3_numberOf_37 rfl rfl rfl ?_
      refine ok_aload_n (q := 39) 0 dX3_numberOf_38 rfl rfl rfl ?_
      refine ok_getR (q := 42) (ci := 3) (k := 0) (x := F a0 0) dX3_numberOf_39 rfl fo_X3_19 h0 rfl ?_
      refine ok_getR (q := 45) (ci := 1) (k := 5) (x := F (F a0 0) 5) dX3_numberOf_42 rfl fo_X3_41 h_1 rfl ?_
      refine ok_iload (q := 47) 4 dX3_numberOf_45 rfl rfl ?_
      refine fi_chk (fun h_2 => ?_)
      refine fi_chk (fun h_3 => ?_)
      refine ok_iaload (q := 48) (v := I (F (F a0 0) 5) x5) dX3_numberOf_47 rfl h_2 h_3.1 h_3.2 rfl ?_
      refine fi_chk (fun h_4 => ?_)
      refine fi_chk (fun h_5 => ?_)
      refine ok_iaload (q := 49) (v := I a1 (I (F (F a0 0) 5) x5)) dX3_numberOf_48 rfl h_4 h_5.1 h_5.2 rfl ?_
      refine fi_chk (fun h_6 => ?_)
      refine ok_isub (q := 50) dX3_numberOf_49 rfl h_6 ?_
      refine ok_istoreL (q := 52) (fun x6_7 => [(6, qi x6_7), (0, qr a0), (1, qr a1), (2, qi x2), (3, ql x3), (5, qi x5)]) dX3_numberOf_50 rfl (Nat.le_of_ble_eq_true rfl) (fun _ => rfl) (fun x6_7 => ?_)
      refine ok_aload_n (q := 53) 1 dX3_numberOf_52 rfl rfl rfl ?_
      refine ok_getR (q := 56) (ci := 3) (k := 0) (x := F a0 0) dX3_numberOf_53 rfl fo_X3_19 h0 rfl ?_
      refine ok_getI (q := 59) (ci := 1) (k := 3) (x := I (F a0 0) 3) dX3_numberOf_56 rfl fo_X3_23 h_1 rfl ?_
      refine ok_iload (q := 61) 5 dX3_numberOf_59 rfl rfl ?_
      refine fi_chk (fun h_8 => ?_)
      refine ok_isub (q := 62) dX3_numberOf_61 rfl h_8 ?_
      refine ok_istoreL (q := 64) (fun x7_9 => [(7, qi x7_9), (6, qi x6_7), (0, qr a0), (1, qr a1), (2, qi x2), (3, ql x3), (5, qi x5)]) dX3_numberOf_62 rfl (Nat.le_of_ble_eq_true rfl) (fun _ => rfl) (fun x7_9 => ?_)
      refine ok_lload_n (q := 65) 5 dX3_numberOf_64 rfl rfl rfl ?_
      refine ok_aload_n (q := 66) 2 dX3_numberOf_65 rfl rfl rfl ?_
      refine ok_iload (q := 68) 0 dX3_numberOf_66 rfl rfl ?_
      refine ok_iload_n (q := 69) 4 dX3_numberOf_68 rfl rfl rfl ?_
      refine fi_callV2P (q := 72) (as := [qi x7_9, qi x2]) (st := [ql x3]) dX3_numberOf_69 rfl mo_X3_29 h0 rfl (Nat.le_of_ble_eq_true rfl) rfl rfl (Nat.le_of_ble_eq_true rfl) (Nat.le_of_ble_eq_true rfl) (Nat.le_of_ble_eq_true rfl) (Nat.zero_le _) (Nat.zero_le _) (fun _ hr => ct_X3_waysOf (N := N) h0 hr) (fun v_10 => ?_)
      refine ok_aload_n (q := 73) 2 dX3_numberOf_72 rfl rfl rfl ?_
      refine ok_iload (q := 75) 0 dX3_numberOf_73 rfl rfl ?_
      refine ok_iload (q := 77) 1 dX3_numberOf_75 rfl rfl ?_
      refine fi_callV2P (q := 80) (as := [qi x7_9, qi x6_7]) (st := [ql v_10, ql x3]) dX3_numberOf_77 rfl mo_X3_29 h0 rfl (Nat.le_of_ble_eq_true rfl) rfl rfl (Nat.le_of_ble_eq_true rfl) (Nat.le_of_ble_eq_true rfl) (Nat.le_of_ble_eq_true rfl) (Nat.zero_le _) (Nat.zero_le _) (fun _ hr => ct_X3_waysOf (N := N) h0 hr) (fun v_11 => ?_)
      refine ok_lsubW (q := 81) dX3_numberOf_80 rfl ?_
      refine ok_laddW (q := 82) dX3_numberOf_81 rfl ?_
      refine ok_lstore_nL (q := 83) (fun x3_12 => [(3, ql x3_12), (7, qi x7_9), (6, qi x6_7), (0, qr a0), (1, qr a1), (2, qi x2), (5, qi x5)]) dX3_numberOf_82 rfl rfl (Nat.le_of_ble_eq_true rfl) (fun _ => rfl) (fun x3_12 => ?_)
      refine ok_iload (q := 85) 2 dX3_numberOf_83 rfl rfl ?_
      refine ok_istore_n (q := 86) (ls' := [(2, qi x6_7), (3, ql x3_12), (7, qi x7_9), (6, qi x6_7), (0, qr a0), (1, qr a1), (5, qi x5)]) dX3_numberOf_85 rfl rfl (Nat.le_of_ble_eq_true rfl) rfl ?_
      refine fi_chk (fun h_13 => ?_)
      refine ok_iincL (q := 89) (fun x5_14 => [(5, qi x5_14), (2, qi x6_7), (3, ql x3_12), (7, qi x7_9), (6, qi x6_7), (0, qr a0), (1, qr a1)]) 6 dX3_numberOf_86 rfl rfl h_13 (Nat.le_of_ble_eq_true rfl) (fun _ => rfl) (fun x5_14 => ?_)
      refine ok_goto (q := 20) dX3_numberOf_89 rfl ?_
      exact fun g => ok_pick [5, 6, 1, 2, 0] rfl (H20 _ _ _ _ g)
def X3_numberOf_h20 (N : Nat) (K : am_K) (F : am_F) (I : am_I) (a0 : Nat) : Nat → Nat → Int → Int → Int → Option Int := am_it (fun kh => X3_numberOf_s20 N K F I a0 kh) (fun _ _ _ _ => none)
theorem w_X3_numberOf_h20 {η : am_E} {l : Launch} {N : Nat} {n : Nat} {K : am_K} {I : am_I} {F : am_F} {a0 : Nat} {r0 : Int} (h0 : (K a0).1 = 3) (f : Nat) : ∀ (a1 : Nat) (x2 : Int) (x3 : Int) (x5 : Int), X3_numberOf_h20 N K F I a0 f a1 x2 x3 x5 = some r0 → Ok η l M_X3_numberOf (am_qm η (am_pS 2 (r0, I) n K F) 0 0) 20 [(0, qr a0), (1, qr a1), (2, qi x2), (3, ql x3), (5, qi x5)] [] n K I F 0 0 := by
  induction f with
  | zero => intro a1 x2 x3 x5 g; exact fi_none g
  | succ f ih => intro a1 x2 x3 x5 g; exact w_X3_numberOf_s20 (N := N) h0 ih g
def X3_numberOf (N : Nat) (K : am_K) (F : am_F) (I : am_I) (a0 : Nat) (a1 : Nat) : Option Int :=
  if (K (F a0 0)).1 = 1 then am_cq (X1_seedsIn N K F I (F a0 0) a1) (fun v_2 => if am_inI (v_2 - 1) then am_cq (X3_boardsUpTo N K F I a0 (v_2 - 1)) (fun v_4 => X3_numberOf_h20 N K F I a0 N a1 v_2 v_4 0) else none) else none
theorem w_X3_numberOf {η : am_E} {l : Launch} {N : Nat} {n : Nat} {K : am_K} {I : am_I} {F : am_F} {a0 : Nat} {r0 : Int} {a1 : Nat} (h0 : (K a0).1 = 3) : X3_numberOf N K F I a0 a1 = some r0 → Ok η l M_X3_numberOf (am_qm η (am_pS 2 (r0, I) n K F) 0 0) 0 [(0, qr a0), (1, qr a1)] [] n K I F 0 0 := by
  unfold X3_numberOf
  refine ok_aload_n (q := 1) 0 dX3_numberOf_0 rfl rfl rfl ?_
  refine ok_getR (q := 4) (ci := 3) (k := 0) (x := F a0 0) dX3_numberOf_1 rfl fo_X3_19 h0 rfl ?_
  refine ok_aload_n (q := 5) 1 dX3_numberOf_4 rfl rfl rfl ?_
  refine fi_chk (fun h_1 => ?_)
  refine fi_callV1P (q := 8) (as := [qr a1]) (st := []) dX3_numberOf_5 rfl mo_X3_33 h_1 rfl (Nat.le_of_ble_eq_true rfl) rfl rfl (Nat.le_of_ble_eq_true rfl) (Nat.le_of_ble_eq_true rfl) (Nat.le_of_ble_eq_true rfl) (Nat.zero_le _) (Nat.zero_le _) (fun _ hr => ct_X1_seedsIn (N := N) h_1 hr) (fun v_2 => ?_)
  refine ok_istore_n (q := 9) (ls' := [(2, qi v_2), (0, qr a0), (1, qr a1)]) dX3_numberOf_8 rfl rfl (Nat.le_of_ble_eq_true rfl) rfl ?_
  refine ok_aload_n (q := 10) 1 dX3_numberOf_9 rfl rfl rfl ?_
  refine ok_iload_n (q := 11) 0 dX3_numberOf_10 rfl rfl rfl ?_
  refine ok_iconst (q := 12) (x := 1) dX3_numberOf_11 rfl rfl (by decide) ?_
  refine fi_chk (fun h_3 => ?_)
  refine ok_isub (q := 13) dX3_numberOf_12 rfl h_3 ?_
  refine fi_callV2P (q := 16) (as := [qi (v_2 - 1)]) (st := []) dX3_numberOf_13 rfl mo_X3_37 h0 rfl (Nat.le_of_ble_eq_true rfl) rfl rfl (Nat.le_of_ble_eq_true rfl) (Nat.le_of_ble_eq_true rfl) (Nat.le_of_ble_eq_true rfl) (Nat.zero_le _) (Nat.zero_le _) (fun _ hr => ct_X3_boardsUpTo (N := N) h0 hr) (fun v_4 => ?_)
  refine ok_lstore_n (q := 17) (ls' := [(3, ql v_4), (2, qi v_2), (0, qr a0), (1, qr a1)]) dX3_numberOf_16 rfl rfl (Nat.le_of_ble_eq_true rfl) rfl ?_
  refine ok_iconst (q := 18) (x := 0) dX3_numberOf_17 rfl rfl (by decide) ?_
  refine ok_istore (q := 20) (ls' := [(5, qi 0), (3, ql v_4), (2, qi v_2), (0, qr a0), (1, qr a1)]) dX3_numberOf_18 rfl (Nat.le_of_ble_eq_true rfl) rfl ?_
  exact fun g => ok_pick [3, 4, 2, 1, 0] rfl (w_X3_numberOf_h20 (N := N) h0 N _ _ _ _ g)
theorem ct_X3_numberOf {η : am_E} {l : Launch} {N : Nat} {n : Nat} {K : am_K} {I : am_I} {F : am_F} {a0 : Nat} {r0 : Int} {a1 : Nat} (h0 : (K a0).1 = 3) : X3_numberOf N K F I a0 a1 = some r0 → am_Ct η l yX3_numberOf cX3_numberOf 8 (some .long) 2 45 0 0 [qr a0, qr a1] n K I F (am_pS 2 (r0, I) n K F) := fun g => am_Ct.of false (by decide) (by decide) (Nat.le_of_ble_eq_true rfl) (fun _ => w_X3_numberOf (N := N) h0 g)
def M_X8_countsFor : am_M := (yX8_countsFor.cls, cX8_countsFor, 5, (some .int), am_room 2 45 0 0, false)
def X8_countsFor_b38 (N : Nat) (K : am_K) (F : am_F) (I : am_I) (a0 : Nat) (s0 : Int) : Option Int :=
  some (s0)
theorem w_X8_countsFor_b38 {η : am_E} {l : Launch} {N : Nat} {n : Nat} {K : am_K} {I : am_I} {F : am_F} {a0 : Nat} {r0 : Int} {s0 : Int} (h0 : (K a0).1 = 8) : X8_countsFor_b38 N K F I a0 s0 = some r0 → Ok η l M_X8_countsFor (am_qm η (am_pS 1 (r0, I) n K F) 0 0) 38 [(0, qr a0)] [qi s0] n K I F 0 0 := by
  unfold X8_countsFor_b38
  exact fi_ireturnP dX8_countsFor_38 rfl
def X8_countsFor_b37 (N : Nat) (K : am_K) (F : am_F) (I : am_I) (a0 : Nat) : Option Int :=
  X8_countsFor_b38 N K F I a0 0
theorem w_X8_countsFor_b37 {η : am_E} {l : Launch} {N : Nat} {n : Nat} {K : am_K} {I : am_I} {F : am_F} {a0 : Nat} {r0 : Int} (h0 : (K a0).1 = 8) : X8_countsFor_b37 N K F I a0 = some r0 → Ok η l M_X8_countsFor (am_qm η (am_pS 1 (r0, I) n K F) 0 0) 37 [(0, qr a0)] [] n K I F 0 0 := by
  unfold X8_countsFor_b37
  refine ok_iconst (q := 38) (x := 0) dX8_countsFor_37 rfl rfl (by decide) ?_
  exact fun g => ok_pick [0] rfl (w_X8_countsFor_b38 (N := N) h0 g)
def X8_countsFor (N : Nat) (K : am_K) (F : am_F) (I : am_I) (a0 : Nat) (x1 : Int) (x2 : Int) (a3 : Nat) (a4 : Nat) : Option Int :=
  if (I a0 6) = 0 then (if (K a4).1 = 1 then am_cq (X1_seedsOf N K F I a4 x1 a3) (fun v_4 => some (v_4)) else none) else (if (I a0 6) = 1 then (if x1 = x2 then (X8_countsFor_b37 N K F I a0 ) else (if (K a4).1 = 1 then am_cq (X1_seedsIn N K F I a4 a3) (fun v_2 => X8_countsFor_b38 N K F I a0 v_2) else none)) else (X8_countsFor_b37 N K F I a0 ))
theorem w_X8_countsFor {η : am_E} {l : Launch} {N : Nat} {n : Nat} {K : am_K} {I : am_I} {F : am_F} {a0 : Nat} {r0 : Int} {x1 : Int} {x2 : Int} {a3 : Nat} {a4 : Nat} (h0 : (K a0).1 = 8) : X8_countsFor N K F I a0 x1 x2 a3 a4 = some r0 → Ok η l M_X8_countsFor (am_qm η (am_pS 1 (r0, I) n K F) 0 0) 0 [(0, qr a0), (1, qi x1), (2, qi x2), (3, qr a3), (4, qr a4)] [] n K I F 0 0 := by
  unfold X8_countsFor
  refine ok_aload_n (q := 1) 0 dX8_countsFor_0 rfl rfl rfl ?_
  refine ok_getI (q := 4) (ci := 8) (k := 6) (x := I a0 6) dX8_countsFor_1 rfl fo_X8_35 h0 rfl ?_
  refine ok_if_ne (q := 15) (q2 := 7) dX8_countsFor_4 rfl rfl ?_ ?_
  · skip
    refine ok_aload_n (q := 16) 0 dX8_countsFor_15 rfl rfl rfl ?_
    refine ok_getI (q := 19) (ci := 8) (k := 6) (x := I a0 6) dX8_countsFor_16 rfl fo_X8_35 h0 rfl ?_
    refine ok_iconst (q := 20) (x := 1) dX8_countsFor_19 rfl rfl (by decide) ?_
    refine ok_icmp_ne (q := 37) (q2 := 23) dX8_countsFor_20 rfl rfl ?_ ?_
    · skip
      exact fun g => ok_pick [0] rfl (w_X8_countsFor_b37 (N := N) h0 g)
    · skip
      refine ok_iload_n (q := 24) 1 dX8_countsFor_23 rfl rfl rfl ?_
      refine ok_iload_n (q := 25) 2 dX8_countsFor_24 rfl rfl rfl ?_
      refine ok_icmp_eq (q := 37) (q2 := 28) dX8_countsFor_25 rfl rfl ?_ ?_
      · skip
        exact fun g => ok_pick [0] rfl (w_X8_countsFor_b37 (N := N) h0 g)
      · skip
        refine ok_aload (q := 30) 4 dX8_countsFor_28 rfl rfl ?_
        refine ok_aload_n (q := 31) 3 dX8_countsFor_30 rfl rfl rfl ?_
        refine fi_chk (fun h_1 => ?_)
        refine fi_callV1P (q := 34) (as := [qr a3]) (st := []) dX8_countsFor_31 rfl mo_X8_44 h_1 rfl (Nat.le_of_ble_eq_true rfl) rfl rfl (Nat.le_of_ble_eq_true rfl) (Nat.le_of_ble_eq_true rfl) (Nat.le_of_ble_eq_true rfl) (Nat.zero_le _) (Nat.zero_le _) (fun _ hr => ct_X1_seedsIn (N := N) h_1 hr) (fun v_2 => ?_)
        refine ok_goto (q := 38) dX8_countsFor_34 rfl ?_
        exact fun g => ok_pick [0] rfl (w_X8_countsFor_b38 (N := N) h0 g)
  · skip
    refine ok_aload (q := 9) 4 dX8_countsFor_7 rfl rfl ?_
    refine ok_iload_n (q := 10) 1 dX8_countsFor_9 rfl rfl rfl ?_
    refine ok_aload_n (q := 11) 3 dX8_countsFor_10 rfl rfl rfl ?_
    refine fi_chk (fun h_3 => ?_)
    refine fi_callV1P (q := 14) (as := [qi x1, qr a3]) (st := []) dX8_countsFor_11 rfl mo_X8_38 h_3 rfl (Nat.le_of_ble_eq_true rfl) rfl rfl (Nat.le_of_ble_eq_true rfl) (Nat.le_of_ble_eq_true rfl) (Nat.le_of_ble_eq_true rfl) (Nat.zero_le _) (Nat.zero_le _) (fun _ hr => ct_X1_seedsOf (N := N) h_3 hr) (fun v_4 => ?_)
    exact fi_ireturnP dX8_countsFor_14 rfl
theorem ct_X8_countsFor {η : am_E} {l : Launch} {N : Nat} {n : Nat} {K : am_K} {I : am_I} {F : am_F} {a0 : Nat} {r0 : Int} {x1 : Int} {x2 : Int} {a3 : Nat} {a4 : Nat} (h0 : (K a0).1 = 8) : X8_countsFor N K F I a0 x1 x2 a3 a4 = some r0 → am_Ct η l yX8_countsFor cX8_countsFor 5 (some .int) 2 45 0 0 [qr a0, qi x1, qi x2, qr a3, qr a4] n K I F (am_pS 1 (r0, I) n K F) := fun g => am_Ct.of false (by decide) (by decide) (Nat.le_of_ble_eq_true rfl) (fun _ => w_X8_countsFor (N := N) h0 g)
def M_X0_keepSurvey : am_M := (yX0_keepSurvey.cls, cX0_keepSurvey, 6, none, am_room 3 72 0 0, false)
def X0_keepSurvey_b102 (N : Nat) (K : am_K) (F : am_F) (a0 : Nat) (k18 : am_I → Int → Int → Int → Int → Option (Int × am_I)) (I : am_I) (x1 : Int) (x2 : Int) (x3 : Int) (x4 : Int) : Option (Int × am_I) :=
  if am_inI (x4 + 1) then am_lt (x4 + 1) (fun x4_2 => k18 I x1 x2 x3 x4_2) else none
theorem w_X0_keepSurvey_b102 {η : am_E} {l : Launch} {N : Nat} {n : Nat} {K : am_K} {I : am_I} {F : am_F} {a0 : Nat} {r0 : Int × am_I} {k18 : am_I → Int → Int → Int → Int → Option (Int × am_I)} {x1 : Int} {x2 : Int} {x3 : Int} {x4 : Int} (h0 : (K a0).1 = 0) (H18 : ∀ (I : am_I) (x1 : Int) (x2 : Int) (x3 : Int) (x4 : Int), k18 I x1 x2 x3 x4 = some r0 → Ok η l M_X0_keepSurvey (am_qm η (am_pS 0 r0 n K F) 0 0) 18 [(0, qr a0), (1, qi x1), (2, qi x2), (3, qi x3), (4, qi x4)] [] n K I F 0 0) : X0_keepSurvey_b102 N K F a0 k18 I x1 x2 x3 x4 = some r0 → Ok η l M_X0_keepSurvey (am_qm η (am_pS 0 r0 n K F) 0 0) 102 [(0, qr a0), (1, qi x1), (2, qi x2), (3, qi x3), (4, qi x4)] [] n K I F 0 0 := by
  unfold X0_keepSurvey_b102
  refine fi_chk (fun h_1 => ?_)
  refine ok_iincL (q := 105) (fun x4_2 => [(4, qi x4_2), (0, qr a0), (1, qi x1), (2, qi x2), (3, qi x3)]) 4 dX0_keepSurvey_102 rfl rfl h_1 (Nat.le_of_ble_eq_true rfl) (fun _ => rfl) (fun x4_2 => ?_)
  refine ok_goto (q := 18) dX0_keepSurvey_105 rfl ?_
  exact fun g => ok_pick [1, 2, 3, 4, 0] rfl (H18 _ _ _ _ _ g)
def X0_keepSurvey_s18 (N : Nat) (K : am_K) (F : am_F) (a0 : Nat) (k18 : am_I → Int → Int → Int → Int → Option (Int × am_I)) (I : am_I) (x1 : Int) (x2 : Int) (x3 : Int) (x4 : Int) : Option (Int × am_I) :=
  if (K (F a0 5)).1 = 1 then if (K (F (F a0 5) 8)).1 = 100 then if (0 : Int) ≤ x2 ∧ x2 < (K (F (F a0 5) 8)).2 then if x4 < (I (F (F a0 5) 8) x2) then (if (K (F a0 7)).1 = 10 then if (K (F (F a0 7) 0)).1 = 101 then if (0 : Int) ≤ x4 ∧ x4 < (K (F (F a0 7) 0)).2 then if (I (F (F a0 7) 0) x4) = 0 then (X0_keepSurvey_b102 N K F a0 k18 I x1 x2 x3 x4) else (if (K (F (F a0 7) 2)).1 = 103 then if (0 : Int) ≤ x4 ∧ x4 < (K (F (F a0 7) 2)).2 then if (K (F a0 8)).1 = 3 then am_cq (X3_numberOf N K F I (F a0 8) (F (F (F a0 7) 2) x4)) (fun v_24 => if am_inI (v_24) then if am_inI (2 * v_24) then if am_inI ((2 * v_24) + 1) then if am_inI (((2 * v_24) + 1) - x2) then am_lt (((2 * v_24) + 1) - x2) (fun x5_29 => if (K (F (F a0 7) 1)).1 = 100 then if (0 : Int) ≤ x4 ∧ x4 < (K (F (F a0 7) 1)).2 then if (K (F a0 2)).1 = 100 then if F a0 2 ≠ 1 then if (0 : Int) ≤ x3 ∧ x3 < (K (F a0 2)).2 then am_lt (am_u2 I (F a0 2) x3 (am_ior (am_ior (am_ishl x4 20) (am_ishl (I (F (F a0 7) 1) x4) 16)) x5_29)) (fun I_35 => if am_inI (x3 + 1) then am_lt (x3 + 1) (fun x3_37 => X0_keepSurvey_b102 N K F a0 k18 I_35 x1 x2 x3_37 x4) else none) else none else none else none else none else none) else none else none else none else none) else none else none else none) else none else none else none) else (if am_inI (x1 + 1) then if (K (F a0 1)).1 = 100 then if F a0 1 ≠ 1 then if (0 : Int) ≤ (x1 + 1) ∧ (x1 + 1) < (K (F a0 1)).2 then am_lt (am_u2 I (F a0 1) (x1 + 1) x3) (fun I_8 => if (K (F a0 6)).1 = 8 then am_cq (X8_countsFor N K F I_8 (F a0 6) x2 x2 (F a0 4) (F a0 5)) (fun v_10 => if am_inI (1 - x2) then am_cq (X8_countsFor N K F I_8 (F a0 6) (1 - x2) x2 (F a0 4) (F a0 5)) (fun v_12 => if am_inI (v_10 - v_12) then if (K (F a0 0)).1 = 100 then if F a0 0 ≠ 1 then if (0 : Int) ≤ x1 ∧ x1 < (K (F a0 0)).2 then am_lt (am_u2 I_8 (F a0 0) x1 (v_10 - v_12)) (fun I_17 => some (0, I_17)) else none else none else none else none) else none) else none) else none else none else none else none) else none else none else none
theorem w_X0_keepSurvey_s18 {η : am_E} {l : Launch} {N : Nat} {n : Nat} {K : am_K} {I : am_I} {F : am_F} {a0 : Nat} {r0 : Int × am_I} {k18 : am_I → Int → Int → Int → Int → Option (Int × am_I)} {x1 : Int} {x2 : Int} {x3 : Int} {x4 : Int} (h0 : (K a0).1 = 0) (H18 : ∀ (I : am_I) (x1 : Int) (x2 : Int) (x3 : Int) (x4 : Int), k18 I x1 x2 x3 x4 = some r0 → Ok η l M_X0_keepSurvey (am_qm η (am_pS 0 r0 n K F) 0 0) 18 [(0, qr a0), (1, qi x1), (2, qi x2), (3, qi x3), (4, qi x4)] [] n K I F 0 0) : X0_keepSurvey_s18 N K F a0 k18 I x1 x2 x3 x4 = some r0 → Ok η l M_X0_keepSurvey (am_qm η (am_pS 0 r0 n K F) 0 0) 18 [(0, qr a0), (1, qi x1), (2, qi x2), (3, qi x3), (4, qi x4)] [] n K I F 0 0 := by
  unfold X0_keepSurvey_s18
  refine ok_iload (q := 20) 4 dX0_keepSurvey_18 rfl rfl ?_
  refine ok_aload_n (q := 21) 0 dX0_keepSurvey_20 rfl rfl rfl ?_
  refine ok_getR (q := 24) (ci := 0) (k := 5) (x := F a0 5) dX0_keepSurvey_21 rfl fo_X0_24 h0 rfl ?_
  refine fi_chk (fun h_1 => ?_)
  refine ok_getR (q := 27) (ci := 1) (k := 8) (x := F (F a0 5) 8) dX0_keepSurvey_24 rfl fo_X0_80 h_1 rfl ?_
  refine ok_iload_n (q := 28) 2 dX0_keepSurvey_27 rfl rfl rfl ?_
  refine fi_chk (fun h_2 => ?_)
  refine fi_chk (fun h_3 => ?_)
  refine ok_iaload (q := 29) (v := I (F (F a0 5) 8) x2) dX0_keepSurvey_28 rfl h_2 h_3.1 h_3.2 rfl ?_
  refine ok_icmp_ge (q := 108) (q2 := 32) dX0_keepSurvey_29 rfl rfl ?_ ?_
  · skip
    refine ok_aload_n (q := 109) 0 dX0_keepSurvey_108 rfl rfl rfl ?_
    refine ok_getR (q := 112) (ci := 0) (k := 1) (x := F a0 1) dX0_keepSurvey_109 rfl fo_X0_15 h0 rfl ?_
    refine ok_iload_n (q := 113) 1 dX0_keepSurvey_112 rfl rfl rfl ?_
    refine ok_iconst (q := 114) (x := 1) dX0_keepSurvey_113 rfl rfl (by decide) ?_
    refine fi_chk (fun h_4 => ?_)
    refine ok_iadd (q := 115) dX0_keepSurvey_114 rfl h_4 ?_
    refine ok_iload_n (q := 116) 3 dX0_keepSurvey_115 rfl rfl rfl ?_
    refine fi_chk (fun h_5 => ?_)
    refine fi_chk (fun h_6 => ?_)
    refine fi_chk (fun h_7 => ?_)
    refine ok_iastore (q := 117) dX0_keepSurvey_116 rfl h_5 h_6 h_7.1 h_7.2 (fun I_8 => ?_)
    refine ok_aload_n (q := 118) 0 dX0_keepSurvey_117 rfl rfl rfl ?_
    refine ok_getR (q := 121) (ci := 0) (k := 0) (x := F a0 0) dX0_keepSurvey_118 rfl fo_X0_9 h0 rfl ?_
    refine ok_iload_n (q := 122) 1 dX0_keepSurvey_121 rfl rfl rfl ?_
    refine ok_aload_n (q := 123) 0 dX0_keepSurvey_122 rfl rfl rfl ?_
    refine ok_getR (q := 126) (ci := 0) (k := 6) (x := F a0 6) dX0_keepSurvey_123 rfl fo_X0_28 h0 rfl ?_
    refine ok_iload_n (q := 127) 2 dX0_keepSurvey_126 rfl rfl rfl ?_
    refine ok_iload_n (q := 128) 2 dX0_keepSurvey_127 rfl rfl rfl ?_
    refine ok_aload_n (q := 129) 0 dX0_keepSurvey_128 rfl rfl rfl ?_
    refine ok_getR (q := 132) (ci := 0) (k := 4) (x := F a0 4) dX0_keepSurvey_129 rfl fo_X0_21 h0 rfl ?_
    refine ok_aload_n (q := 133) 0 dX0_keepSurvey_132 rfl rfl rfl ?_
    refine ok_getR (q := 136) (ci := 0) (k := 5) (x := F a0 5) dX0_keepSurvey_133 rfl fo_X0_24 h0 rfl ?_
    refine fi_chk (fun h_9 => ?_)
    refine fi_callV1P (q := 139) (as := [qi x2, qi x2, qr (F a0 4), qr (F a0 5)]) (st := [qi x1, qr (F a0 0)]) dX0_keepSurvey_136 rfl mo_X0_98 h_9 rfl (Nat.le_of_ble_eq_true rfl) rfl rfl (Nat.le_of_ble_eq_true rfl) (Nat.le_of_ble_eq_true rfl) (Nat.le_of_ble_eq_true rfl) (Nat.zero_le _) (Nat.zero_le _) (fun _ hr => ct_X8_countsFor (N := N) h_9 hr) (fun v_10 => ?_)
    refine ok_aload_n (q := 140) 0 dX0_keepSurvey_139 rfl rfl rfl ?_
    refine ok_getR (q := 143) (ci := 0) (k := 6) (x := F a0 6) dX0_keepSurvey_140 rfl fo_X0_28 h0 rfl ?_
    refine ok_iconst (q := 144) (x := 1) dX0_keepSurvey_143 rfl rfl (by decide) ?_
    refine ok_iload_n (q := 145) 2 dX0_keepSurvey_144 rfl rfl rfl ?_
    refine fi_chk (fun h_11 => ?_)
    refine ok_isub (q := 146) dX0_keepSurvey_145 rfl h_11 ?_
    refine ok_iload_n (q := 147) 2 dX0_keepSurvey_146 rfl rfl rfl ?_
    refine ok_aload_n (q := 148) 0 dX0_keepSurvey_147 rfl rfl rfl ?_
    refine ok_getR (q := 151) (ci := 0) (k := 4) (x := F a0 4) dX0_keepSurvey_148 rfl fo_X0_21 h0 rfl ?_
    refine ok_aload_n (q := 152) 0 dX0_keepSurvey_151 rfl rfl rfl ?_
    refine ok_getR (q := 155) (ci := 0) (k := 5) (x := F a0 5) dX0_keepSurvey_152 rfl fo_X0_24 h0 rfl ?_
    refine fi_callV1P (q := 158) (as := [qi (1 - x2), qi x2, qr (F a0 4), qr (F a0 5)]) (st := [qi v_10, qi x1, qr (F a0 0)]) dX0_keepSurvey_155 rfl mo_X0_98 h_9 rfl (Nat.le_of_ble_eq_true rfl) rfl rfl (Nat.le_of_ble_eq_true rfl) (Nat.le_of_ble_eq_true rfl) (Nat.le_of_ble_eq_true rfl) (Nat.zero_le _) (Nat.zero_le _) (fun _ hr => ct_X8_countsFor (N := N) h_9 hr) (fun v_12 => ?_)
    refine fi_chk (fun h_13 => ?_)
    refine ok_isub (q := 159) dX0_keepSurvey_158 rfl h_13 ?_
    refine fi_chk (fun h_14 => ?_)
    refine fi_chk (fun h_15 => ?_)
    refine fi_chk (fun h_16 => ?_)
    refine ok_iastore (q := 160) dX0_keepSurvey_159 rfl h_14 h_15 h_16.1 h_16.2 (fun I_17 => ?_)
    exact fi_returnS dX0_keepSurvey_160 rfl
  · skip
    refine ok_aload_n (q := 33) 0 dX0_keepSurvey_32 rfl rfl rfl ?_
    refine ok_getR (q := 36) (ci := 0) (k := 7) (x := F a0 7) dX0_keepSurvey_33 rfl fo_X0_32 h0 rfl ?_
    refine fi_chk (fun h_18 => ?_)
    refine ok_getR (q := 39) (ci := 10) (k := 0) (x := F (F a0 7) 0) dX0_keepSurvey_36 rfl fo_X0_83 h_18 rfl ?_
    refine ok_iload (q := 41) 4 dX0_keepSurvey_39 rfl rfl ?_
    refine fi_chk (fun h_19 => ?_)
    refine fi_chk (fun h_20 => ?_)
    refine ok_baload (q := 42) (v := I (F (F a0 7) 0) x4) dX0_keepSurvey_41 rfl h_19 h_20.1 h_20.2 rfl ?_
    refine ok_if_eq (q := 102) (q2 := 45) dX0_keepSurvey_42 rfl rfl ?_ ?_
    · skip
      exact fun g => ok_pick [0, 1, 2, 3, 4] rfl (w_X0_keepSurvey_b102 (N := N) h0 H18 g)
    · skip
      refine ok_iconst (q := 46) (x := 2) dX0_keepSurvey_45 rfl rfl (by decide) ?_
      refine ok_aload_n (q := 47) 0 dX0_keepSurvey_46 rfl rfl rfl ?_
      refine ok_getR (q := 50) (ci := 0) (k := 8) (x := F a0 8) dX0_keepSurvey_47 rfl fo_X0_36 h0 rfl ?_
      refine ok_aload_n (q := 51) 0 dX0_keepSurvey_50 rfl rfl rfl ?_
      refine ok_getR (q := 54) (ci := 0) (k := 7) (x := F a0 7) dX0_keepSurvey_51 rfl fo_X0_32 h0 rfl ?_
      refine ok_getR (q := 57) (ci := 10) (k := 2) (x := F (F a0 7) 2) dX0_keepSurvey_54 rfl fo_X0_87 h_18 rfl ?_
      refine ok_iload (q := 59) 4 dX0_keepSurvey_57 rfl rfl ?_
      refine fi_chk (fun h_21 => ?_)
      refine fi_chk (fun h_22 => ?_)
      refine ok_aaload (q := 60) (i := 0) (v := F (F (F a0 7) 2) x4) dX0_keepSurvey_59 rfl h_21 (by decide) rfl rfl h_22.1 h_22.2 rfl ?_
      refine fi_chk (fun h_23 => ?_)
      refine fi_callV2P (q := 63) (as := [qr (F (F (F a0 7) 2) x4)]) (st := [qi 2]) dX0_keepSurvey_60 rfl mo_X0_91 h_23 rfl (Nat.le_of_ble_eq_true rfl) rfl rfl (Nat.le_of_ble_eq_true rfl) (Nat.le_of_ble_eq_true rfl) (Nat.le_of_ble_eq_true rfl) (Nat.zero_le _) (Nat.zero_le _) (fun _ hr => ct_X3_numberOf (N := N) h_23 hr) (fun v_24 => ?_)
      refine fi_chk (fun h_25 => ?_)
      refine ok_l2i (q := 64) dX0_keepSurvey_63 rfl h_25 ?_
      refine fi_chk (fun h_26 => ?_)
      refine ok_imul (q := 65) dX0_keepSurvey_64 rfl h_26 ?_
      refine ok_iconst (q := 66) (x := 1) dX0_keepSurvey_65 rfl rfl (by decide) ?_
      refine fi_chk (fun h_27 => ?_)
      refine ok_iadd (q := 67) dX0_keepSurvey_66 rfl h_27 ?_
      refine ok_iload_n (q := 68) 2 dX0_keepSurvey_67 rfl rfl rfl ?_
      refine fi_chk (fun h_28 => ?_)
      refine ok_isub (q := 69) dX0_keepSurvey_68 rfl h_28 ?_
      refine ok_istoreL (q := 71) (fun x5_29 => [(5, qi x5_29), (0, qr a0), (1, qi x1), (2, qi x2), (3, qi x3), (4, qi x4)]) dX0_keepSurvey_69 rfl (Nat.le_of_ble_eq_true rfl) (fun _ => rfl) (fun x5_29 => ?_)
      refine ok_aload_n (q := 72) 1 dX0_keepSurvey_71 rfl rfl rfl ?_
      refine ok_getR (q := 75) (ci := 0) (k := 2) (x := F a0 2) dX0_keepSurvey_72 rfl fo_X0_18 h0 rfl ?_
      refine ok_iload_n (q := 76) 4 dX0_keepSurvey_75 rfl rfl rfl ?_
      refine ok_iload (q := 78) 5 dX0_keepSurvey_76 rfl rfl ?_
      refine ok_bipush (q := 80) (x := 20) dX0_keepSurvey_78 rfl rfl (by decide) ?_
      refine ok_ishl (q := 81) (r := am_ishl x4 20) dX0_keepSurvey_80 rfl rfl ?_
      refine ok_aload_n (q := 82) 1 dX0_keepSurvey_81 rfl rfl rfl ?_
      refine ok_getR (q := 85) (ci := 0) (k := 7) (x := F a0 7) dX0_keepSurvey_82 rfl fo_X0_32 h0 rfl ?_
      refine ok_getR (q := 88) (ci := 10) (k := 1) (x := F (F a0 7) 1) dX0_keepSurvey_85 rfl fo_X0_95 h_18 rfl ?_
      refine ok_iload (q := 90) 5 dX0_keepSurvey_88 rfl rfl ?_
      refine fi_chk (fun h_30 => ?_)
      refine fi_chk (fun h_31 => ?_)
      refine ok_iaload (q := 91) (v := I (F (F a0 7) 1) x4) dX0_keepSurvey_90 rfl h_30 h_31.1 h_31.2 rfl ?_
      refine ok_bipush (q := 93) (x := 16) dX0_keepSurvey_91 rfl rfl (by decide) ?_
      refine ok_ishl (q := 94) (r := am_ishl (I (F (F a0 7) 1) x4) 16) dX0_keepSurvey_93 rfl rfl ?_
      refine ok_ior (q := 95) (r := am_ior (am_ishl x4 20) (am_ishl (I (F (F a0 7) 1) x4) 16)) dX0_keepSurvey_94 rfl rfl ?_
      refine ok_iload (q := 97) 0 dX0_keepSurvey_95 rfl rfl ?_
      refine ok_ior (q := 98) (r := am_ior (am_ior (am_ishl x4 20) (am_ishl (I (F (F a0 7) 1) x4) 16)) x5_29) dX0_keepSurvey_97 rfl rfl ?_
      refine fi_chk (fun h_32 => ?_)
      refine fi_chk (fun h_33 => ?_)
      refine fi_chk (fun h_34 => ?_)
      refine ok_iastore (q := 99) dX0_keepSurvey_98 rfl h_32 h_33 h_34.1 h_34.2 (fun I_35 => ?_)
      refine fi_chk (fun h_36 => ?_)
      refine ok_iincL (q := 102) (fun x3_37 => [(3, qi x3_37), (5, qi x5_29), (0, qr a0), (1, qi x1), (2, qi x2), (4, qi x4)]) 4 dX0_keepSurvey_99 rfl rfl h_36 (Nat.le_of_ble_eq_true rfl) (fun _ => rfl) (fun x3_37 => ?_)
      exact fun g => ok_pick [2, 3, 4, 0, 5] rfl (w_X0_keepSurvey_b102 (N := N) h0 H18 g)
def X0_keepSurvey_h18 (N : Nat) (K : am_K) (F : am_F) (a0 : Nat) : Nat → am_I → Int → Int → Int → Int → Option (Int × am_I) := am_it (fun kh => X0_keepSurvey_s18 N K F a0 kh) (fun _ _ _ _ _ => none)
theorem w_X0_keepSurvey_h18 {η : am_E} {l : Launch} {N : Nat} {n : Nat} {K : am_K} {F : am_F} {a0 : Nat} {r0 : Int × am_I} (h0 : (K a0).1 = 0) (f : Nat) : ∀ (I : am_I) (x1 : Int) (x2 : Int) (x3 : Int) (x4 : Int), X0_keepSurvey_h18 N K F a0 f I x1 x2 x3 x4 = some r0 → Ok η l M_X0_keepSurvey (am_qm η (am_pS 0 r0 n K F) 0 0) 18 [(0, qr a0), (1, qi x1), (2, qi x2), (3, qi x3), (4, qi x4)] [] n K I F 0 0 := by
  induction f with
  | zero => intro I x1 x2 x3 x4 g; exact fi_none g
  | succ f ih => intro I x1 x2 x3 x4 g; exact w_X0_keepSurvey_s18 (N := N) h0 ih g
def X0_keepSurvey (N : Nat) (K : am_K) (F : am_F) (a0 : Nat) (I : am_I) (x1 : Int) (x2 : Int) : Option (Int × am_I) :=
  if (K (F a0 1)).1 = 100 then if (0 : Int) ≤ x1 ∧ x1 < (K (F a0 1)).2 then am_lt (I (F a0 1) x1) (fun x3_3 => if (K (F a0 5)).1 = 1 then if (K (F (F a0 5) 7)).1 = 100 then if (0 : Int) ≤ x2 ∧ x2 < (K (F (F a0 5) 7)).2 then am_lt (I (F (F a0 5) 7) x2) (fun x4_7 => X0_keepSurvey_h18 N K F a0 N I x1 x2 x3_3 x4_7) else none else none else none) else none else none
theorem w_X0_keepSurvey {η : am_E} {l : Launch} {N : Nat} {n : Nat} {K : am_K} {I : am_I} {F : am_F} {a0 : Nat} {r0 : Int × am_I} {x1 : Int} {x2 : Int} (h0 : (K a0).1 = 0) : X0_keepSurvey N K F a0 I x1 x2 = some r0 → Ok η l M_X0_keepSurvey (am_qm η (am_pS 0 r0 n K F) 0 0) 0 [(0, qr a0), (1, qi x1), (2, qi x2)] [] n K I F 0 0 := by
  unfold X0_keepSurvey
  refine ok_aload_n (q := 1) 0 dX0_keepSurvey_0 rfl rfl rfl ?_
  refine ok_getR (q := 4) (ci := 0) (k := 1) (x := F a0 1) dX0_keepSurvey_1 rfl fo_X0_15 h0 rfl ?_
  refine ok_iload_n (q := 5) 1 dX0_keepSurvey_4 rfl rfl rfl ?_
  refine fi_chk (fun h_1 => ?_)
  refine fi_chk (fun h_2 => ?_)
  refine ok_iaload (q := 6) (v := I (F a0 1) x1) dX0_keepSurvey_5 rfl h_1 h_2.1 h_2.2 rfl ?_
  refine ok_istore_nL (q := 7) (fun x3_3 => [(3, qi x3_3), (0, qr a0), (1, qi x1), (2, qi x2)]) dX0_keepSurvey_6 rfl rfl (Nat.le_of_ble_eq_true rfl) (fun _ => rfl) (fun x3_3 => ?_)
  refine ok_aload_n (q := 8) 1 dX0_keepSurvey_7 rfl rfl rfl ?_
  refine ok_getR (q := 11) (ci := 0) (k := 5) (x := F a0 5) dX0_keepSurvey_8 rfl fo_X0_24 h0 rfl ?_
  refine fi_chk (fun h_4 => ?_)
  refine ok_getR (q := 14) (ci := 1) (k := 7) (x := F (F a0 5) 7) dX0_keepSurvey_11 rfl fo_X0_75 h_4 rfl ?_
  refine ok_iload_n (q := 15) 3 dX0_keepSurvey_14 rfl rfl rfl ?_
  refine fi_chk (fun h_5 => ?_)
  refine fi_chk (fun h_6 => ?_)
  refine ok_iaload (q := 16) (v := I (F (F a0 5) 7) x2) dX0_keepSurvey_15 rfl h_5 h_6.1 h_6.2 rfl ?_
  refine ok_istoreL (q := 18) (fun x4_7 => [(4, qi x4_7), (3, qi x3_3), (0, qr a0), (1, qi x1), (2, qi x2)]) dX0_keepSurvey_16 rfl (Nat.le_of_ble_eq_true rfl) (fun _ => rfl) (fun x4_7 => ?_)
  exact fun g => ok_pick [2, 3, 4, 1, 0] rfl (w_X0_keepSurvey_h18 (N := N) h0 N _ _ _ _ _ g)
theorem ct_X0_keepSurvey {η : am_E} {l : Launch} {N : Nat} {n : Nat} {K : am_K} {I : am_I} {F : am_F} {a0 : Nat} {r0 : Int × am_I} {x1 : Int} {x2 : Int} (h0 : (K a0).1 = 0) : X0_keepSurvey N K F a0 I x1 x2 = some r0 → am_Ct η l yX0_keepSurvey cX0_keepSurvey 6 none 3 72 0 0 [qr a0, qi x1, qi x2] n K I F (am_pS 0 r0 n K F) := fun g => am_Ct.of false (by decide) (by decide) (Nat.le_of_ble_eq_true rfl) (fun _ => w_X0_keepSurvey (N := N) h0 g)
def M_X0_buildLayer : am_M := (yX0_buildLayer.cls, cX0_buildLayer, 5, none, am_room 5 125 0 0, false)
def X0_buildLayer_s57 (N : Nat) (K : am_K) (F : am_F) (a0 : Nat) (k0 : am_I → Int → Option (Int × am_I)) (k36 : am_I → Int → Int → Int → Option (Int × am_I)) (k57 : am_I → Int → Int → Int → Int → Option (Int × am_I)) (I : am_I) (x1 : Int) (x2 : Int) (x3 : Int) (x4 : Int) : Option (Int × am_I) :=
  if x4 < 2 then (if (K (F a0 7)).1 = 10 then am_cl (X10_survey N K F (F a0 7) I (F a0 4) x4) (fun v_4 I_5 => if am_inI (2 * x3) then if am_inI ((2 * x3) + x4) then am_cl (X0_keepSurvey N K F a0 I_5 ((2 * x3) + x4) x4) (fun _ I_8 => if am_inI (x4 + 1) then am_lt (x4 + 1) (fun x4_10 => k57 I_8 x1 x2 x3 x4_10) else none) else none else none) else none) else (if am_inI (x3 + 1) then am_lt (x3 + 1) (fun x3_2 => k36 I x1 x2 x3_2) else none)
theorem w_X0_buildLayer_s57 {η : am_E} {l : Launch} {N : Nat} {n : Nat} {K : am_K} {I : am_I} {F : am_F} {a0 : Nat} {r0 : Int × am_I} {k0 : am_I → Int → Option (Int × am_I)} {k36 : am_I → Int → Int → Int → Option (Int × am_I)} {k57 : am_I → Int → Int → Int → Int → Option (Int × am_I)} {x1 : Int} {x2 : Int} {x3 : Int} {x4 : Int} (h0 : (K a0).1 = 0) (H0 : ∀ (I : am_I) (x1 : Int), k0 I x1 = some r0 → Ok η l M_X0_buildLayer (am_qm η (am_pS 0 r0 n K F) 0 0) 0 [(0, qr a0), (1, qi x1)] [] n K I F 0 0) (H36 : ∀ (I : am_I) (x1 : Int) (x2 : Int) (x3 : Int), k36 I x1 x2 x3 = some r0 → Ok η l M_X0_buildLayer (am_qm η (am_pS 0 r0 n K F) 0 0) 36 [(0, qr a0), (1, qi x1), (2, qi x2), (3, qi x3)] [] n K I F 0 0) (H57 : ∀ (I : am_I) (x1 : Int) (x2 : Int) (x3 : Int) (x4 : Int), k57 I x1 x2 x3 x4 = some r0 → Ok η l M_X0_buildLayer (am_qm η (am_pS 0 r0 n K F) 0 0) 57 [(0, qr a0), (1, qi x1), (2, qi x2), (3, qi x3), (4, qi x4)] [] n K I F 0 0) : X0_buildLayer_s57 N K F a0 k0 k36 k57 I x1 x2 x3 x4 = some r0 → Ok η l M_X0_buildLayer (am_qm η (am_pS 0 r0 n K F) 0 0) 57 [(0, qr a0), (1, qi x1), (2, qi x2), (3, qi x3), (4, qi x4)] [] n K I F 0 0 := by
  unfold X0_buildLayer_s57
  refine ok_iload (q := 59) 4 dX0_buildLayer_57 rfl rfl ?_
  refine ok_iconst (q := 60) (x := 2) dX0_buildLayer_59 rfl rfl (by decide) ?_
  refine ok_icmp_ge (q := 95) (q2 := 63) dX0_buildLayer_60 rfl rfl ?_ ?_
  · skip
    refine fi_chk (fun h_1 => ?_)
    refine ok_iincL (q := 98) (fun x3_2 => [(3, qi x3_2), (0, qr a0), (1, qi x1), (2, qi x2), (4, qi x4)]) 3 dX0_buildLayer_95 rfl rfl h_1 (Nat.le_of_ble_eq_true rfl) (fun _ => rfl) (fun x3_2 => ?_)
    refine ok_goto (q := 36) dX0_buildLayer_98 rfl ?_
    exact fun g => ok_pick [1, 2, 3, 0] rfl (H36 _ _ _ _ g)
  · skip
    refine ok_aload_n (q := 64) 0 dX0_buildLayer_63 rfl rfl rfl ?_
    refine ok_getR (q := 67) (ci := 0) (k := 7) (x := F a0 7) dX0_buildLayer_64 rfl fo_X0_32 h0 rfl ?_
    refine ok_aload_n (q := 68) 0 dX0_buildLayer_67 rfl rfl rfl ?_
    refine ok_getR (q := 71) (ci := 0) (k := 4) (x := F a0 4) dX0_buildLayer_68 rfl fo_X0_21 h0 rfl ?_
    refine ok_iload (q := 73) 4 dX0_buildLayer_71 rfl rfl ?_
    refine fi_chk (fun h_3 => ?_)
    refine fi_callV1S (q := 76) (as := [qr (F a0 4), qi x4]) (st := []) dX0_buildLayer_73 rfl mo_X0_65 h_3 rfl (Nat.le_of_ble_eq_true rfl) rfl rfl (Nat.le_of_ble_eq_true rfl) (Nat.le_of_ble_eq_true rfl) (Nat.le_of_ble_eq_true rfl) (Nat.zero_le _) (Nat.zero_le _) (fun _ hr => ct_X10_survey (N := N) h_3 hr) (fun v_4 I_5 => ?_)
    refine ok_pop (q := 77) dX0_buildLayer_76 rfl rfl ?_
    refine ok_aload_n (q := 78) 0 dX0_buildLayer_77 rfl rfl rfl ?_
    refine ok_iconst (q := 79) (x := 2) dX0_buildLayer_78 rfl rfl (by decide) ?_
    refine ok_iload_n (q := 80) 3 dX0_buildLayer_79 rfl rfl rfl ?_
    refine fi_chk (fun h_6 => ?_)
    refine ok_imul (q := 81) dX0_buildLayer_80 rfl h_6 ?_
    refine ok_iload (q := 83) 4 dX0_buildLayer_81 rfl rfl ?_
    refine fi_chk (fun h_7 => ?_)
    refine ok_iadd (q := 84) dX0_buildLayer_83 rfl h_7 ?_
    refine ok_iload (q := 86) 4 dX0_buildLayer_84 rfl rfl ?_
    refine fi_callV0S (q := 89) (as := [qi ((2 * x3) + x4), qi x4]) (st := []) dX0_buildLayer_86 rfl mo_X0_71 h0 rfl (Nat.le_of_ble_eq_true rfl) rfl rfl (Nat.le_of_ble_eq_true rfl) (Nat.le_of_ble_eq_true rfl) (Nat.le_of_ble_eq_true rfl) (Nat.zero_le _) (Nat.zero_le _) (fun _ hr => ct_X0_keepSurvey (N := N) h0 hr) (fun _ I_8 => ?_)
    refine fi_chk (fun h_9 => ?_)
    refine ok_iincL (q := 92) (fun x4_10 => [(4, qi x4_10), (0, qr a0), (1, qi x1), (2, qi x2), (3, qi x3)]) 4 dX0_buildLayer_89 rfl rfl h_9 (Nat.le_of_ble_eq_true rfl) (fun _ => rfl) (fun x4_10 => ?_)
    refine ok_goto (q := 57) dX0_buildLayer_92 rfl ?_
    exact fun g => ok_pick [1, 2, 3, 4, 0] rfl (H57 _ _ _ _ _ g)
def X0_buildLayer_h57 (N : Nat) (K : am_K) (F : am_F) (a0 : Nat) (k0 : am_I → Int → Option (Int × am_I)) (k36 : am_I → Int → Int → Int → Option (Int × am_I)) : Nat → am_I → Int → Int → Int → Int → Option (Int × am_I) := am_it (fun kh => X0_buildLayer_s57 N K F a0 k0 k36 kh) (fun _ _ _ _ _ => none)
theorem w_X0_buildLayer_h57 {η : am_E} {l : Launch} {N : Nat} {n : Nat} {K : am_K} {F : am_F} {a0 : Nat} {r0 : Int × am_I} {k0 : am_I → Int → Option (Int × am_I)} {k36 : am_I → Int → Int → Int → Option (Int × am_I)} (h0 : (K a0).1 = 0) (H0 : ∀ (I : am_I) (x1 : Int), k0 I x1 = some r0 → Ok η l M_X0_buildLayer (am_qm η (am_pS 0 r0 n K F) 0 0) 0 [(0, qr a0), (1, qi x1)] [] n K I F 0 0) (H36 : ∀ (I : am_I) (x1 : Int) (x2 : Int) (x3 : Int), k36 I x1 x2 x3 = some r0 → Ok η l M_X0_buildLayer (am_qm η (am_pS 0 r0 n K F) 0 0) 36 [(0, qr a0), (1, qi x1), (2, qi x2), (3, qi x3)] [] n K I F 0 0) (f : Nat) : ∀ (I : am_I) (x1 : Int) (x2 : Int) (x3 : Int) (x4 : Int), X0_buildLayer_h57 N K F a0 k0 k36 f I x1 x2 x3 x4 = some r0 → Ok η l M_X0_buildLayer (am_qm η (am_pS 0 r0 n K F) 0 0) 57 [(0, qr a0), (1, qi x1), (2, qi x2), (3, qi x3), (4, qi x4)] [] n K I F 0 0 := by
  induction f with
  | zero => intro I x1 x2 x3 x4 g; exact fi_none g
  | succ f ih => intro I x1 x2 x3 x4 g; exact w_X0_buildLayer_s57 (N := N) h0 H0 H36 ih g
def X0_buildLayer_s36 (N : Nat) (K : am_K) (F : am_F) (a0 : Nat) (k0 : am_I → Int → Option (Int × am_I)) (k36 : am_I → Int → Int → Int → Option (Int × am_I)) (I : am_I) (x1 : Int) (x2 : Int) (x3 : Int) : Option (Int × am_I) :=
  if x3 < x2 then (if (K (F a0 8)).1 = 3 then am_cl (X3_fill N K F (F a0 8) I (F a0 4) x3) (fun _ I_4 => X0_buildLayer_h57 N K F a0 k0 k36 N I_4 x1 x2 x3 0) else none) else (if am_inI ((I a0 3) + 1) then am_lt (am_u2 I a0 3 ((I a0 3) + 1)) (fun I_2 => k0 I_2 x1) else none)
theorem w_X0_buildLayer_s36 {η : am_E} {l : Launch} {N : Nat} {n : Nat} {K : am_K} {I : am_I} {F : am_F} {a0 : Nat} {r0 : Int × am_I} {k0 : am_I → Int → Option (Int × am_I)} {k36 : am_I → Int → Int → Int → Option (Int × am_I)} {x1 : Int} {x2 : Int} {x3 : Int} (h0 : (K a0).1 = 0) (H0 : ∀ (I : am_I) (x1 : Int), k0 I x1 = some r0 → Ok η l M_X0_buildLayer (am_qm η (am_pS 0 r0 n K F) 0 0) 0 [(0, qr a0), (1, qi x1)] [] n K I F 0 0) (H36 : ∀ (I : am_I) (x1 : Int) (x2 : Int) (x3 : Int), k36 I x1 x2 x3 = some r0 → Ok η l M_X0_buildLayer (am_qm η (am_pS 0 r0 n K F) 0 0) 36 [(0, qr a0), (1, qi x1), (2, qi x2), (3, qi x3)] [] n K I F 0 0) : X0_buildLayer_s36 N K F a0 k0 k36 I x1 x2 x3 = some r0 → Ok η l M_X0_buildLayer (am_qm η (am_pS 0 r0 n K F) 0 0) 36 [(0, qr a0), (1, qi x1), (2, qi x2), (3, qi x3)] [] n K I F 0 0 := by
  unfold X0_buildLayer_s36
  refine ok_iload_n (q := 37) 3 dX0_buildLayer_36 rfl rfl rfl ?_
  refine ok_iload_n (q := 38) 2 dX0_buildLayer_37 rfl rfl rfl ?_
  refine ok_icmp_ge (q := 101) (q2 := 41) dX0_buildLayer_38 rfl rfl ?_ ?_
  · skip
    refine ok_aload_n (q := 102) 0 dX0_buildLayer_101 rfl rfl rfl ?_
    refine ok_dup (q := 103) dX0_buildLayer_102 rfl rfl ?_
    refine ok_getI (q := 106) (ci := 0) (k := 3) (x := I a0 3) dX0_buildLayer_103 rfl fo_X0_41 h0 rfl ?_
    refine ok_iconst (q := 107) (x := 1) dX0_buildLayer_106 rfl rfl (by decide) ?_
    refine fi_chk (fun h_1 => ?_)
    refine ok_iadd (q := 108) dX0_buildLayer_107 rfl h_1 ?_
    refine ok_putI (q := 111) (ci := 0) (k := 3) dX0_buildLayer_108 rfl fo_X0_41 h0 ft_0_3 ff_0_3 (fun I_2 => ?_)
    refine ok_goto (q := 0) dX0_buildLayer_111 rfl ?_
    exact fun g => ok_pick [0, 1] rfl (H0 _ _ g)
  · skip
    refine ok_aload_n (q := 42) 0 dX0_buildLayer_41 rfl rfl rfl ?_
    refine ok_getR (q := 45) (ci := 0) (k := 8) (x := F a0 8) dX0_buildLayer_42 rfl fo_X0_36 h0 rfl ?_
    refine ok_aload_n (q := 46) 0 dX0_buildLayer_45 rfl rfl rfl ?_
    refine ok_getR (q := 49) (ci := 0) (k := 4) (x := F a0 4) dX0_buildLayer_46 rfl fo_X0_21 h0 rfl ?_
    refine ok_iload_n (q := 50) 3 dX0_buildLayer_49 rfl rfl rfl ?_
    refine ok_i2l (q := 51) dX0_buildLayer_50 rfl ?_
    refine fi_chk (fun h_3 => ?_)
    refine fi_callV0S (q := 54) (as := [qr (F a0 4), ql x3]) (st := []) dX0_buildLayer_51 rfl mo_X0_61 h_3 rfl (Nat.le_of_ble_eq_true rfl) rfl rfl (Nat.le_of_ble_eq_true rfl) (Nat.le_of_ble_eq_true rfl) (Nat.le_of_ble_eq_true rfl) (Nat.zero_le _) (Nat.zero_le _) (fun _ hr => ct_X3_fill (N := N) h_3 hr) (fun _ I_4 => ?_)
    refine ok_iconst (q := 55) (x := 0) dX0_buildLayer_54 rfl rfl (by decide) ?_
    refine ok_istore (q := 57) (ls' := [(4, qi 0), (0, qr a0), (1, qi x1), (2, qi x2), (3, qi x3)]) dX0_buildLayer_55 rfl (Nat.le_of_ble_eq_true rfl) rfl ?_
    exact fun g => ok_pick [1, 2, 3, 4, 0] rfl (w_X0_buildLayer_h57 (N := N) h0 H0 H36 N _ _ _ _ _ g)
def X0_buildLayer_h36 (N : Nat) (K : am_K) (F : am_F) (a0 : Nat) (k0 : am_I → Int → Option (Int × am_I)) : Nat → am_I → Int → Int → Int → Option (Int × am_I) := am_it (fun kh => X0_buildLayer_s36 N K F a0 k0 kh) (fun _ _ _ _ => none)
theorem w_X0_buildLayer_h36 {η : am_E} {l : Launch} {N : Nat} {n : Nat} {K : am_K} {F : am_F} {a0 : Nat} {r0 : Int × am_I} {k0 : am_I → Int → Option (Int × am_I)} (h0 : (K a0).1 = 0) (H0 : ∀ (I : am_I) (x1 : Int), k0 I x1 = some r0 → Ok η l M_X0_buildLayer (am_qm η (am_pS 0 r0 n K F) 0 0) 0 [(0, qr a0), (1, qi x1)] [] n K I F 0 0) (f : Nat) : ∀ (I : am_I) (x1 : Int) (x2 : Int) (x3 : Int), X0_buildLayer_h36 N K F a0 k0 f I x1 x2 x3 = some r0 → Ok η l M_X0_buildLayer (am_qm η (am_pS 0 r0 n K F) 0 0) 36 [(0, qr a0), (1, qi x1), (2, qi x2), (3, qi x3)] [] n K I F 0 0 := by
  induction f with
  | zero => intro I x1 x2 x3 g; exact fi_none g
  | succ f ih => intro I x1 x2 x3 g; exact w_X0_buildLayer_s36 (N := N) h0 H0 ih g
def X0_buildLayer_s0 (N : Nat) (K : am_K) (F : am_F) (a0 : Nat) (k0 : am_I → Int → Option (Int × am_I)) (I : am_I) (x1 : Int) : Option (Int × am_I) :=
  if (I a0 3) ≤ x1 then (if (K (F a0 8)).1 = 3 then am_cq (X3_boardsUpTo N K F I (F a0 8) (I a0 3)) (fun v_2 => if am_inI (v_2) then if am_inI ((I a0 3) - 1) then am_cq (X3_boardsUpTo N K F I (F a0 8) ((I a0 3) - 1)) (fun v_5 => if am_inI (v_5) then X0_buildLayer_h36 N K F a0 k0 N I x1 v_2 v_5 else none) else none else none) else none) else (some (0, I))
theorem w_X0_buildLayer_s0 {η : am_E} {l : Launch} {N : Nat} {n : Nat} {K : am_K} {I : am_I} {F : am_F} {a0 : Nat} {r0 : Int × am_I} {k0 : am_I → Int → Option (Int × am_I)} {x1 : Int} (h0 : (K a0).1 = 0) (H0 : ∀ (I : am_I) (x1 : Int), k0 I x1 = some r0 → Ok η l M_X0_buildLayer (am_qm η (am_pS 0 r0 n K F) 0 0) 0 [(0, qr a0), (1, qi x1)] [] n K I F 0 0) : X0_buildLayer_s0 N K F a0 k0 I x1 = some r0 → Ok η l M_X0_buildLayer (am_qm η (am_pS 0 r0 n K F) 0 0) 0 [(0, qr a0), (1, qi x1)] [] n K I F 0 0 := by
  unfold X0_buildLayer_s0
  refine ok_aload_n (q := 1) 0 dX0_buildLayer_0 rfl rfl rfl ?_
  refine ok_getI (q := 4) (ci := 0) (k := 3) (x := I a0 3) dX0_buildLayer_1 rfl fo_X0_41 h0 rfl ?_
  refine ok_iload_n (q := 5) 1 dX0_buildLayer_4 rfl rfl rfl ?_
  refine ok_icmp_gt (q := 114) (q2 := 8) dX0_buildLayer_5 rfl rfl ?_ ?_
  · skip
    exact fi_returnS dX0_buildLayer_114 rfl
  · skip
    refine ok_aload_n (q := 9) 0 dX0_buildLayer_8 rfl rfl rfl ?_
    refine ok_getR (q := 12) (ci := 0) (k := 8) (x := F a0 8) dX0_buildLayer_9 rfl fo_X0_36 h0 rfl ?_
    refine ok_aload_n (q := 13) 0 dX0_buildLayer_12 rfl rfl rfl ?_
    refine ok_getI (q := 16) (ci := 0) (k := 3) (x := I a0 3) dX0_buildLayer_13 rfl fo_X0_41 h0 rfl ?_
    refine fi_chk (fun h_1 => ?_)
    refine fi_callV2P (q := 19) (as := [qi (I a0 3)]) (st := []) dX0_buildLayer_16 rfl mo_X0_55 h_1 rfl (Nat.le_of_ble_eq_true rfl) rfl rfl (Nat.le_of_ble_eq_true rfl) (Nat.le_of_ble_eq_true rfl) (Nat.le_of_ble_eq_true rfl) (Nat.zero_le _) (Nat.zero_le _) (fun _ hr => ct_X3_boardsUpTo (N := N) h_1 hr) (fun v_2 => ?_)
    refine fi_chk (fun h_3 => ?_)
    refine ok_l2i (q := 20) dX0_buildLayer_19 rfl h_3 ?_
    refine ok_istore_n (q := 21) (ls' := [(2, qi v_2), (0, qr a0), (1, qi x1)]) dX0_buildLayer_20 rfl rfl (Nat.le_of_ble_eq_true rfl) rfl ?_
    refine ok_aload_n (q := 22) 1 dX0_buildLayer_21 rfl rfl rfl ?_
    refine ok_getR (q := 25) (ci := 0) (k := 8) (x := F a0 8) dX0_buildLayer_22 rfl fo_X0_36 h0 rfl ?_
    refine ok_aload_n (q := 26) 1 dX0_buildLayer_25 rfl rfl rfl ?_
    refine ok_getI (q := 29) (ci := 0) (k := 3) (x := I a0 3) dX0_buildLayer_26 rfl fo_X0_41 h0 rfl ?_
    refine ok_iconst (q := 30) (x := 1) dX0_buildLayer_29 rfl rfl (by decide) ?_
    refine fi_chk (fun h_4 => ?_)
    refine ok_isub (q := 31) dX0_buildLayer_30 rfl h_4 ?_
    refine fi_callV2P (q := 34) (as := [qi ((I a0 3) - 1)]) (st := []) dX0_buildLayer_31 rfl mo_X0_55 h_1 rfl (Nat.le_of_ble_eq_true rfl) rfl rfl (Nat.le_of_ble_eq_true rfl) (Nat.le_of_ble_eq_true rfl) (Nat.le_of_ble_eq_true rfl) (Nat.zero_le _) (Nat.zero_le _) (fun _ hr => ct_X3_boardsUpTo (N := N) h_1 hr) (fun v_5 => ?_)
    refine fi_chk (fun h_6 => ?_)
    refine ok_l2i (q := 35) dX0_buildLayer_34 rfl h_6 ?_
    refine ok_istore_n (q := 36) (ls' := [(3, qi v_5), (2, qi v_2), (0, qr a0), (1, qi x1)]) dX0_buildLayer_35 rfl rfl (Nat.le_of_ble_eq_true rfl) rfl ?_
    exact fun g => ok_pick [2, 3, 1, 0] rfl (w_X0_buildLayer_h36 (N := N) h0 H0 N _ _ _ _ g)
def X0_buildLayer_h0 (N : Nat) (K : am_K) (F : am_F) (a0 : Nat) : Nat → am_I → Int → Option (Int × am_I) := am_it (fun kh => X0_buildLayer_s0 N K F a0 kh) (fun _ _ => none)
theorem w_X0_buildLayer_h0 {η : am_E} {l : Launch} {N : Nat} {n : Nat} {K : am_K} {F : am_F} {a0 : Nat} {r0 : Int × am_I} (h0 : (K a0).1 = 0) (f : Nat) : ∀ (I : am_I) (x1 : Int), X0_buildLayer_h0 N K F a0 f I x1 = some r0 → Ok η l M_X0_buildLayer (am_qm η (am_pS 0 r0 n K F) 0 0) 0 [(0, qr a0), (1, qi x1)] [] n K I F 0 0 := by
  induction f with
  | zero => intro I x1 g; exact fi_none g
  | succ f ih => intro I x1 g; exact w_X0_buildLayer_s0 (N := N) h0 ih g
def X0_buildLayer (N : Nat) (K : am_K) (F : am_F) (a0 : Nat) (I : am_I) (x1 : Int) : Option (Int × am_I) := X0_buildLayer_h0 N K F a0 N I x1
theorem ct_X0_buildLayer {η : am_E} {l : Launch} {N : Nat} {n : Nat} {K : am_K} {I : am_I} {F : am_F} {a0 : Nat} {r0 : Int × am_I} {x1 : Int} (h0 : (K a0).1 = 0) : X0_buildLayer N K F a0 I x1 = some r0 → am_Ct η l yX0_buildLayer cX0_buildLayer 5 none 5 125 0 0 [qr a0, qi x1] n K I F (am_pS 0 r0 n K F) := fun g => am_Ct.of false (by decide) (by decide) (Nat.le_of_ble_eq_true rfl) (fun _ => w_X0_buildLayer_h0 (N := N) h0 N _ _ g)
def M_X1_init (mc ms : Nat) : am_M := (yX1_init.cls, cX1_init, 1, none, am_room 1 20 mc ms, true)
def X1_init (N : Nat) (a0 : Nat) (n : Nat) (K : am_K) (I : am_I) (F : am_F) : Option am_A :=
  if a0 ≠ 0 then if (0 : Int) ≤ 32 ∧ 32 ≤ (60000000 : Int) then am_nw n (101, 32) K I F (fun n_2 K_3 I_4 F_5 => am_mo (0 + 1) (0 + (32 : Int).toNat) (if (K_3 a0).1 = 1 then am_lt (am_u2 F_5 a0 4 n) (fun F_11 => am_nw n_2 (100, 32) K_3 I_4 F_11 (fun n_12 K_13 I_14 F_15 => am_mo ((0 + 1) + 1) ((0 + (32 : Int).toNat) + (32 : Int).toNat) (if (K_13 a0).1 = 1 then am_lt (am_u2 F_15 a0 5 n_2) (fun F_20 => if (0 : Int) ≤ 2 ∧ 2 ≤ (60000000 : Int) then am_nw n_12 (100, 2) K_13 I_14 F_20 (fun n_21 K_22 I_23 F_24 => am_mo (((0 + 1) + 1) + 1) (((0 + (32 : Int).toNat) + (32 : Int).toNat) + (2 : Int).toNat) (if (K_22 a0).1 = 1 then am_lt (am_u2 F_24 a0 6 n_12) (fun F_30 => am_nw n_21 (100, 2) K_22 I_23 F_30 (fun n_31 K_32 I_33 F_34 => am_mo ((((0 + 1) + 1) + 1) + 1) ((((0 + (32 : Int).toNat) + (32 : Int).toNat) + (2 : Int).toNat) + (2 : Int).toNat) (if (K_32 a0).1 = 1 then am_lt (am_u2 F_34 a0 7 n_21) (fun F_39 => am_nw n_31 (100, 2) K_32 I_33 F_39 (fun n_40 K_41 I_42 F_43 => am_mo (((((0 + 1) + 1) + 1) + 1) + 1) (((((0 + (32 : Int).toNat) + (32 : Int).toNat) + (2 : Int).toNat) + (2 : Int).toNat) + (2 : Int).toNat) (if (K_41 a0).1 = 1 then am_lt (am_u2 F_43 a0 8 n_31) (fun F_48 => am_nw n_40 (100, 32) K_41 I_42 F_48 (fun n_49 K_50 I_51 F_52 => am_mo ((((((0 + 1) + 1) + 1) + 1) + 1) + 1) ((((((0 + (32 : Int).toNat) + (32 : Int).toNat) + (2 : Int).toNat) + (2 : Int).toNat) + (2 : Int).toNat) + (32 : Int).toNat) (if (K_50 a0).1 = 1 then am_lt (am_u2 F_52 a0 9 n_40) (fun F_57 => am_nw n_49 (100, 32) K_50 I_51 F_57 (fun n_58 K_59 I_60 F_61 => am_mo (((((((0 + 1) + 1) + 1) + 1) + 1) + 1) + 1) (((((((0 + (32 : Int).toNat) + (32 : Int).toNat) + (2 : Int).toNat) + (2 : Int).toNat) + (2 : Int).toNat) + (32 : Int).toNat) + (32 : Int).toNat) (if (K_59 a0).1 = 1 then am_lt (am_u2 F_61 a0 10 n_49) (fun F_66 => am_nw n_58 (100, 32) K_59 I_60 F_66 (fun n_67 K_68 I_69 F_70 => am_mo ((((((((0 + 1) + 1) + 1) + 1) + 1) + 1) + 1) + 1) ((((((((0 + (32 : Int).toNat) + (32 : Int).toNat) + (2 : Int).toNat) + (2 : Int).toNat) + (2 : Int).toNat) + (32 : Int).toNat) + (32 : Int).toNat) + (32 : Int).toNat) (if (K_68 a0).1 = 1 then am_lt (am_u2 F_70 a0 11 n_58) (fun F_75 => am_nw n_67 (100, 32) K_68 I_69 F_75 (fun n_76 K_77 I_78 F_79 => am_mo (((((((((0 + 1) + 1) + 1) + 1) + 1) + 1) + 1) + 1) + 1) (((((((((0 + (32 : Int).toNat) + (32 : Int).toNat) + (2 : Int).toNat) + (2 : Int).toNat) + (2 : Int).toNat) + (32 : Int).toNat) + (32 : Int).toNat) + (32 : Int).toNat) + (32 : Int).toNat) (if (K_77 a0).1 = 1 then am_lt (am_u2 F_79 a0 12 n_67) (fun F_84 => am_nw n_76 (100, 32) K_77 I_78 F_84 (fun n_85 K_86 I_87 F_88 => am_mo ((((((((((0 + 1) + 1) + 1) + 1) + 1) + 1) + 1) + 1) + 1) + 1) ((((((((((0 + (32 : Int).toNat) + (32 : Int).toNat) + (2 : Int).toNat) + (2 : Int).toNat) + (2 : Int).toNat) + (32 : Int).toNat) + (32 : Int).toNat) + (32 : Int).toNat) + (32 : Int).toNat) + (32 : Int).toNat) (if (K_86 a0).1 = 1 then am_lt (am_u2 F_88 a0 13 n_76) (fun F_93 => am_nw n_85 (100, 32) K_86 I_87 F_93 (fun n_94 K_95 I_96 F_97 => am_mo (((((((((((0 + 1) + 1) + 1) + 1) + 1) + 1) + 1) + 1) + 1) + 1) + 1) (((((((((((0 + (32 : Int).toNat) + (32 : Int).toNat) + (2 : Int).toNat) + (2 : Int).toNat) + (2 : Int).toNat) + (32 : Int).toNat) + (32 : Int).toNat) + (32 : Int).toNat) + (32 : Int).toNat) + (32 : Int).toNat) + (32 : Int).toNat) (if (K_95 a0).1 = 1 then am_lt (am_u2 F_97 a0 14 n_85) (fun F_102 => some (0, n_94, K_95, I_96, F_102, (((((((((((0 + 1) + 1) + 1) + 1) + 1) + 1) + 1) + 1) + 1) + 1) + 1), (((((((((((0 + (32 : Int).toNat) + (32 : Int).toNat) + (2 : Int).toNat) + (2 : Int).toNat) + (2 : Int).toNat) + (32 : Int).toNat) + (32 : Int).toNat) + (32 : Int).toNat) + (32 : Int).toNat) + (32 : Int).toNat) + (32 : Int).toNat))) else none))) else none))) else none))) else none))) else none))) else none))) else none))) else none))) else none)) else none) else none))) else none)) else none else none
theorem w_X1_init {η : am_E} {l : Launch} {N : Nat} {n : Nat} {K : am_K} {I : am_I} {F : am_F} {a0 : Nat} {r0 : am_A} (h0 : (K a0).1 = 1) : X1_init N a0 n K I F = some r0 → Ok η l (M_X1_init (am_ac1 r0) (am_az1 r0)) (am_qm η (am_pA 0 r0) (am_ac1 r0) (am_az1 r0)) 0 [(0, qr a0)] [] n K I F 0 0 := by
  unfold X1_init
  refine ok_aload_n (q := 1) 0 dX1_init_0 rfl rfl rfl ?_
  refine fi_chk (fun h_1 => ?_)
  refine ok_objInit (q := 4) dX1_init_1 rfl oi_X1_3 h_1 (Nat.le_of_ble_eq_true rfl) (Nat.le_of_ble_eq_true rfl) (Nat.le_of_ble_eq_true rfl) ?_
  refine ok_aload_n (q := 5) 0 dX1_init_4 rfl rfl rfl ?_
  refine ok_bipush (q := 7) (x := 32) dX1_init_5 rfl rfl (by decide) ?_
  refine fi_chk (fun h_6 => ?_)
  refine fi_newz (q := 9) dX1_init_7 rfl h_6 na_newz (Nat.le_refl _) (Nat.le_refl _) (fun n_2 K_3 I_4 F_5 hc_8 hz_9 h_7 => ?_)
  refine fi_chk (fun h_10 => ?_)
  refine ok_putRF (q := 12) (ci := 1) (k := 4) dX1_init_9 rfl fo_X1_9 h_10 ft_1_4 rfl ff_1_4 rfl rfl (fun F_11 => ?_)
  refine ok_aload_n (q := 13) 0 dX1_init_12 rfl rfl rfl ?_
  refine ok_bipush (q := 15) (x := 32) dX1_init_13 rfl rfl (by decide) ?_
  refine fi_newi (q := 17) dX1_init_15 rfl h_6 na_newi (Nat.le_refl _) (Nat.le_refl _) (fun n_12 K_13 I_14 F_15 hc_17 hz_18 h_16 => ?_)
  refine fi_chk (fun h_19 => ?_)
  refine ok_putRF (q := 20) (ci := 1) (k := 5) dX1_init_17 rfl fo_X1_15 h_19 ft_1_5 rfl ff_1_5 rfl rfl (fun F_20 => ?_)
  refine ok_aload_n (q := 21) 0 dX1_init_20 rfl rfl rfl ?_
  refine ok_iconst (q := 22) (x := 2) dX1_init_21 rfl rfl (by decide) ?_
  refine fi_chk (fun h_25 => ?_)
  refine fi_newi (q := 24) dX1_init_22 rfl h_25 na_newi (Nat.le_refl _) (Nat.le_refl _) (fun n_21 K_22 I_23 F_24 hc_27 hz_28 h_26 => ?_)
  refine fi_chk (fun h_29 => ?_)
  refine ok_putRF (q := 27) (ci := 1) (k := 6) dX1_init_24 rfl fo_X1_19 h_29 ft_1_6 rfl ff_1_6 rfl rfl (fun F_30 => ?_)
  refine ok_aload_n (q := 28) 0 dX1_init_27 rfl rfl rfl ?_
  refine ok_iconst (q := 29) (x := 2) dX1_init_28 rfl rfl (by decide) ?_
  refine fi_newi (q := 31) dX1_init_29 rfl h_25 na_newi (Nat.le_refl _) (Nat.le_refl _) (fun n_31 K_32 I_33 F_34 hc_36 hz_37 h_35 => ?_)
  refine fi_chk (fun h_38 => ?_)
  refine ok_putRF (q := 34) (ci := 1) (k := 7) dX1_init_31 rfl fo_X1_22 h_38 ft_1_7 rfl ff_1_7 rfl rfl (fun F_39 => ?_)
  refine ok_aload_n (q := 35) 0 dX1_init_34 rfl rfl rfl ?_
  refine ok_iconst (q := 36) (x := 2) dX1_init_35 rfl rfl (by decide) ?_
  refine fi_newi (q := 38) dX1_init_36 rfl h_25 na_newi (Nat.le_refl _) (Nat.le_refl _) (fun n_40 K_41 I_42 F_43 hc_45 hz_46 h_44 => ?_)
  refine fi_chk (fun h_47 => ?_)
  refine ok_putRF (q := 41) (ci := 1) (k := 8) dX1_init_38 rfl fo_X1_25 h_47 ft_1_8 rfl ff_1_8 rfl rfl (fun F_48 => ?_)
  refine ok_aload_n (q := 42) 0 dX1_init_41 rfl rfl rfl ?_
  refine ok_bipush (q := 44) (x := 32) dX1_init_42 rfl rfl (by decide) ?_
  refine fi_newi (q := 46) dX1_init_44 rfl h_6 na_newi (Nat.le_refl _) (Nat.le_refl _) (fun n_49 K_50 I_51 F_52 hc_54 hz_55 h_53 => ?_)
  refine fi_chk (fun h_56 => ?_)
  refine ok_putRF (q := 49) (ci := 1) (k := 9) dX1_init_46 rfl fo_X1_28 h_56 ft_1_9 rfl ff_1_9 rfl rfl (fun F_57 => ?_)
  refine ok_aload_n (q := 50) 0 dX1_init_49 rfl rfl rfl ?_
  refine ok_bipush (q := 52) (x := 32) dX1_init_50 rfl rfl (by decide) ?_
  refine fi_newi (q := 54) dX1_init_52 rfl h_6 na_newi (Nat.le_refl _) (Nat.le_refl _) (fun n_58 K_59 I_60 F_61 hc_63 hz_64 h_62 => ?_)
  refine fi_chk (fun h_65 => ?_)
  refine ok_putRF (q := 57) (ci := 1) (k := 10) dX1_init_54 rfl fo_X1_31 h_65 ft_1_10 rfl ff_1_10 rfl rfl (fun F_66 => ?_)
  refine ok_aload_n (q := 58) 0 dX1_init_57 rfl rfl rfl ?_
  refine ok_bipush (q := 60) (x := 32) dX1_init_58 rfl rfl (by decide) ?_
  refine fi_newi (q := 62) dX1_init_60 rfl h_6 na_newi (Nat.le_refl _) (Nat.le_refl _) (fun n_67 K_68 I_69 F_70 hc_72 hz_73 h_71 => ?_)
  refine fi_chk (fun h_74 => ?_)
  refine ok_putRF (q := 65) (ci := 1) (k := 11) dX1_init_62 rfl fo_X1_34 h_74 ft_1_11 rfl ff_1_11 rfl rfl (fun F_75 => ?_)
  refine ok_aload_n (q := 66) 0 dX1_init_65 rfl rfl rfl ?_
  refine ok_bipush (q := 68) (x := 32) dX1_init_66 rfl rfl (by decide) ?_
  refine fi_newi (q := 70) dX1_init_68 rfl h_6 na_newi (Nat.le_refl _) (Nat.le_refl _) (fun n_76 K_77 I_78 F_79 hc_81 hz_82 h_80 => ?_)
  refine fi_chk (fun h_83 => ?_)
  refine ok_putRF (q := 73) (ci := 1) (k := 12) dX1_init_70 rfl fo_X1_37 h_83 ft_1_12 rfl ff_1_12 rfl rfl (fun F_84 => ?_)
  refine ok_aload_n (q := 74) 0 dX1_init_73 rfl rfl rfl ?_
  refine ok_bipush (q := 76) (x := 32) dX1_init_74 rfl rfl (by decide) ?_
  refine fi_newi (q := 78) dX1_init_76 rfl h_6 na_newi (Nat.le_refl _) (Nat.le_refl _) (fun n_85 K_86 I_87 F_88 hc_90 hz_91 h_89 => ?_)
  refine fi_chk (fun h_92 => ?_)
  refine ok_putRF (q := 81) (ci := 1) (k := 13) dX1_init_78 rfl fo_X1_40 h_92 ft_1_13 rfl ff_1_13 rfl rfl (fun F_93 => ?_)
  refine ok_aload_n (q := 82) 0 dX1_init_81 rfl rfl rfl ?_
  refine ok_bipush (q := 84) (x := 32) dX1_init_82 rfl rfl (by decide) ?_
  refine fi_newi (q := 86) dX1_init_84 rfl h_6 na_newi (Nat.le_refl _) (Nat.le_refl _) (fun n_94 K_95 I_96 F_97 hc_99 hz_100 h_98 => ?_)
  refine fi_chk (fun h_101 => ?_)
  refine ok_putRF (q := 89) (ci := 1) (k := 14) dX1_init_86 rfl fo_X1_43 h_101 ft_1_14 rfl ff_1_14 rfl rfl (fun F_102 => ?_)
  exact fi_returnA dX1_init_89 rfl
theorem ct_X1_init {η : am_E} {l : Launch} {N : Nat} {n : Nat} {K : am_K} {I : am_I} {F : am_F} {a0 : Nat} {r0 : am_A} (h0 : (K a0).1 = 1) : X1_init N a0 n K I F = some r0 → am_Ct η l yX1_init cX1_init 1 none 1 20 (am_ac1 r0) (am_az1 r0) [qr a0] n K I F (am_pA 0 r0) := fun g => am_Ct.of true (by decide) (by decide) (Nat.le_of_ble_eq_true rfl) (fun _ => w_X1_init (N := N) h0 g)
def M_X1_listLive : am_M := (yX1_listLive.cls, cX1_listLive, 2, none, am_room 0 0 0 0, false)
def X1_listLive_b73 (N : Nat) (K : am_K) (F : am_F) (a0 : Nat) (k21 : am_I → Int → Option (Int × am_I)) (I : am_I) (x1 : Int) : Option (Int × am_I) :=
  if am_inI (x1 + 1) then am_lt (x1 + 1) (fun x1_2 => k21 I x1_2) else none
theorem w_X1_listLive_b73 {η : am_E} {l : Launch} {N : Nat} {n : Nat} {K : am_K} {I : am_I} {F : am_F} {a0 : Nat} {r0 : Int × am_I} {k21 : am_I → Int → Option (Int × am_I)} {x1 : Int} (h0 : (K a0).1 = 1) (H21 : ∀ (I : am_I) (x1 : Int), k21 I x1 = some r0 → Ok η l M_X1_listLive (am_qm η (am_pS 0 r0 n K F) 0 0) 21 [(0, qr a0), (1, qi x1)] [] n K I F 0 0) : X1_listLive_b73 N K F a0 k21 I x1 = some r0 → Ok η l M_X1_listLive (am_qm η (am_pS 0 r0 n K F) 0 0) 73 [(0, qr a0), (1, qi x1)] [] n K I F 0 0 := by
  unfold X1_listLive_b73
  refine fi_chk (fun h_1 => ?_)
  refine ok_iincL (q := 76) (fun x1_2 => [(1, qi x1_2), (0, qr a0)]) 1 dX1_listLive_73 rfl rfl h_1 (Nat.le_of_ble_eq_true rfl) (fun _ => rfl) (fun x1_2 => ?_)
  refine ok_goto (q := 21) dX1_listLive_76 rfl ?_
  exact fun g => ok_pick [1, 0] rfl (H21 _ _ g)
def X1_listLive_s21 (N : Nat) (K : am_K) (F : am_F) (a0 : Nat) (k21 : am_I → Int → Option (Int × am_I)) (I : am_I) (x1 : Int) : Option (Int × am_I) :=
  if x1 < (I a0 2) then (if (K (F a0 4)).1 = 101 then if (0 : Int) ≤ x1 ∧ x1 < (K (F a0 4)).2 then if (I (F a0 4) x1) = 0 then (if (K (F a0 5)).1 = 100 then if F a0 5 ≠ 1 then if (0 : Int) ≤ (I a0 3) ∧ (I a0 3) < (K (F a0 5)).2 then am_lt (am_u2 I (F a0 5) (I a0 3) x1) (fun I_6 => if am_inI ((I_6 a0 3) + 1) then am_lt (am_u2 I_6 a0 3 ((I_6 a0 3) + 1)) (fun I_8 => if (K (F a0 9)).1 = 100 then if (0 : Int) ≤ x1 ∧ x1 < (K (F a0 9)).2 then if (K (F a0 6)).1 = 100 then if (0 : Int) ≤ (I_8 (F a0 9) x1) ∧ (I_8 (F a0 9) x1) < (K (F a0 6)).2 then if am_inI ((I_8 (F a0 6) (I_8 (F a0 9) x1)) + 1) then if F a0 6 ≠ 1 then am_lt (am_u2 I_8 (F a0 6) (I_8 (F a0 9) x1) ((I_8 (F a0 6) (I_8 (F a0 9) x1)) + 1)) (fun I_15 => X1_listLive_b73 N K F a0 k21 I_15 x1) else none else none else none else none else none else none) else none) else none else none else none) else (X1_listLive_b73 N K F a0 k21 I x1) else none else none) else (some (0, I))
theorem w_X1_listLive_s21 {η : am_E} {l : Launch} {N : Nat} {n : Nat} {K : am_K} {I : am_I} {F : am_F} {a0 : Nat} {r0 : Int × am_I} {k21 : am_I → Int → Option (Int × am_I)} {x1 : Int} (h0 : (K a0).1 = 1) (H21 : ∀ (I : am_I) (x1 : Int), k21 I x1 = some r0 → Ok η l M_X1_listLive (am_qm η (am_pS 0 r0 n K F) 0 0) 21 [(0, qr a0), (1, qi x1)] [] n K I F 0 0) : X1_listLive_s21 N K F a0 k21 I x1 = some r0 → Ok η l M_X1_listLive (am_qm η (am_pS 0 r0 n K F) 0 0) 21 [(0, qr a0), (1, qi x1)] [] n K I F 0 0 := by
  unfold X1_listLive_s21
  refine ok_iload_n (q := 22) 1 dX1_listLive_21 rfl rfl rfl ?_
  refine ok_aload_n (q := 23) 0 dX1_listLive_22 rfl rfl rfl ?_
  refine ok_getI (q := 26) (ci := 1) (k := 2) (x := I a0 2) dX1_listLive_23 rfl fo_X1_53 h0 rfl ?_
  refine ok_icmp_ge (q := 79) (q2 := 29) dX1_listLive_26 rfl rfl ?_ ?_
  · skip
    exact fi_returnS dX1_listLive_79 rfl
  · skip
    refine ok_aload_n (q := 30) 0 dX1_listLive_29 rfl rfl rfl ?_
    refine ok_getR (q := 33) (ci := 1) (k := 4) (x := F a0 4) dX1_listLive_30 rfl fo_X1_9 h0 rfl ?_
    refine ok_iload_n (q := 34) 1 dX1_listLive_33 rfl rfl rfl ?_
    refine fi_chk (fun h_1 => ?_)
    refine fi_chk (fun h_2 => ?_)
    refine ok_baload (q := 35) (v := I (F a0 4) x1) dX1_listLive_34 rfl h_1 h_2.1 h_2.2 rfl ?_
    refine ok_if_ne (q := 73) (q2 := 38) dX1_listLive_35 rfl rfl ?_ ?_
    · skip
      exact fun g => ok_pick [0, 1] rfl (w_X1_listLive_b73 (N := N) h0 H21 g)
    · skip
      refine ok_aload_n (q := 39) 0 dX1_listLive_38 rfl rfl rfl ?_
      refine ok_getR (q := 42) (ci := 1) (k := 5) (x := F a0 5) dX1_listLive_39 rfl fo_X1_15 h0 rfl ?_
      refine ok_aload_n (q := 43) 0 dX1_listLive_42 rfl rfl rfl ?_
      refine ok_getI (q := 46) (ci := 1) (k := 3) (x := I a0 3) dX1_listLive_43 rfl fo_X1_75 h0 rfl ?_
      refine ok_iload_n (q := 47) 1 dX1_listLive_46 rfl rfl rfl ?_
      refine fi_chk (fun h_3 => ?_)
      refine fi_chk (fun h_4 => ?_)
      refine fi_chk (fun h_5 => ?_)
      refine ok_iastore (q := 48) dX1_listLive_47 rfl h_3 h_4 h_5.1 h_5.2 (fun I_6 => ?_)
      refine ok_aload_n (q := 49) 0 dX1_listLive_48 rfl rfl rfl ?_
      refine ok_dup (q := 50) dX1_listLive_49 rfl rfl ?_
      refine ok_getI (q := 53) (ci := 1) (k := 3) (x := I_6 a0 3) dX1_listLive_50 rfl fo_X1_75 h0 rfl ?_
      refine ok_iconst (q := 54) (x := 1) dX1_listLive_53 rfl rfl (by decide) ?_
      refine fi_chk (fun h_7 => ?_)
      refine ok_iadd (q := 55) dX1_listLive_54 rfl h_7 ?_
      refine ok_putI (q := 58) (ci := 1) (k := 3) dX1_listLive_55 rfl fo_X1_75 h0 ft_1_3 ff_1_3 (fun I_8 => ?_)
      refine ok_aload_n (q := 59) 0 dX1_listLive_58 rfl rfl rfl ?_
      refine ok_getR (q := 62) (ci := 1) (k := 6) (x := F a0 6) dX1_listLive_59 rfl fo_X1_19 h0 rfl ?_
      refine ok_aload_n (q := 63) 0 dX1_listLive_62 rfl rfl rfl ?_
      refine ok_getR (q := 66) (ci := 1) (k := 9) (x := F a0 9) dX1_listLive_63 rfl fo_X1_28 h0 rfl ?_
      refine ok_iload_n (q := 67) 1 dX1_listLive_66 rfl rfl rfl ?_
      refine fi_chk (fun h_9 => ?_)
      refine fi_chk (fun h_10 => ?_)
      refine ok_iaload (q := 68) (v := I_8 (F a0 9) x1) dX1_listLive_67 rfl h_9 h_10.1 h_10.2 rfl ?_
      refine ok_dup2 (q := 69) dX1_listLive_68 rfl rfl rfl ?_
      refine fi_chk (fun h_11 => ?_)
      refine fi_chk (fun h_12 => ?_)
      refine ok_iaload (q := 70) (v := I_8 (F a0 6) (I_8 (F a0 9) x1)) dX1_listLive_69 rfl h_11 h_12.1 h_12.2 rfl ?_
      refine ok_iconst (q := 71) (x := 1) dX1_listLive_70 rfl rfl (by decide) ?_
      refine fi_chk (fun h_13 => ?_)
      refine ok_iadd (q := 72) dX1_listLive_71 rfl h_13 ?_
      refine fi_chk (fun h_14 => ?_)
      refine ok_iastore (q := 73) dX1_listLive_72 rfl h_11 h_14 h_12.1 h_12.2 (fun I_15 => ?_)
      exact fun g => ok_pick [0, 1] rfl (w_X1_listLive_b73 (N := N) h0 H21 g)
def X1_listLive_h21 (N : Nat) (K : am_K) (F : am_F) (a0 : Nat) : Nat → am_I → Int → Option (Int × am_I) := am_it (fun kh => X1_listLive_s21 N K F a0 kh) (fun _ _ => none)
theorem w_X1_listLive_h21 {η : am_E} {l : Launch} {N : Nat} {n : Nat} {K : am_K} {F : am_F} {a0 : Nat} {r0 : Int × am_I} (h0 : (K a0).1 = 1) (f : Nat) : ∀ (I : am_I) (x1 : Int), X1_listLive_h21 N K F a0 f I x1 = some r0 → Ok η l M_X1_listLive (am_qm η (am_pS 0 r0 n K F) 0 0) 21 [(0, qr a0), (1, qi x1)] [] n K I F 0 0 := by
  induction f with
  | zero => intro I x1 g; exact fi_none g
  | succ f ih => intro I x1 g; exact w_X1_listLive_s21 (N := N) h0 ih g
def X1_listLive (N : Nat) (K : am_K) (F : am_F) (a0 : Nat) (I : am_I) : Option (Int × am_I) :=
  am_lt (am_u2 I a0 3 0) (fun I_1 => if (K (F a0 6)).1 = 100 then if F a0 6 ≠ 1 then if (0 : Int) ≤ 0 ∧ 0 < (K (F a0 6)).2 then am_lt (am_u2 I_1 (F a0 6) 0 0) (fun I_5 => if (0 : Int) ≤ 1 ∧ 1 < (K (F a0 6)).2 then am_lt (am_u2 I_5 (F a0 6) 1 0) (fun I_7 => X1_listLive_h21 N K F a0 N I_7 0) else none) else none else none else none)
theorem w_X1_listLive {η : am_E} {l : Launch} {N : Nat} {n : Nat} {K : am_K} {I : am_I} {F : am_F} {a0 : Nat} {r0 : Int × am_I} (h0 : (K a0).1 = 1) : X1_listLive N K F a0 I = some r0 → Ok η l M_X1_listLive (am_qm η (am_pS 0 r0 n K F) 0 0) 0 [(0, qr a0)] [] n K I F 0 0 := by
  unfold X1_listLive
  refine ok_aload_n (q := 1) 0 dX1_listLive_0 rfl rfl rfl ?_
  refine ok_iconst (q := 2) (x := 0) dX1_listLive_1 rfl rfl (by decide) ?_
  refine ok_putI (q := 5) (ci := 1) (k := 3) dX1_listLive_2 rfl fo_X1_75 h0 ft_1_3 ff_1_3 (fun I_1 => ?_)
  refine ok_aload_n (q := 6) 0 dX1_listLive_5 rfl rfl rfl ?_
  refine ok_getR (q := 9) (ci := 1) (k := 6) (x := F a0 6) dX1_listLive_6 rfl fo_X1_19 h0 rfl ?_
  refine ok_iconst (q := 10) (x := 0) dX1_listLive_9 rfl rfl (by decide) ?_
  refine ok_iconst (q := 11) (x := 0) dX1_listLive_10 rfl rfl (by decide) ?_
  refine fi_chk (fun h_2 => ?_)
  refine fi_chk (fun h_3 => ?_)
  refine fi_chk (fun h_4 => ?_)
  refine ok_iastore (q := 12) dX1_listLive_11 rfl h_2 h_3 h_4.1 h_4.2 (fun I_5 => ?_)
  refine ok_aload_n (q := 13) 0 dX1_listLive_12 rfl rfl rfl ?_
  refine ok_getR (q := 16) (ci := 1) (k := 6) (x := F a0 6) dX1_listLive_13 rfl fo_X1_19 h0 rfl ?_
  refine ok_iconst (q := 17) (x := 1) dX1_listLive_16 rfl rfl (by decide) ?_
  refine ok_iconst (q := 18) (x := 0) dX1_listLive_17 rfl rfl (by decide) ?_
  refine fi_chk (fun h_6 => ?_)
  refine ok_iastore (q := 19) dX1_listLive_18 rfl h_2 h_3 h_6.1 h_6.2 (fun I_7 => ?_)
  refine ok_iconst (q := 20) (x := 0) dX1_listLive_19 rfl rfl (by decide) ?_
  refine ok_istore_n (q := 21) (ls' := [(1, qi 0), (0, qr a0)]) dX1_listLive_20 rfl rfl (Nat.le_of_ble_eq_true rfl) rfl ?_
  exact fun g => ok_pick [1, 0] rfl (w_X1_listLive_h21 (N := N) h0 N _ _ g)
theorem ct_X1_listLive {η : am_E} {l : Launch} {N : Nat} {n : Nat} {K : am_K} {I : am_I} {F : am_F} {a0 : Nat} {r0 : Int × am_I} (h0 : (K a0).1 = 1) : X1_listLive N K F a0 I = some r0 → am_Ct η l yX1_listLive cX1_listLive 2 none 0 0 0 0 [qr a0] n K I F (am_pS 0 r0 n K F) := fun g => am_Ct.of false (by decide) (by decide) (Nat.le_of_ble_eq_true rfl) (fun _ => w_X1_listLive (N := N) h0 g)
def M_X1_pitAt : am_M := (yX1_pitAt.cls, cX1_pitAt, 3, (some .int), am_room 0 0 0 0, false)
def X1_pitAt (N : Nat) (K : am_K) (F : am_F) (I : am_I) (a0 : Nat) (x1 : Int) (x2 : Int) : Option Int :=
  if am_inI (x1 * (I a0 1)) then if am_inI ((x1 * (I a0 1)) + x2) then some ((x1 * (I a0 1)) + x2) else none else none
theorem w_X1_pitAt {η : am_E} {l : Launch} {N : Nat} {n : Nat} {K : am_K} {I : am_I} {F : am_F} {a0 : Nat} {r0 : Int} {x1 : Int} {x2 : Int} (h0 : (K a0).1 = 1) : X1_pitAt N K F I a0 x1 x2 = some r0 → Ok η l M_X1_pitAt (am_qm η (am_pS 1 (r0, I) n K F) 0 0) 0 [(0, qr a0), (1, qi x1), (2, qi x2)] [] n K I F 0 0 := by
  unfold X1_pitAt
  refine ok_iload_n (q := 1) 1 dX1_pitAt_0 rfl rfl rfl ?_
  refine ok_aload_n (q := 2) 0 dX1_pitAt_1 rfl rfl rfl ?_
  refine ok_getI (q := 5) (ci := 1) (k := 1) (x := I a0 1) dX1_pitAt_2 rfl fo_X1_50 h0 rfl ?_
  refine fi_chk (fun h_1 => ?_)
  refine ok_imul (q := 6) dX1_pitAt_5 rfl h_1 ?_
  refine ok_iload_n (q := 7) 2 dX1_pitAt_6 rfl rfl rfl ?_
  refine fi_chk (fun h_2 => ?_)
  refine ok_iadd (q := 8) dX1_pitAt_7 rfl h_2 ?_
  exact fi_ireturnP dX1_pitAt_8 rfl
theorem ct_X1_pitAt {η : am_E} {l : Launch} {N : Nat} {n : Nat} {K : am_K} {I : am_I} {F : am_F} {a0 : Nat} {r0 : Int} {x1 : Int} {x2 : Int} (h0 : (K a0).1 = 1) : X1_pitAt N K F I a0 x1 x2 = some r0 → am_Ct η l yX1_pitAt cX1_pitAt 3 (some .int) 0 0 0 0 [qr a0, qi x1, qi x2] n K I F (am_pS 1 (r0, I) n K F) := fun g => am_Ct.of false (by decide) (by decide) (Nat.le_of_ble_eq_true rfl) (fun _ => w_X1_pitAt (N := N) h0 g)
def M_X1_listWay : am_M := (yX1_listWay.cls, cX1_listWay, 6, none, am_room 1 22 0 0, false)
def X1_listWay_b81 (N : Nat) (K : am_K) (F : am_F) (a0 : Nat) (k4 : am_I → Int → Int → Option (Int × am_I)) (k14 : am_I → Int → Int → Int → Option (Int × am_I)) (I : am_I) (x1 : Int) (x2 : Int) (x3 : Int) : Option (Int × am_I) :=
  if am_inI (x3 + 1) then am_lt (x3 + 1) (fun x3_2 => k14 I x1 x2 x3_2) else none
theorem w_X1_listWay_b81 {η : am_E} {l : Launch} {N : Nat} {n : Nat} {K : am_K} {I : am_I} {F : am_F} {a0 : Nat} {r0 : Int × am_I} {k4 : am_I → Int → Int → Option (Int × am_I)} {k14 : am_I → Int → Int → Int → Option (Int × am_I)} {x1 : Int} {x2 : Int} {x3 : Int} (h0 : (K a0).1 = 1) (H4 : ∀ (I : am_I) (x1 : Int) (x2 : Int), k4 I x1 x2 = some r0 → Ok η l M_X1_listWay (am_qm η (am_pS 0 r0 n K F) 0 0) 4 [(0, qr a0), (1, qi x1), (2, qi x2)] [] n K I F 0 0) (H14 : ∀ (I : am_I) (x1 : Int) (x2 : Int) (x3 : Int), k14 I x1 x2 x3 = some r0 → Ok η l M_X1_listWay (am_qm η (am_pS 0 r0 n K F) 0 0) 14 [(0, qr a0), (1, qi x1), (2, qi x2), (3, qi x3)] [] n K I F 0 0) : X1_listWay_b81 N K F a0 k4 k14 I x1 x2 x3 = some r0 → Ok η l M_X1_listWay (am_qm η (am_pS 0 r0 n K F) 0 0) 81 [(0, qr a0), (1, qi x1), (2, qi x2), (3, qi x3)] [] n K I F 0 0 := by
  unfold X1_listWay_b81
  refine fi_chk (fun h_1 => ?_)
  refine ok_iincL (q := 84) (fun x3_2 => [(3, qi x3_2), (0, qr a0), (1, qi x1), (2, qi x2)]) 3 dX1_listWay_81 rfl rfl h_1 (Nat.le_of_ble_eq_true rfl) (fun _ => rfl) (fun x3_2 => ?_)
  refine ok_goto (q := 14) dX1_listWay_84 rfl ?_
  exact fun g => ok_pick [1, 2, 3, 0] rfl (H14 _ _ _ _ g)
def X1_listWay_b40 (N : Nat) (K : am_K) (F : am_F) (a0 : Nat) (k4 : am_I → Int → Int → Option (Int × am_I)) (k14 : am_I → Int → Int → Int → Option (Int × am_I)) (I : am_I) (x1 : Int) (x2 : Int) (x3 : Int) (s0 : Int) : Option (Int × am_I) :=
  am_cq (X1_pitAt N K F I a0 x2 s0) (fun v_1 => if (K (F a0 10)).1 = 100 then if F a0 10 ≠ 1 then if (0 : Int) ≤ v_1 ∧ v_1 < (K (F a0 10)).2 then am_lt (am_u2 I (F a0 10) v_1 s0) (fun I_5 => if (K (F a0 4)).1 = 101 then if (0 : Int) ≤ v_1 ∧ v_1 < (K (F a0 4)).2 then if (I_5 (F a0 4) v_1) = 0 then (if (K (F a0 14)).1 = 100 then if F a0 14 ≠ 1 then if (0 : Int) ≤ x1 ∧ x1 < (K (F a0 14)).2 then am_lt (am_u2 I_5 (F a0 14) x1 v_1) (fun I_11 => if am_inI (x1 + 1) then am_lt (x1 + 1) (fun x1_13 => X1_listWay_b81 N K F a0 k4 k14 I_11 x1_13 x2 x3) else none) else none else none else none) else (X1_listWay_b81 N K F a0 k4 k14 I_5 x1 x2 x3) else none else none) else none else none else none)
theorem w_X1_listWay_b40 {η : am_E} {l : Launch} {N : Nat} {n : Nat} {K : am_K} {I : am_I} {F : am_F} {a0 : Nat} {r0 : Int × am_I} {k4 : am_I → Int → Int → Option (Int × am_I)} {k14 : am_I → Int → Int → Int → Option (Int × am_I)} {x1 : Int} {x2 : Int} {x3 : Int} {s0 : Int} (h0 : (K a0).1 = 1) (H4 : ∀ (I : am_I) (x1 : Int) (x2 : Int), k4 I x1 x2 = some r0 → Ok η l M_X1_listWay (am_qm η (am_pS 0 r0 n K F) 0 0) 4 [(0, qr a0), (1, qi x1), (2, qi x2)] [] n K I F 0 0) (H14 : ∀ (I : am_I) (x1 : Int) (x2 : Int) (x3 : Int), k14 I x1 x2 x3 = some r0 → Ok η l M_X1_listWay (am_qm η (am_pS 0 r0 n K F) 0 0) 14 [(0, qr a0), (1, qi x1), (2, qi x2), (3, qi x3)] [] n K I F 0 0) : X1_listWay_b40 N K F a0 k4 k14 I x1 x2 x3 s0 = some r0 → Ok η l M_X1_listWay (am_qm η (am_pS 0 r0 n K F) 0 0) 40 [(0, qr a0), (1, qi x1), (2, qi x2), (3, qi x3)] [qi s0] n K I F 0 0 := by
  unfold X1_listWay_b40
  refine ok_istore (q := 42) (ls' := [(4, qi s0), (0, qr a0), (1, qi x1), (2, qi x2), (3, qi x3)]) dX1_listWay_40 rfl (Nat.le_of_ble_eq_true rfl) rfl ?_
  refine ok_aload_n (q := 43) 1 dX1_listWay_42 rfl rfl rfl ?_
  refine ok_iload_n (q := 44) 3 dX1_listWay_43 rfl rfl rfl ?_
  refine ok_iload (q := 46) 0 dX1_listWay_44 rfl rfl ?_
  refine fi_callV1P (q := 49) (as := [qi x2, qi s0]) (st := []) dX1_listWay_46 rfl mo_X1_82 h0 rfl (Nat.le_of_ble_eq_true rfl) rfl rfl (Nat.le_of_ble_eq_true rfl) (Nat.le_of_ble_eq_true rfl) (Nat.le_of_ble_eq_true rfl) (Nat.zero_le _) (Nat.zero_le _) (fun _ hr => ct_X1_pitAt (N := N) h0 hr) (fun v_1 => ?_)
  refine ok_istore (q := 51) (ls' := [(5, qi v_1), (4, qi s0), (0, qr a0), (1, qi x1), (2, qi x2), (3, qi x3)]) dX1_listWay_49 rfl (Nat.le_of_ble_eq_true rfl) rfl ?_
  refine ok_aload_n (q := 52) 2 dX1_listWay_51 rfl rfl rfl ?_
  refine ok_getR (q := 55) (ci := 1) (k := 10) (x := F a0 10) dX1_listWay_52 rfl fo_X1_31 h0 rfl ?_
  refine ok_iload (q := 57) 0 dX1_listWay_55 rfl rfl ?_
  refine ok_iload (q := 59) 1 dX1_listWay_57 rfl rfl ?_
  refine fi_chk (fun h_2 => ?_)
  refine fi_chk (fun h_3 => ?_)
  refine fi_chk (fun h_4 => ?_)
  refine ok_iastore (q := 60) dX1_listWay_59 rfl h_2 h_3 h_4.1 h_4.2 (fun I_5 => ?_)
  refine ok_aload_n (q := 61) 2 dX1_listWay_60 rfl rfl rfl ?_
  refine ok_getR (q := 64) (ci := 1) (k := 4) (x := F a0 4) dX1_listWay_61 rfl fo_X1_9 h0 rfl ?_
  refine ok_iload (q := 66) 0 dX1_listWay_64 rfl rfl ?_
  refine fi_chk (fun h_6 => ?_)
  refine fi_chk (fun h_7 => ?_)
  refine ok_baload (q := 67) (v := I_5 (F a0 4) v_1) dX1_listWay_66 rfl h_6 h_7.1 h_7.2 rfl ?_
  refine ok_if_ne (q := 81) (q2 := 70) dX1_listWay_67 rfl rfl ?_ ?_
  · skip
    exact fun g => ok_pick [2, 3, 4, 5] rfl (w_X1_listWay_b81 (N := N) h0 H4 H14 g)
  · skip
    refine ok_aload_n (q := 71) 2 dX1_listWay_70 rfl rfl rfl ?_
    refine ok_getR (q := 74) (ci := 1) (k := 14) (x := F a0 14) dX1_listWay_71 rfl fo_X1_43 h0 rfl ?_
    refine ok_iload_n (q := 75) 3 dX1_listWay_74 rfl rfl rfl ?_
    refine ok_iload (q := 77) 0 dX1_listWay_75 rfl rfl ?_
    refine fi_chk (fun h_8 => ?_)
    refine fi_chk (fun h_9 => ?_)
    refine fi_chk (fun h_10 => ?_)
    refine ok_iastore (q := 78) dX1_listWay_77 rfl h_8 h_9 h_10.1 h_10.2 (fun I_11 => ?_)
    refine fi_chk (fun h_12 => ?_)
    refine ok_iincL (q := 81) (fun x1_13 => [(1, qi x1_13), (5, qi v_1), (4, qi s0), (0, qr a0), (2, qi x2), (3, qi x3)]) 3 dX1_listWay_78 rfl rfl h_12 (Nat.le_of_ble_eq_true rfl) (fun _ => rfl) (fun x1_13 => ?_)
    exact fun g => ok_pick [3, 0, 4, 5] rfl (w_X1_listWay_b81 (N := N) h0 H4 H14 g)
def X1_listWay_s14 (N : Nat) (K : am_K) (F : am_F) (a0 : Nat) (k4 : am_I → Int → Int → Option (Int × am_I)) (k14 : am_I → Int → Int → Int → Option (Int × am_I)) (I : am_I) (x1 : Int) (x2 : Int) (x3 : Int) : Option (Int × am_I) :=
  if x3 < (I a0 1) then (if (am_iand x2 1) = 0 then (X1_listWay_b40 N K F a0 k4 k14 I x1 x2 x3 x3) else (if am_inI ((I a0 1) - 1) then if am_inI (((I a0 1) - 1) - x3) then X1_listWay_b40 N K F a0 k4 k14 I x1 x2 x3 (((I a0 1) - 1) - x3) else none else none)) else (if am_inI (x2 + 1) then am_lt (x2 + 1) (fun x2_2 => k4 I x1 x2_2) else none)
theorem w_X1_listWay_s14 {η : am_E} {l : Launch} {N : Nat} {n : Nat} {K : am_K} {I : am_I} {F : am_F} {a0 : Nat} {r0 : Int × am_I} {k4 : am_I → Int → Int → Option (Int × am_I)} {k14 : am_I → Int → Int → Int → Option (Int × am_I)} {x1 : Int} {x2 : Int} {x3 : Int} (h0 : (K a0).1 = 1) (H4 : ∀ (I : am_I) (x1 : Int) (x2 : Int), k4 I x1 x2 = some r0 → Ok η l M_X1_listWay (am_qm η (am_pS 0 r0 n K F) 0 0) 4 [(0, qr a0), (1, qi x1), (2, qi x2)] [] n K I F 0 0) (H14 : ∀ (I : am_I) (x1 : Int) (x2 : Int) (x3 : Int), k14 I x1 x2 x3 = some r0 → Ok η l M_X1_listWay (am_qm η (am_pS 0 r0 n K F) 0 0) 14 [(0, qr a0), (1, qi x1), (2, qi x2), (3, qi x3)] [] n K I F 0 0) : X1_listWay_s14 N K F a0 k4 k14 I x1 x2 x3 = some r0 → Ok η l M_X1_listWay (am_qm η (am_pS 0 r0 n K F) 0 0) 14 [(0, qr a0), (1, qi x1), (2, qi x2), (3, qi x3)] [] n K I F 0 0 := by
  unfold X1_listWay_s14
  refine ok_iload_n (q := 15) 3 dX1_listWay_14 rfl rfl rfl ?_
  refine ok_aload_n (q := 16) 0 dX1_listWay_15 rfl rfl rfl ?_
  refine ok_getI (q := 19) (ci := 1) (k := 1) (x := I a0 1) dX1_listWay_16 rfl fo_X1_50 h0 rfl ?_
  refine ok_icmp_ge (q := 87) (q2 := 22) dX1_listWay_19 rfl rfl ?_ ?_
  · skip
    refine fi_chk (fun h_1 => ?_)
    refine ok_iincL (q := 90) (fun x2_2 => [(2, qi x2_2), (0, qr a0), (1, qi x1), (3, qi x3)]) 2 dX1_listWay_87 rfl rfl h_1 (Nat.le_of_ble_eq_true rfl) (fun _ => rfl) (fun x2_2 => ?_)
    refine ok_goto (q := 4) dX1_listWay_90 rfl ?_
    exact fun g => ok_pick [1, 2, 0] rfl (H4 _ _ _ g)
  · skip
    refine ok_iload_n (q := 23) 2 dX1_listWay_22 rfl rfl rfl ?_
    refine ok_iconst (q := 24) (x := 1) dX1_listWay_23 rfl rfl (by decide) ?_
    refine ok_iand (q := 25) (r := am_iand x2 1) dX1_listWay_24 rfl rfl ?_
    refine ok_if_ne (q := 32) (q2 := 28) dX1_listWay_25 rfl rfl ?_ ?_
    · skip
      refine ok_aload_n (q := 33) 0 dX1_listWay_32 rfl rfl rfl ?_
      refine ok_getI (q := 36) (ci := 1) (k := 1) (x := I a0 1) dX1_listWay_33 rfl fo_X1_50 h0 rfl ?_
      refine ok_iconst (q := 37) (x := 1) dX1_listWay_36 rfl rfl (by decide) ?_
      refine fi_chk (fun h_3 => ?_)
      refine ok_isub (q := 38) dX1_listWay_37 rfl h_3 ?_
      refine ok_iload_n (q := 39) 3 dX1_listWay_38 rfl rfl rfl ?_
      refine fi_chk (fun h_4 => ?_)
      refine ok_isub (q := 40) dX1_listWay_39 rfl h_4 ?_
      exact fun g => ok_pick [0, 1, 2, 3] rfl (w_X1_listWay_b40 (N := N) h0 H4 H14 g)
    · skip
      refine ok_iload_n (q := 29) 3 dX1_listWay_28 rfl rfl rfl ?_
      refine ok_goto (q := 40) dX1_listWay_29 rfl ?_
      exact fun g => ok_pick [0, 1, 2, 3] rfl (w_X1_listWay_b40 (N := N) h0 H4 H14 g)
def X1_listWay_h14 (N : Nat) (K : am_K) (F : am_F) (a0 : Nat) (k4 : am_I → Int → Int → Option (Int × am_I)) : Nat → am_I → Int → Int → Int → Option (Int × am_I) := am_it (fun kh => X1_listWay_s14 N K F a0 k4 kh) (fun _ _ _ _ => none)
theorem w_X1_listWay_h14 {η : am_E} {l : Launch} {N : Nat} {n : Nat} {K : am_K} {F : am_F} {a0 : Nat} {r0 : Int × am_I} {k4 : am_I → Int → Int → Option (Int × am_I)} (h0 : (K a0).1 = 1) (H4 : ∀ (I : am_I) (x1 : Int) (x2 : Int), k4 I x1 x2 = some r0 → Ok η l M_X1_listWay (am_qm η (am_pS 0 r0 n K F) 0 0) 4 [(0, qr a0), (1, qi x1), (2, qi x2)] [] n K I F 0 0) (f : Nat) : ∀ (I : am_I) (x1 : Int) (x2 : Int) (x3 : Int), X1_listWay_h14 N K F a0 k4 f I x1 x2 x3 = some r0 → Ok η l M_X1_listWay (am_qm η (am_pS 0 r0 n K F) 0 0) 14 [(0, qr a0), (1, qi x1), (2, qi x2), (3, qi x3)] [] n K I F 0 0 := by
  induction f with
  | zero => intro I x1 x2 x3 g; exact fi_none g
  | succ f ih => intro I x1 x2 x3 g; exact w_X1_listWay_s14 (N := N) h0 H4 ih g
def X1_listWay_s4 (N : Nat) (K : am_K) (F : am_F) (a0 : Nat) (k4 : am_I → Int → Int → Option (Int × am_I)) (I : am_I) (x1 : Int) (x2 : Int) : Option (Int × am_I) :=
  if x2 < (I a0 0) then (X1_listWay_h14 N K F a0 k4 N I x1 x2 0) else (some (0, I))
theorem w_X1_listWay_s4 {η : am_E} {l : Launch} {N : Nat} {n : Nat} {K : am_K} {I : am_I} {F : am_F} {a0 : Nat} {r0 : Int × am_I} {k4 : am_I → Int → Int → Option (Int × am_I)} {x1 : Int} {x2 : Int} (h0 : (K a0).1 = 1) (H4 : ∀ (I : am_I) (x1 : Int) (x2 : Int), k4 I x1 x2 = some r0 → Ok η l M_X1_listWay (am_qm η (am_pS 0 r0 n K F) 0 0) 4 [(0, qr a0), (1, qi x1), (2, qi x2)] [] n K I F 0 0) : X1_listWay_s4 N K F a0 k4 I x1 x2 = some r0 → Ok η l M_X1_listWay (am_qm η (am_pS 0 r0 n K F) 0 0) 4 [(0, qr a0), (1, qi x1), (2, qi x2)] [] n K I F 0 0 := by
  unfold X1_listWay_s4
  refine ok_iload_n (q := 5) 2 dX1_listWay_4 rfl rfl rfl ?_
  refine ok_aload_n (q := 6) 0 dX1_listWay_5 rfl rfl rfl ?_
  refine ok_getI (q := 9) (ci := 1) (k := 0) (x := I a0 0) dX1_listWay_6 rfl fo_X1_46 h0 rfl ?_
  refine ok_icmp_ge (q := 93) (q2 := 12) dX1_listWay_9 rfl rfl ?_ ?_
  · skip
    exact fi_returnS dX1_listWay_93 rfl
  · skip
    refine ok_iconst (q := 13) (x := 0) dX1_listWay_12 rfl rfl (by decide) ?_
    refine ok_istore_n (q := 14) (ls' := [(3, qi 0), (0, qr a0), (1, qi x1), (2, qi x2)]) dX1_listWay_13 rfl rfl (Nat.le_of_ble_eq_true rfl) rfl ?_
    exact fun g => ok_pick [1, 2, 3, 0] rfl (w_X1_listWay_h14 (N := N) h0 H4 N _ _ _ _ g)
def X1_listWay_h4 (N : Nat) (K : am_K) (F : am_F) (a0 : Nat) : Nat → am_I → Int → Int → Option (Int × am_I) := am_it (fun kh => X1_listWay_s4 N K F a0 kh) (fun _ _ _ => none)
theorem w_X1_listWay_h4 {η : am_E} {l : Launch} {N : Nat} {n : Nat} {K : am_K} {F : am_F} {a0 : Nat} {r0 : Int × am_I} (h0 : (K a0).1 = 1) (f : Nat) : ∀ (I : am_I) (x1 : Int) (x2 : Int), X1_listWay_h4 N K F a0 f I x1 x2 = some r0 → Ok η l M_X1_listWay (am_qm η (am_pS 0 r0 n K F) 0 0) 4 [(0, qr a0), (1, qi x1), (2, qi x2)] [] n K I F 0 0 := by
  induction f with
  | zero => intro I x1 x2 g; exact fi_none g
  | succ f ih => intro I x1 x2 g; exact w_X1_listWay_s4 (N := N) h0 ih g
def X1_listWay (N : Nat) (K : am_K) (F : am_F) (a0 : Nat) (I : am_I) : Option (Int × am_I) :=
  X1_listWay_h4 N K F a0 N I 0 0
theorem w_X1_listWay {η : am_E} {l : Launch} {N : Nat} {n : Nat} {K : am_K} {I : am_I} {F : am_F} {a0 : Nat} {r0 : Int × am_I} (h0 : (K a0).1 = 1) : X1_listWay N K F a0 I = some r0 → Ok η l M_X1_listWay (am_qm η (am_pS 0 r0 n K F) 0 0) 0 [(0, qr a0)] [] n K I F 0 0 := by
  unfold X1_listWay
  refine ok_iconst (q := 1) (x := 0) dX1_listWay_0 rfl rfl (by decide) ?_
  refine ok_istore_n (q := 2) (ls' := [(1, qi 0), (0, qr a0)]) dX1_listWay_1 rfl rfl (Nat.le_of_ble_eq_true rfl) rfl ?_
  refine ok_iconst (q := 3) (x := 0) dX1_listWay_2 rfl rfl (by decide) ?_
  refine ok_istore_n (q := 4) (ls' := [(2, qi 0), (1, qi 0), (0, qr a0)]) dX1_listWay_3 rfl rfl (Nat.le_of_ble_eq_true rfl) rfl ?_
  exact fun g => ok_pick [2, 1, 0] rfl (w_X1_listWay_h4 (N := N) h0 N _ _ _ g)
theorem ct_X1_listWay {η : am_E} {l : Launch} {N : Nat} {n : Nat} {K : am_K} {I : am_I} {F : am_F} {a0 : Nat} {r0 : Int × am_I} (h0 : (K a0).1 = 1) : X1_listWay N K F a0 I = some r0 → am_Ct η l yX1_listWay cX1_listWay 6 none 1 22 0 0 [qr a0] n K I F (am_pS 0 r0 n K F) := fun g => am_Ct.of false (by decide) (by decide) (Nat.le_of_ble_eq_true rfl) (fun _ => w_X1_listWay (N := N) h0 g)
