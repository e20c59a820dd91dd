def M_X12_isOwn : am_M := (yX12_isOwn.cls, cX12_isOwn, 4, (some .boolean), am_room 1 21 0 0, false)
def X12_isOwn_b33 (N : Nat) (K : am_K) (F : am_F) (I : am_I) (a0 : Nat) (s0 : Int) : Option Int :=
  if s0 = 0 ∨ s0 = 1 then some (s0) else none
theorem w_X12_isOwn_b33 {η : am_E} {l : Launch} {N : Nat} {n : Nat} {K : am_K} {I : am_I} {F : am_F} {a0 : Nat} {r0 : Int} {s0 : Int} (h0 : (K a0).1 = 12) : X12_isOwn_b33 N K F I a0 s0 = some r0 → Ok η l M_X12_isOwn (am_qm η (am_pS 1 (r0, I) n K F) 0 0) 33 [(0, qr a0)] [qi s0] n K I F 0 0 := by
  unfold X12_isOwn_b33
  refine fi_chk (fun h_1 => ?_)
  exact fi_zreturnP dX12_isOwn_33 rfl h_1
def X12_isOwn_b32 (N : Nat) (K : am_K) (F : am_F) (I : am_I) (a0 : Nat) : Option Int :=
  X12_isOwn_b33 N K F I a0 0
theorem w_X12_isOwn_b32 {η : am_E} {l : Launch} {N : Nat} {n : Nat} {K : am_K} {I : am_I} {F : am_F} {a0 : Nat} {r0 : Int} (h0 : (K a0).1 = 12) : X12_isOwn_b32 N K F I a0 = some r0 → Ok η l M_X12_isOwn (am_qm η (am_pS 1 (r0, I) n K F) 0 0) 32 [(0, qr a0)] [] n K I F 0 0 := by
  unfold X12_isOwn_b32
  refine ok_iconst (q := 33) (x := 0) dX12_isOwn_32 rfl rfl (by decide) ?_
  exact fun g => ok_pick [0] rfl (w_X12_isOwn_b33 (N := N) h0 g)
def X12_isOwn (N : Nat) (K : am_K) (F : am_F) (I : am_I) (a0 : Nat) (a1 : Nat) (x2 : Int) (x3 : Int) : Option Int :=
  am_cq (X12_sideOf N K F I a0 x3) (fun v_1 => if v_1 = x2 then (if (K (F a0 2)).1 = 101 then if (0 : Int) ≤ x3 ∧ x3 < (K (F a0 2)).2 then if (I (F a0 2) x3) = 0 then (if (K a1).1 = 100 then if (0 : Int) ≤ x3 ∧ x3 < (K a1).2 then if (I a0 10) ≤ (I a1 x3) then (X12_isOwn_b33 N K F I a0 1) else (X12_isOwn_b32 N K F I a0 ) else none else none) else (X12_isOwn_b32 N K F I a0 ) else none else none) else (X12_isOwn_b32 N K F I a0 ))
theorem w_X12_isOwn {η : am_E} {l : Launch} {N : Nat} {n : Nat} {K : am_K} {I : am_I} {F : am_F} {a0 : Nat} {r0 : Int} {a1 : Nat} {x2 : Int} {x3 : Int} (h0 : (K a0).1 = 12) : X12_isOwn N K F I a0 a1 x2 x3 = some r0 → Ok η l M_X12_isOwn (am_qm η (am_pS 1 (r0, I) n K F) 0 0) 0 [(0, qr a0), (1, qr a1), (2, qi x2), (3, qi x3)] [] n K I F 0 0 := by
  unfold X12_isOwn
  refine ok_aload_n (q := 1) 0 dX12_isOwn_0 rfl rfl rfl ?_
  refine ok_iload_n (q := 2) 3 dX12_isOwn_1 rfl rfl rfl ?_
  refine fi_callV1P (q := 5) (as := [qi x3]) (st := []) dX12_isOwn_2 rfl mo_X12_137 h0 rfl (Nat.le_of_ble_eq_true rfl) rfl rfl (Nat.le_of_ble_eq_true rfl) (Nat.le_of_ble_eq_true rfl) (Nat.le_of_ble_eq_true rfl) (Nat.zero_le _) (Nat.zero_le _) (fun _ hr => ct_X12_sideOf (N := N) h0 hr) (fun v_1 => ?_)
  refine ok_iload_n (q := 6) 2 dX12_isOwn_5 rfl rfl rfl ?_
  refine ok_icmp_ne (q := 32) (q2 := 9) dX12_isOwn_6 rfl rfl ?_ ?_
  · skip
    exact fun g => ok_pick [0] rfl (w_X12_isOwn_b32 (N := N) h0 g)
  · skip
    refine ok_aload_n (q := 10) 0 dX12_isOwn_9 rfl rfl rfl ?_
    refine ok_getR (q := 13) (ci := 12) (k := 2) (x := F a0 2) dX12_isOwn_10 rfl fo_X12_9 h0 rfl ?_
    refine ok_iload_n (q := 14) 3 dX12_isOwn_13 rfl rfl rfl ?_
    refine fi_chk (fun h_2 => ?_)
    refine fi_chk (fun h_3 => ?_)
    refine ok_baload (q := 15) (v := I (F a0 2) x3) dX12_isOwn_14 rfl h_2 h_3.1 h_3.2 rfl ?_
    refine ok_if_ne (q := 32) (q2 := 18) dX12_isOwn_15 rfl rfl ?_ ?_
    · skip
      exact fun g => ok_pick [0] rfl (w_X12_isOwn_b32 (N := N) h0 g)
    · skip
      refine ok_aload_n (q := 19) 1 dX12_isOwn_18 rfl rfl rfl ?_
      refine ok_iload_n (q := 20) 3 dX12_isOwn_19 rfl rfl rfl ?_
      refine fi_chk (fun h_4 => ?_)
      refine fi_chk (fun h_5 => ?_)
      refine ok_iaload (q := 21) (v := I a1 x3) dX12_isOwn_20 rfl h_4 h_5.1 h_5.2 rfl ?_
      refine ok_aload_n (q := 22) 0 dX12_isOwn_21 rfl rfl rfl ?_
      refine ok_getI (q := 25) (ci := 12) (k := 10) (x := I a0 10) dX12_isOwn_22 rfl fo_X12_111 h0 rfl ?_
      refine ok_icmp_lt (q := 32) (q2 := 28) dX12_isOwn_25 rfl rfl ?_ ?_
      · skip
        exact fun g => ok_pick [0] rfl (w_X12_isOwn_b32 (N := N) h0 g)
      · skip
        refine ok_iconst (q := 29) (x := 1) dX12_isOwn_28 rfl rfl (by decide) ?_
        refine ok_goto (q := 33) dX12_isOwn_29 rfl ?_
        exact fun g => ok_pick [0] rfl (w_X12_isOwn_b33 (N := N) h0 g)
theorem ct_X12_isOwn {η : am_E} {l : Launch} {N : Nat} {n : Nat} {K : am_K} {I : am_I} {F : am_F} {a0 : Nat} {r0 : Int} {a1 : Nat} {x2 : Int} {x3 : Int} (h0 : (K a0).1 = 12) : X12_isOwn N K F I a0 a1 x2 x3 = some r0 → am_Ct η l yX12_isOwn cX12_isOwn 4 (some .boolean) 1 21 0 0 [qr a0, qr a1, qi x2, qi x3] n K I F (am_pS 1 (r0, I) n K F) := fun g => am_Ct.of false (by decide) (by decide) (Nat.le_of_ble_eq_true rfl) (fun _ => w_X12_isOwn (N := N) h0 g)
def M_X12_isFed : am_M := (yX12_isFed.cls, cX12_isFed, 4, (some .boolean), am_room 1 21 0 0, false)
def X12_isFed_b39 (N : Nat) (K : am_K) (F : am_F) (I : am_I) (a0 : Nat) (k4 : Int → Int → Int → Option Int) (x1 : Int) (x3 : Int) (s0 : Int) : Option Int :=
  if am_inI (x3 + 1) then am_lt (x3 + 1) (fun x3_2 => k4 x1 s0 x3_2) else none
theorem w_X12_isFed_b39 {η : am_E} {l : Launch} {N : Nat} {n : Nat} {K : am_K} {I : am_I} {F : am_F} {a0 : Nat} {r0 : Int} {k4 : Int → Int → Int → Option Int} {x1 : Int} {x3 : Int} {s0 : Int} (h0 : (K a0).1 = 12) (H4 : ∀ (x1 : Int) (x2 : Int) (x3 : Int), k4 x1 x2 x3 = some r0 → Ok η l M_X12_isFed (am_qm η (am_pS 1 (r0, I) n K F) 0 0) 4 [(0, qr a0), (1, qi x1), (2, qi x2), (3, qi x3)] [] n K I F 0 0) : X12_isFed_b39 N K F I a0 k4 x1 x3 s0 = some r0 → Ok η l M_X12_isFed (am_qm η (am_pS 1 (r0, I) n K F) 0 0) 39 [(0, qr a0), (1, qi x1), (3, qi x3)] [qi s0] n K I F 0 0 := by
  unfold X12_isFed_b39
  refine ok_istore_n (q := 40) (ls' := [(2, qi s0), (0, qr a0), (1, qi x1), (3, qi x3)]) dX12_isFed_39 rfl rfl (Nat.le_of_ble_eq_true rfl) rfl ?_
  refine fi_chk (fun h_1 => ?_)
  refine ok_iincL (q := 43) (fun x3_2 => [(3, qi x3_2), (2, qi s0), (0, qr a0), (1, qi x1)]) 3 dX12_isFed_40 rfl rfl h_1 (Nat.le_of_ble_eq_true rfl) (fun _ => rfl) (fun x3_2 => ?_)
  refine ok_goto (q := 4) dX12_isFed_43 rfl ?_
  exact fun g => ok_pick [2, 3, 1, 0] rfl (H4 _ _ _ g)
def X12_isFed_b34 (N : Nat) (K : am_K) (F : am_F) (I : am_I) (a0 : Nat) (k4 : Int → Int → Int → Option Int) (x1 : Int) (x3 : Int) : Option Int :=
  X12_isFed_b39 N K F I a0 k4 x1 x3 1
theorem w_X12_isFed_b34 {η : am_E} {l : Launch} {N : Nat} {n : Nat} {K : am_K} {I : am_I} {F : am_F} {a0 : Nat} {r0 : Int} {k4 : Int → Int → Int → Option Int} {x1 : Int} {x3 : Int} (h0 : (K a0).1 = 12) (H4 : ∀ (x1 : Int) (x2 : Int) (x3 : Int), k4 x1 x2 x3 = some r0 → Ok η l M_X12_isFed (am_qm η (am_pS 1 (r0, I) n K F) 0 0) 4 [(0, qr a0), (1, qi x1), (2, qi x2), (3, qi x3)] [] n K I F 0 0) : X12_isFed_b34 N K F I a0 k4 x1 x3 = some r0 → Ok η l M_X12_isFed (am_qm η (am_pS 1 (r0, I) n K F) 0 0) 34 [(0, qr a0), (1, qi x1), (3, qi x3)] [] n K I F 0 0 := by
  unfold X12_isFed_b34
  refine ok_iconst (q := 35) (x := 1) dX12_isFed_34 rfl rfl (by decide) ?_
  refine ok_goto (q := 39) dX12_isFed_35 rfl ?_
  exact fun g => ok_pick [0, 1, 2] rfl (w_X12_isFed_b39 (N := N) h0 H4 g)
def X12_isFed_b38 (N : Nat) (K : am_K) (F : am_F) (I : am_I) (a0 : Nat) (k4 : Int → Int → Int → Option Int) (x1 : Int) (x3 : Int) : Option Int :=
  X12_isFed_b39 N K F I a0 k4 x1 x3 0
theorem w_X12_isFed_b38 {η : am_E} {l : Launch} {N : Nat} {n : Nat} {K : am_K} {I : am_I} {F : am_F} {a0 : Nat} {r0 : Int} {k4 : Int → Int → Int → Option Int} {x1 : Int} {x3 : Int} (h0 : (K a0).1 = 12) (H4 : ∀ (x1 : Int) (x2 : Int) (x3 : Int), k4 x1 x2 x3 = some r0 → Ok η l M_X12_isFed (am_qm η (am_pS 1 (r0, I) n K F) 0 0) 4 [(0, qr a0), (1, qi x1), (2, qi x2), (3, qi x3)] [] n K I F 0 0) : X12_isFed_b38 N K F I a0 k4 x1 x3 = some r0 → Ok η l M_X12_isFed (am_qm η (am_pS 1 (r0, I) n K F) 0 0) 38 [(0, qr a0), (1, qi x1), (3, qi x3)] [] n K I F 0 0 := by
  unfold X12_isFed_b38
  refine ok_iconst (q := 39) (x := 0) dX12_isFed_38 rfl rfl (by decide) ?_
  exact fun g => ok_pick [0, 1, 2] rfl (w_X12_isFed_b39 (N := N) h0 H4 g)
def X12_isFed_s4 (N : Nat) (K : am_K) (F : am_F) (I : am_I) (a0 : Nat) (k4 : Int → Int → Int → Option Int) (x1 : Int) (x2 : Int) (x3 : Int) : Option Int :=
  am_cq (X12_all N K F I a0) (fun v_1 => if x3 < v_1 then (if x2 = 0 then (am_cq (X12_sideOf N K F I a0 x3) (fun v_3 => if v_3 = x1 then (X12_isFed_b38 N K F I a0 k4 x1 x3) else (if (K (F a0 16)).1 = 100 then if (0 : Int) ≤ x3 ∧ x3 < (K (F a0 16)).2 then if 0 < (I (F a0 16) x3) then (X12_isFed_b34 N K F I a0 k4 x1 x3) else (X12_isFed_b38 N K F I a0 k4 x1 x3) else none else none))) else (X12_isFed_b34 N K F I a0 k4 x1 x3)) else (if x2 = 0 ∨ x2 = 1 then some (x2) else none))
theorem w_X12_isFed_s4 {η : am_E} {l : Launch} {N : Nat} {n : Nat} {K : am_K} {I : am_I} {F : am_F} {a0 : Nat} {r0 : Int} {k4 : Int → Int → Int → Option Int} {x1 : Int} {x2 : Int} {x3 : Int} (h0 : (K a0).1 = 12) (H4 : ∀ (x1 : Int) (x2 : Int) (x3 : Int), k4 x1 x2 x3 = some r0 → Ok η l M_X12_isFed (am_qm η (am_pS 1 (r0, I) n K F) 0 0) 4 [(0, qr a0), (1, qi x1), (2, qi x2), (3, qi x3)] [] n K I F 0 0) : X12_isFed_s4 N K F I a0 k4 x1 x2 x3 = some r0 → Ok η l M_X12_isFed (am_qm η (am_pS 1 (r0, I) n K F) 0 0) 4 [(0, qr a0), (1, qi x1), (2, qi x2), (3, qi x3)] [] n K I F 0 0 := by
  unfold X12_isFed_s4
  refine ok_iload_n (q := 5) 3 dX12_isFed_4 rfl rfl rfl ?_
  refine ok_aload_n (q := 6) 0 dX12_isFed_5 rfl rfl rfl ?_
  refine fi_callV1P (q := 9) (as := []) (st := [qi x3]) dX12_isFed_6 rfl mo_X12_133 h0 rfl (Nat.le_of_ble_eq_true rfl) rfl rfl (Nat.le_of_ble_eq_true rfl) (Nat.le_of_ble_eq_true rfl) (Nat.le_of_ble_eq_true rfl) (Nat.zero_le _) (Nat.zero_le _) (fun _ hr => ct_X12_all (N := N) h0 hr) (fun v_1 => ?_)
  refine ok_icmp_ge (q := 46) (q2 := 12) dX12_isFed_9 rfl rfl ?_ ?_
  · skip
    refine ok_iload_n (q := 47) 2 dX12_isFed_46 rfl rfl rfl ?_
    refine fi_chk (fun h_2 => ?_)
    exact fi_zreturnP dX12_isFed_47 rfl h_2
  · skip
    refine ok_iload_n (q := 13) 2 dX12_isFed_12 rfl rfl rfl ?_
    refine ok_if_ne (q := 34) (q2 := 16) dX12_isFed_13 rfl rfl ?_ ?_
    · skip
      exact fun g => ok_pick [0, 1, 3] rfl (w_X12_isFed_b34 (N := N) h0 H4 g)
    · skip
      refine ok_aload_n (q := 17) 0 dX12_isFed_16 rfl rfl rfl ?_
      refine ok_iload_n (q := 18) 3 dX12_isFed_17 rfl rfl rfl ?_
      refine fi_callV1P (q := 21) (as := [qi x3]) (st := []) dX12_isFed_18 rfl mo_X12_137 h0 rfl (Nat.le_of_ble_eq_true rfl) rfl rfl (Nat.le_of_ble_eq_true rfl) (Nat.le_of_ble_eq_true rfl) (Nat.le_of_ble_eq_true rfl) (Nat.zero_le _) (Nat.zero_le _) (fun _ hr => ct_X12_sideOf (N := N) h0 hr) (fun v_3 => ?_)
      refine ok_iload_n (q := 22) 1 dX12_isFed_21 rfl rfl rfl ?_
      refine ok_icmp_eq (q := 38) (q2 := 25) dX12_isFed_22 rfl rfl ?_ ?_
      · skip
        exact fun g => ok_pick [0, 1, 3] rfl (w_X12_isFed_b38 (N := N) h0 H4 g)
      · skip
        refine ok_aload_n (q := 26) 0 dX12_isFed_25 rfl rfl rfl ?_
        refine ok_getR (q := 29) (ci := 12) (k := 16) (x := F a0 16) dX12_isFed_26 rfl fo_X12_26 h0 rfl ?_
        refine ok_iload_n (q := 30) 3 dX12_isFed_29 rfl rfl rfl ?_
        refine fi_chk (fun h_4 => ?_)
        refine fi_chk (fun h_5 => ?_)
        refine ok_iaload (q := 31) (v := I (F a0 16) x3) dX12_isFed_30 rfl h_4 h_5.1 h_5.2 rfl ?_
        refine ok_if_le (q := 38) (q2 := 34) dX12_isFed_31 rfl rfl ?_ ?_
        · skip
          exact fun g => ok_pick [0, 1, 3] rfl (w_X12_isFed_b38 (N := N) h0 H4 g)
        · skip
          exact fun g => ok_pick [0, 1, 3] rfl (w_X12_isFed_b34 (N := N) h0 H4 g)
def X12_isFed_h4 (N : Nat) (K : am_K) (F : am_F) (I : am_I) (a0 : Nat) : Nat → Int → Int → Int → Option Int := am_it (fun kh => X12_isFed_s4 N K F I a0 kh) (fun _ _ _ => none)
theorem w_X12_isFed_h4 {η : am_E} {l : Launch} {N : Nat} {n : Nat} {K : am_K} {I : am_I} {F : am_F} {a0 : Nat} {r0 : Int} (h0 : (K a0).1 = 12) (f : Nat) : ∀ (x1 : Int) (x2 : Int) (x3 : Int), X12_isFed_h4 N K F I a0 f x1 x2 x3 = some r0 → Ok η l M_X12_isFed (am_qm η (am_pS 1 (r0, I) n K F) 0 0) 4 [(0, qr a0), (1, qi x1), (2, qi x2), (3, qi x3)] [] n K I F 0 0 := by
  induction f with
  | zero => intro x1 x2 x3 g; exact fi_none g
  | succ f ih => intro x1 x2 x3 g; exact w_X12_isFed_s4 (N := N) h0 ih g
def X12_isFed (N : Nat) (K : am_K) (F : am_F) (I : am_I) (a0 : Nat) (x1 : Int) : Option Int :=
  X12_isFed_h4 N K F I a0 N x1 0 0
theorem w_X12_isFed {η : am_E} {l : Launch} {N : Nat} {n : Nat} {K : am_K} {I : am_I} {F : am_F} {a0 : Nat} {r0 : Int} {x1 : Int} (h0 : (K a0).1 = 12) : X12_isFed N K F I a0 x1 = some r0 → Ok η l M_X12_isFed (am_qm η (am_pS 1 (r0, I) n K F) 0 0) 0 [(0, qr a0), (1, qi x1)] [] n K I F 0 0 := by
  unfold X12_isFed
  refine ok_iconst (q := 1) (x := 0) dX12_isFed_0 rfl rfl (by decide) ?_
  refine ok_istore_n (q := 2) (ls' := [(2, qi 0), (0, qr a0), (1, qi x1)]) dX12_isFed_1 rfl rfl (Nat.le_of_ble_eq_true rfl) rfl ?_
  refine ok_iconst (q := 3) (x := 0) dX12_isFed_2 rfl rfl (by decide) ?_
  refine ok_istore_n (q := 4) (ls' := [(3, qi 0), (2, qi 0), (0, qr a0), (1, qi x1)]) dX12_isFed_3 rfl rfl (Nat.le_of_ble_eq_true rfl) rfl ?_
  exact fun g => ok_pick [2, 3, 1, 0] rfl (w_X12_isFed_h4 (N := N) h0 N _ _ _ g)
theorem ct_X12_isFed {η : am_E} {l : Launch} {N : Nat} {n : Nat} {K : am_K} {I : am_I} {F : am_F} {a0 : Nat} {r0 : Int} {x1 : Int} (h0 : (K a0).1 = 12) : X12_isFed N K F I a0 x1 = some r0 → am_Ct η l yX12_isFed cX12_isFed 4 (some .boolean) 1 21 0 0 [qr a0, qi x1] n K I F (am_pS 1 (r0, I) n K F) := fun g => am_Ct.of false (by decide) (by decide) (Nat.le_of_ble_eq_true rfl) (fun _ => w_X12_isFed (N := N) h0 g)
def M_X12_mayMove : am_M := (yX12_mayMove.cls, cX12_mayMove, 7, (some .int), am_room 4 94 0 0, false)
def X12_mayMove_b159 (N : Nat) (K : am_K) (F : am_F) (a0 : Nat) (k100 : am_I → Nat → Int → Nat → Int → Int → Int → Option (Int × am_I)) (I : am_I) (a1 : Nat) (x2 : Int) (a3 : Nat) (x5 : Int) (x6 : Int) (s0 : Int) (s1 : Int) : Option (Int × am_I) :=
  if am_inI (s1 + s0) then am_lt (s1 + s0) (fun x4_2 => if am_inI (x6 + 1) then am_lt (x6 + 1) (fun x6_4 => k100 I a1 x2 a3 x4_2 x5 x6_4) else none) else none
theorem w_X12_mayMove_b159 {η : am_E} {l : Launch} {N : Nat} {n : Nat} {K : am_K} {I : am_I} {F : am_F} {a0 : Nat} {r0 : Int × am_I} {k100 : am_I → Nat → Int → Nat → Int → Int → Int → Option (Int × am_I)} {a1 : Nat} {x2 : Int} {a3 : Nat} {x5 : Int} {x6 : Int} {s0 : Int} {s1 : Int} (h0 : (K a0).1 = 12) (H100 : ∀ (I : am_I) (a1 : Nat) (x2 : Int) (a3 : Nat) (x4 : Int) (x5 : Int) (x6 : Int), k100 I a1 x2 a3 x4 x5 x6 = some r0 → Ok η l M_X12_mayMove (am_qm η (am_pS 1 r0 n K F) 0 0) 100 [(0, qr a0), (1, qr a1), (2, qi x2), (3, qr a3), (4, qi x4), (5, qi x5), (6, qi x6)] [] n K I F 0 0) : X12_mayMove_b159 N K F a0 k100 I a1 x2 a3 x5 x6 s0 s1 = some r0 → Ok η l M_X12_mayMove (am_qm η (am_pS 1 r0 n K F) 0 0) 159 [(0, qr a0), (1, qr a1), (2, qi x2), (3, qr a3), (5, qi x5), (6, qi x6)] [qi s0, qi s1] n K I F 0 0 := by
  unfold X12_mayMove_b159
  refine fi_chk (fun h_1 => ?_)
  refine ok_iadd (q := 160) dX12_mayMove_159 rfl h_1 ?_
  refine ok_istoreL (q := 162) (fun x4_2 => [(4, qi x4_2), (0, qr a0), (1, qr a1), (2, qi x2), (3, qr a3), (5, qi x5), (6, qi x6)]) dX12_mayMove_160 rfl (Nat.le_of_ble_eq_true rfl) (fun _ => rfl) (fun x4_2 => ?_)
  refine fi_chk (fun h_3 => ?_)
  refine ok_iincL (q := 165) (fun x6_4 => [(6, qi x6_4), (4, qi x4_2), (0, qr a0), (1, qr a1), (2, qi x2), (3, qr a3), (5, qi x5)]) 6 dX12_mayMove_162 rfl rfl h_3 (Nat.le_of_ble_eq_true rfl) (fun _ => rfl) (fun x6_4 => ?_)
  refine ok_goto (q := 100) dX12_mayMove_165 rfl ?_
  exact fun g => ok_pick [2, 3, 4, 5, 1, 6, 0] rfl (H100 _ _ _ _ _ _ _ g)
def X12_mayMove_b145 (N : Nat) (K : am_K) (F : am_F) (a0 : Nat) (k100 : am_I → Nat → Int → Nat → Int → Int → Int → Option (Int × am_I)) (I : am_I) (a1 : Nat) (x2 : Int) (a3 : Nat) (x4 : Int) (x5 : Int) (x6 : Int) : Option (Int × am_I) :=
  if (K a3).1 = 101 then if (0 : Int) ≤ x6 ∧ x6 < (K a3).2 then if (I a3 x6) = 0 then (X12_mayMove_b159 N K F a0 k100 I a1 x2 a3 x5 x6 0 x4) else (X12_mayMove_b159 N K F a0 k100 I a1 x2 a3 x5 x6 1 x4) else none else none
theorem w_X12_mayMove_b145 {η : am_E} {l : Launch} {N : Nat} {n : Nat} {K : am_K} {I : am_I} {F : am_F} {a0 : Nat} {r0 : Int × am_I} {k100 : am_I → Nat → Int → Nat → Int → Int → Int → Option (Int × am_I)} {a1 : Nat} {x2 : Int} {a3 : Nat} {x4 : Int} {x5 : Int} {x6 : Int} (h0 : (K a0).1 = 12) (H100 : ∀ (I : am_I) (a1 : Nat) (x2 : Int) (a3 : Nat) (x4 : Int) (x5 : Int) (x6 : Int), k100 I a1 x2 a3 x4 x5 x6 = some r0 → Ok η l M_X12_mayMove (am_qm η (am_pS 1 r0 n K F) 0 0) 100 [(0, qr a0), (1, qr a1), (2, qi x2), (3, qr a3), (4, qi x4), (5, qi x5), (6, qi x6)] [] n K I F 0 0) : X12_mayMove_b145 N K F a0 k100 I a1 x2 a3 x4 x5 x6 = some r0 → Ok η l M_X12_mayMove (am_qm η (am_pS 1 r0 n K F) 0 0) 145 [(0, qr a0), (1, qr a1), (2, qi x2), (3, qr a3), (4, qi x4), (5, qi x5), (6, qi x6)] [] n K I F 0 0 := by
  unfold X12_mayMove_b145
  refine ok_iload (q := 147) 4 dX12_mayMove_145 rfl rfl ?_
  refine ok_aload_n (q := 148) 3 dX12_mayMove_147 rfl rfl rfl ?_
  refine ok_iload (q := 150) 6 dX12_mayMove_148 rfl rfl ?_
  refine fi_chk (fun h_1 => ?_)
  refine fi_chk (fun h_2 => ?_)
  refine ok_baload (q := 151) (v := I a3 x6) dX12_mayMove_150 rfl h_1 h_2.1 h_2.2 rfl ?_
  refine ok_if_eq (q := 158) (q2 := 154) dX12_mayMove_151 rfl rfl ?_ ?_
  · skip
    refine ok_iconst (q := 159) (x := 0) dX12_mayMove_158 rfl rfl (by decide) ?_
    exact fun g => ok_pick [0, 1, 2, 3, 5, 6] rfl (w_X12_mayMove_b159 (N := N) h0 H100 g)
  · skip
    refine ok_iconst (q := 155) (x := 1) dX12_mayMove_154 rfl rfl (by decide) ?_
    refine ok_goto (q := 159) dX12_mayMove_155 rfl ?_
    exact fun g => ok_pick [0, 1, 2, 3, 5, 6] rfl (w_X12_mayMove_b159 (N := N) h0 H100 g)
def X12_mayMove_s100 (N : Nat) (K : am_K) (F : am_F) (a0 : Nat) (k100 : am_I → Nat → Int → Nat → Int → Int → Int → Option (Int × am_I)) (I : am_I) (a1 : Nat) (x2 : Int) (a3 : Nat) (x4 : Int) (x5 : Int) (x6 : Int) : Option (Int × am_I) :=
  am_cq (X12_all N K F I a0) (fun v_1 => if x6 < v_1 then (if (K a3).1 = 101 then if (0 : Int) ≤ x6 ∧ x6 < (K a3).2 then if (I a3 x6) = 0 then (X12_mayMove_b145 N K F a0 k100 I a1 x2 a3 x4 x5 x6) else (if (I a0 11) = 0 then (X12_mayMove_b145 N K F a0 k100 I a1 x2 a3 x4 x5 x6) else (if x5 = 0 then (X12_mayMove_b145 N K F a0 k100 I a1 x2 a3 x4 x5 x6) else (am_cl (X12_make N K F a0 I a1 x2 x6) (fun _ I_4 => am_cq (X12_isFed N K F I_4 a0 x2) (fun v_5 => if a3 ≠ 1 then if v_5 = 0 ∨ v_5 = 1 then am_lt (am_u2 I_4 a3 x6 v_5) (fun I_8 => X12_mayMove_b145 N K F a0 k100 I_8 a1 x2 a3 x4 x5 x6) else none else none))))) else none else none) else (some (x4, I)))
theorem w_X12_mayMove_s100 {η : am_E} {l : Launch} {N : Nat} {n : Nat} {K : am_K} {I : am_I} {F : am_F} {a0 : Nat} {r0 : Int × am_I} {k100 : am_I → Nat → Int → Nat → Int → Int → Int → Option (Int × am_I)} {a1 : Nat} {x2 : Int} {a3 : Nat} {x4 : Int} {x5 : Int} {x6 : Int} (h0 : (K a0).1 = 12) (H100 : ∀ (I : am_I) (a1 : Nat) (x2 : Int) (a3 : Nat) (x4 : Int) (x5 : Int) (x6 : Int), k100 I a1 x2 a3 x4 x5 x6 = some r0 → Ok η l M_X12_mayMove (am_qm η (am_pS 1 r0 n K F) 0 0) 100 [(0, qr a0), (1, qr a1), (2, qi x2), (3, qr a3), (4, qi x4), (5, qi x5), (6, qi x6)] [] n K I F 0 0) : X12_mayMove_s100 N K F a0 k100 I a1 x2 a3 x4 x5 x6 = some r0 → Ok η l M_X12_mayMove (am_qm η (am_pS 1 r0 n K F) 0 0) 100 [(0, qr a0), (1, qr a1), (2, qi x2), (3, qr a3), (4, qi x4), (5, qi x5), (6, qi x6)] [] n K I F 0 0 := by
  unfold X12_mayMove_s100
  refine ok_iload (q := 102) 6 dX12_mayMove_100 rfl rfl ?_
  refine ok_aload_n (q := 103) 0 dX12_mayMove_102 rfl rfl rfl ?_
  refine fi_callV1P (q := 106) (as := []) (st := [qi x6]) dX12_mayMove_103 rfl mo_X12_133 h0 rfl (Nat.le_of_ble_eq_true rfl) rfl rfl (Nat.le_of_ble_eq_true rfl) (Nat.le_of_ble_eq_true rfl) (Nat.le_of_ble_eq_true rfl) (Nat.zero_le _) (Nat.zero_le _) (fun _ hr => ct_X12_all (N := N) h0 hr) (fun v_1 => ?_)
  refine ok_icmp_ge (q := 168) (q2 := 109) dX12_mayMove_106 rfl rfl ?_ ?_
  · skip
    refine ok_iload (q := 170) 4 dX12_mayMove_168 rfl rfl ?_
    exact fi_ireturnS dX12_mayMove_170 rfl
  · skip
    refine ok_aload_n (q := 110) 3 dX12_mayMove_109 rfl rfl rfl ?_
    refine ok_iload (q := 112) 6 dX12_mayMove_110 rfl rfl ?_
    refine fi_chk (fun h_2 => ?_)
    refine fi_chk (fun h_3 => ?_)
    refine ok_baload (q := 113) (v := I a3 x6) dX12_mayMove_112 rfl h_2 h_3.1 h_3.2 rfl ?_
    refine ok_if_eq (q := 145) (q2 := 116) dX12_mayMove_113 rfl rfl ?_ ?_
    · skip
      exact fun g => ok_pick [0, 1, 2, 3, 4, 5, 6] rfl (w_X12_mayMove_b145 (N := N) h0 H100 g)
    · skip
      refine ok_aload_n (q := 117) 0 dX12_mayMove_116 rfl rfl rfl ?_
      refine ok_getI (q := 120) (ci := 12) (k := 11) (x := I a0 11) dX12_mayMove_117 rfl fo_X12_114 h0 rfl ?_
      refine ok_if_eq (q := 145) (q2 := 123) dX12_mayMove_120 rfl rfl ?_ ?_
      · skip
        exact fun g => ok_pick [0, 1, 2, 3, 4, 5, 6] rfl (w_X12_mayMove_b145 (N := N) h0 H100 g)
      · skip
        refine ok_iload (q := 125) 5 dX12_mayMove_123 rfl rfl ?_
        refine ok_if_eq (q := 145) (q2 := 128) dX12_mayMove_125 rfl rfl ?_ ?_
        · skip
          exact fun g => ok_pick [0, 1, 2, 3, 4, 5, 6] rfl (w_X12_mayMove_b145 (N := N) h0 H100 g)
        · skip
          refine ok_aload_n (q := 129) 0 dX12_mayMove_128 rfl rfl rfl ?_
          refine ok_aload_n (q := 130) 1 dX12_mayMove_129 rfl rfl rfl ?_
          refine ok_iload_n (q := 131) 2 dX12_mayMove_130 rfl rfl rfl ?_
          refine ok_iload (q := 133) 6 dX12_mayMove_131 rfl rfl ?_
          refine fi_callV0S (q := 136) (as := [qr a1, qi x2, qi x6]) (st := []) dX12_mayMove_133 rfl mo_X12_172 h0 rfl (Nat.le_of_ble_eq_true rfl) rfl rfl (Nat.le_of_ble_eq_true rfl) (Nat.le_of_ble_eq_true rfl) (Nat.le_of_ble_eq_true rfl) (Nat.zero_le _) (Nat.zero_le _) (fun _ hr => ct_X12_make (N := N) h0 hr) (fun _ I_4 => ?_)
          refine ok_aload_n (q := 137) 3 dX12_mayMove_136 rfl rfl rfl ?_
          refine ok_iload (q := 139) 6 dX12_mayMove_137 rfl rfl ?_
          refine ok_aload_n (q := 140) 0 dX12_mayMove_139 rfl rfl rfl ?_
          refine ok_iload_n (q := 141) 2 dX12_mayMove_140 rfl rfl rfl ?_
          refine fi_callV1P (q := 144) (as := [qi x2]) (st := [qi x6, qr a3]) dX12_mayMove_141 rfl mo_X12_176 h0 rfl (Nat.le_of_ble_eq_true rfl) rfl rfl (Nat.le_of_ble_eq_true rfl) (Nat.le_of_ble_eq_true rfl) (Nat.le_of_ble_eq_true rfl) (Nat.zero_le _) (Nat.zero_le _) (fun _ hr => ct_X12_isFed (N := N) h0 hr) (fun v_5 => ?_)
          refine fi_chk (fun h_6 => ?_)
          refine fi_chk (fun h_7 => ?_)
          refine ok_bastore (q := 145) dX12_mayMove_144 rfl h_2 h_6 h_3.1 h_3.2 h_7 (fun I_8 => ?_)
          exact fun g => ok_pick [0, 1, 2, 3, 4, 5, 6] rfl (w_X12_mayMove_b145 (N := N) h0 H100 g)
def X12_mayMove_h100 (N : Nat) (K : am_K) (F : am_F) (a0 : Nat) : Nat → am_I → Nat → Int → Nat → Int → Int → Int → Option (Int × am_I) := am_it (fun kh => X12_mayMove_s100 N K F a0 kh) (fun _ _ _ _ _ _ _ => none)
theorem w_X12_mayMove_h100 {η : am_E} {l : Launch} {N : Nat} {n : Nat} {K : am_K} {F : am_F} {a0 : Nat} {r0 : Int × am_I} (h0 : (K a0).1 = 12) (f : Nat) : ∀ (I : am_I) (a1 : Nat) (x2 : Int) (a3 : Nat) (x4 : Int) (x5 : Int) (x6 : Int), X12_mayMove_h100 N K F a0 f I a1 x2 a3 x4 x5 x6 = some r0 → Ok η l M_X12_mayMove (am_qm η (am_pS 1 r0 n K F) 0 0) 100 [(0, qr a0), (1, qr a1), (2, qi x2), (3, qr a3), (4, qi x4), (5, qi x5), (6, qi x6)] [] n K I F 0 0 := by
  induction f with
  | zero => intro I a1 x2 a3 x4 x5 x6 g; exact fi_none g
  | succ f ih => intro I a1 x2 a3 x4 x5 x6 g; exact w_X12_mayMove_s100 (N := N) h0 ih g
def X12_mayMove_b91 (N : Nat) (K : am_K) (F : am_F) (a0 : Nat) (k9 : am_I → Nat → Int → Nat → Int → Int → Int → Option (Int × am_I)) (I : am_I) (a1 : Nat) (x2 : Int) (a3 : Nat) (x4 : Int) (x5 : Int) (x6 : Int) : Option (Int × am_I) :=
  if am_inI (x6 + 1) then am_lt (x6 + 1) (fun x6_2 => k9 I a1 x2 a3 x4 x5 x6_2) else none
theorem w_X12_mayMove_b91 {η : am_E} {l : Launch} {N : Nat} {n : Nat} {K : am_K} {I : am_I} {F : am_F} {a0 : Nat} {r0 : Int × am_I} {k9 : am_I → Nat → Int → Nat → Int → Int → Int → Option (Int × am_I)} {a1 : Nat} {x2 : Int} {a3 : Nat} {x4 : Int} {x5 : Int} {x6 : Int} (h0 : (K a0).1 = 12) (H9 : ∀ (I : am_I) (a1 : Nat) (x2 : Int) (a3 : Nat) (x4 : Int) (x5 : Int) (x6 : Int), k9 I a1 x2 a3 x4 x5 x6 = some r0 → Ok η l M_X12_mayMove (am_qm η (am_pS 1 r0 n K F) 0 0) 9 [(0, qr a0), (1, qr a1), (2, qi x2), (3, qr a3), (4, qi x4), (5, qi x5), (6, qi x6)] [] n K I F 0 0) : X12_mayMove_b91 N K F a0 k9 I a1 x2 a3 x4 x5 x6 = some r0 → Ok η l M_X12_mayMove (am_qm η (am_pS 1 r0 n K F) 0 0) 91 [(0, qr a0), (1, qr a1), (2, qi x2), (3, qr a3), (4, qi x4), (5, qi x5), (6, qi x6)] [] n K I F 0 0 := by
  unfold X12_mayMove_b91
  refine fi_chk (fun h_1 => ?_)
  refine ok_iincL (q := 94) (fun x6_2 => [(6, qi x6_2), (0, qr a0), (1, qr a1), (2, qi x2), (3, qr a3), (4, qi x4), (5, qi x5)]) 6 dX12_mayMove_91 rfl rfl h_1 (Nat.le_of_ble_eq_true rfl) (fun _ => rfl) (fun x6_2 => ?_)
  refine ok_goto (q := 9) dX12_mayMove_94 rfl ?_
  exact fun g => ok_pick [1, 2, 3, 4, 5, 6, 0] rfl (H9 _ _ _ _ _ _ _ g)
def X12_mayMove_b89 (N : Nat) (K : am_K) (F : am_F) (a0 : Nat) (k9 : am_I → Nat → Int → Nat → Int → Int → Int → Option (Int × am_I)) (I : am_I) (a1 : Nat) (x2 : Int) (a3 : Nat) (x4 : Int) (x6 : Int) (s0 : Int) : Option (Int × am_I) :=
  X12_mayMove_b91 N K F a0 k9 I a1 x2 a3 x4 s0 x6
theorem w_X12_mayMove_b89 {η : am_E} {l : Launch} {N : Nat} {n : Nat} {K : am_K} {I : am_I} {F : am_F} {a0 : Nat} {r0 : Int × am_I} {k9 : am_I → Nat → Int → Nat → Int → Int → Int → Option (Int × am_I)} {a1 : Nat} {x2 : Int} {a3 : Nat} {x4 : Int} {x6 : Int} {s0 : Int} (h0 : (K a0).1 = 12) (H9 : ∀ (I : am_I) (a1 : Nat) (x2 : Int) (a3 : Nat) (x4 : Int) (x5 : Int) (x6 : Int), k9 I a1 x2 a3 x4 x5 x6 = some r0 → Ok η l M_X12_mayMove (am_qm η (am_pS 1 r0 n K F) 0 0) 9 [(0, qr a0), (1, qr a1), (2, qi x2), (3, qr a3), (4, qi x4), (5, qi x5), (6, qi x6)] [] n K I F 0 0) : X12_mayMove_b89 N K F a0 k9 I a1 x2 a3 x4 x6 s0 = some r0 → Ok η l M_X12_mayMove (am_qm η (am_pS 1 r0 n K F) 0 0) 89 [(0, qr a0), (1, qr a1), (2, qi x2), (3, qr a3), (4, qi x4), (6, qi x6)] [qi s0] n K I F 0 0 := by
  unfold X12_mayMove_b89
  refine ok_istore (q := 91) (ls' := [(5, qi s0), (0, qr a0), (1, qr a1), (2, qi x2), (3, qr a3), (4, qi x4), (6, qi x6)]) dX12_mayMove_89 rfl (Nat.le_of_ble_eq_true rfl) rfl ?_
  exact fun g => ok_pick [1, 2, 3, 4, 5, 0, 6] rfl (w_X12_mayMove_b91 (N := N) h0 H9 g)
def X12_mayMove_b84 (N : Nat) (K : am_K) (F : am_F) (a0 : Nat) (k9 : am_I → Nat → Int → Nat → Int → Int → Int → Option (Int × am_I)) (I : am_I) (a1 : Nat) (x2 : Int) (a3 : Nat) (x4 : Int) (x6 : Int) : Option (Int × am_I) :=
  X12_mayMove_b89 N K F a0 k9 I a1 x2 a3 x4 x6 1
theorem w_X12_mayMove_b84 {η : am_E} {l : Launch} {N : Nat} {n : Nat} {K : am_K} {I : am_I} {F : am_F} {a0 : Nat} {r0 : Int × am_I} {k9 : am_I → Nat → Int → Nat → Int → Int → Int → Option (Int × am_I)} {a1 : Nat} {x2 : Int} {a3 : Nat} {x4 : Int} {x6 : Int} (h0 : (K a0).1 = 12) (H9 : ∀ (I : am_I) (a1 : Nat) (x2 : Int) (a3 : Nat) (x4 : Int) (x5 : Int) (x6 : Int), k9 I a1 x2 a3 x4 x5 x6 = some r0 → Ok η l M_X12_mayMove (am_qm η (am_pS 1 r0 n K F) 0 0) 9 [(0, qr a0), (1, qr a1), (2, qi x2), (3, qr a3), (4, qi x4), (5, qi x5), (6, qi x6)] [] n K I F 0 0) : X12_mayMove_b84 N K F a0 k9 I a1 x2 a3 x4 x6 = some r0 → Ok η l M_X12_mayMove (am_qm η (am_pS 1 r0 n K F) 0 0) 84 [(0, qr a0), (1, qr a1), (2, qi x2), (3, qr a3), (4, qi x4), (6, qi x6)] [] n K I F 0 0 := by
  unfold X12_mayMove_b84
  refine ok_iconst (q := 85) (x := 1) dX12_mayMove_84 rfl rfl (by decide) ?_
  refine ok_goto (q := 89) dX12_mayMove_85 rfl ?_
  exact fun g => ok_pick [0, 1, 2, 3, 4, 5] rfl (w_X12_mayMove_b89 (N := N) h0 H9 g)
def X12_mayMove_b88 (N : Nat) (K : am_K) (F : am_F) (a0 : Nat) (k9 : am_I → Nat → Int → Nat → Int → Int → Int → Option (Int × am_I)) (I : am_I) (a1 : Nat) (x2 : Int) (a3 : Nat) (x4 : Int) (x6 : Int) : Option (Int × am_I) :=
  X12_mayMove_b89 N K F a0 k9 I a1 x2 a3 x4 x6 0
theorem w_X12_mayMove_b88 {η : am_E} {l : Launch} {N : Nat} {n : Nat} {K : am_K} {I : am_I} {F : am_F} {a0 : Nat} {r0 : Int × am_I} {k9 : am_I → Nat → Int → Nat → Int → Int → Int → Option (Int × am_I)} {a1 : Nat} {x2 : Int} {a3 : Nat} {x4 : Int} {x6 : Int} (h0 : (K a0).1 = 12) (H9 : ∀ (I : am_I) (a1 : Nat) (x2 : Int) (a3 : Nat) (x4 : Int) (x5 : Int) (x6 : Int), k9 I a1 x2 a3 x4 x5 x6 = some r0 → Ok η l M_X12_mayMove (am_qm η (am_pS 1 r0 n K F) 0 0) 9 [(0, qr a0), (1, qr a1), (2, qi x2), (3, qr a3), (4, qi x4), (5, qi x5), (6, qi x6)] [] n K I F 0 0) : X12_mayMove_b88 N K F a0 k9 I a1 x2 a3 x4 x6 = some r0 → Ok η l M_X12_mayMove (am_qm η (am_pS 1 r0 n K F) 0 0) 88 [(0, qr a0), (1, qr a1), (2, qi x2), (3, qr a3), (4, qi x4), (6, qi x6)] [] n K I F 0 0 := by
  unfold X12_mayMove_b88
  refine ok_iconst (q := 89) (x := 0) dX12_mayMove_88 rfl rfl (by decide) ?_
  exact fun g => ok_pick [0, 1, 2, 3, 4, 5] rfl (w_X12_mayMove_b89 (N := N) h0 H9 g)
def X12_mayMove_b63 (N : Nat) (K : am_K) (F : am_F) (a0 : Nat) (k9 : am_I → Nat → Int → Nat → Int → Int → Int → Option (Int × am_I)) (I : am_I) (a1 : Nat) (x2 : Int) (a3 : Nat) (x4 : Int) (x5 : Int) (x6 : Int) (s0 : Int) (s1 : Int) (t2 : Nat) : Option (Int × am_I) :=
  if (K t2).1 = 101 then if t2 ≠ 1 then if (0 : Int) ≤ s1 ∧ s1 < (K t2).2 then if s0 = 0 ∨ s0 = 1 then am_lt (am_u2 I t2 s1 s0) (fun I_5 => if x5 = 0 then (if (I_5 a0 18) = 0 then (am_cq (X12_isFed N K F I_5 a0 x2) (fun v_6 => if v_6 = 0 then (X12_mayMove_b88 N K F a0 k9 I_5 a1 x2 a3 x4 x6) else (X12_mayMove_b84 N K F a0 k9 I_5 a1 x2 a3 x4 x6))) else (X12_mayMove_b88 N K F a0 k9 I_5 a1 x2 a3 x4 x6)) else (X12_mayMove_b84 N K F a0 k9 I_5 a1 x2 a3 x4 x6)) else none else none else none else none
theorem w_X12_mayMove_b63 {η : am_E} {l : Launch} {N : Nat} {n : Nat} {K : am_K} {I : am_I} {F : am_F} {a0 : Nat} {r0 : Int × am_I} {k9 : am_I → Nat → Int → Nat → Int → Int → Int → Option (Int × am_I)} {a1 : Nat} {x2 : Int} {a3 : Nat} {x4 : Int} {x5 : Int} {x6 : Int} {s0 : Int} {s1 : Int} {t2 : Nat} (h0 : (K a0).1 = 12) (H9 : ∀ (I : am_I) (a1 : Nat) (x2 : Int) (a3 : Nat) (x4 : Int) (x5 : Int) (x6 : Int), k9 I a1 x2 a3 x4 x5 x6 = some r0 → Ok η l M_X12_mayMove (am_qm η (am_pS 1 r0 n K F) 0 0) 9 [(0, qr a0), (1, qr a1), (2, qi x2), (3, qr a3), (4, qi x4), (5, qi x5), (6, qi x6)] [] n K I F 0 0) : X12_mayMove_b63 N K F a0 k9 I a1 x2 a3 x4 x5 x6 s0 s1 t2 = some r0 → Ok η l M_X12_mayMove (am_qm η (am_pS 1 r0 n K F) 0 0) 63 [(0, qr a0), (1, qr a1), (2, qi x2), (3, qr a3), (4, qi x4), (5, qi x5), (6, qi x6)] [qi s0, qi s1, qr t2] n K I F 0 0 := by
  unfold X12_mayMove_b63
  refine fi_chk (fun h_1 => ?_)
  refine fi_chk (fun h_2 => ?_)
  refine fi_chk (fun h_3 => ?_)
  refine fi_chk (fun h_4 => ?_)
  refine ok_bastore (q := 64) dX12_mayMove_63 rfl h_1 h_2 h_3.1 h_3.2 h_4 (fun I_5 => ?_)
  refine ok_iload (q := 66) 5 dX12_mayMove_64 rfl rfl ?_
  refine ok_if_ne (q := 84) (q2 := 69) dX12_mayMove_66 rfl rfl ?_ ?_
  · skip
    exact fun g => ok_pick [0, 1, 2, 3, 4, 6] rfl (w_X12_mayMove_b84 (N := N) h0 H9 g)
  · skip
    refine ok_aload_n (q := 70) 0 dX12_mayMove_69 rfl rfl rfl ?_
    refine ok_getI (q := 73) (ci := 12) (k := 18) (x := I_5 a0 18) dX12_mayMove_70 rfl fo_X12_155 h0 rfl ?_
    refine ok_if_ne (q := 88) (q2 := 76) dX12_mayMove_73 rfl rfl ?_ ?_
    · skip
      exact fun g => ok_pick [0, 1, 2, 3, 4, 6] rfl (w_X12_mayMove_b88 (N := N) h0 H9 g)
    · skip
      refine ok_aload_n (q := 77) 0 dX12_mayMove_76 rfl rfl rfl ?_
      refine ok_iload_n (q := 78) 2 dX12_mayMove_77 rfl rfl rfl ?_
      refine fi_callV1P (q := 81) (as := [qi x2]) (st := []) dX12_mayMove_78 rfl mo_X12_176 h0 rfl (Nat.le_of_ble_eq_true rfl) rfl rfl (Nat.le_of_ble_eq_true rfl) (Nat.le_of_ble_eq_true rfl) (Nat.le_of_ble_eq_true rfl) (Nat.zero_le _) (Nat.zero_le _) (fun _ hr => ct_X12_isFed (N := N) h0 hr) (fun v_6 => ?_)
      refine ok_if_eq (q := 88) (q2 := 84) dX12_mayMove_81 rfl rfl ?_ ?_
      · skip
        exact fun g => ok_pick [0, 1, 2, 3, 4, 6] rfl (w_X12_mayMove_b88 (N := N) h0 H9 g)
      · skip
        exact fun g => ok_pick [0, 1, 2, 3, 4, 6] rfl (w_X12_mayMove_b84 (N := N) h0 H9 g)
def X12_mayMove_s9 (N : Nat) (K : am_K) (F : am_F) (a0 : Nat) (k9 : am_I → Nat → Int → Nat → Int → Int → Int → Option (Int × am_I)) (I : am_I) (a1 : Nat) (x2 : Int) (a3 : Nat) (x4 : Int) (x5 : Int) (x6 : Int) : Option (Int × am_I) :=
  am_cq (X12_all N K F I a0) (fun v_1 => if x6 < v_1 then (am_cq (X12_isOwn N K F I a0 a1 x2 x6) (fun v_2 => if (K a3).1 = 101 then if a3 ≠ 1 then if (0 : Int) ≤ x6 ∧ x6 < (K a3).2 then if v_2 = 0 ∨ v_2 = 1 then am_lt (am_u2 I a3 x6 v_2) (fun I_7 => if (I_7 a3 x6) = 0 then (X12_mayMove_b91 N K F a0 k9 I_7 a1 x2 a3 x4 x5 x6) else (am_cl (X12_make N K F a0 I_7 a1 x2 x6) (fun _ I_8 => if (I_8 a0 18) = 0 then (X12_mayMove_b63 N K F a0 k9 I_8 a1 x2 a3 x4 x5 x6 1 x6 a3) else (X12_mayMove_b63 N K F a0 k9 I_8 a1 x2 a3 x4 x5 x6 0 x6 a3)))) else none else none else none else none)) else (X12_mayMove_h100 N K F a0 N I a1 x2 a3 x4 x5 0))
theorem w_X12_mayMove_s9 {η : am_E} {l : Launch} {N : Nat} {n : Nat} {K : am_K} {I : am_I} {F : am_F} {a0 : Nat} {r0 : Int × am_I} {k9 : am_I → Nat → Int → Nat → Int → Int → Int → Option (Int × am_I)} {a1 : Nat} {x2 : Int} {a3 : Nat} {x4 : Int} {x5 : Int} {x6 : Int} (h0 : (K a0).1 = 12) (H9 : ∀ (I : am_I) (a1 : Nat) (x2 : Int) (a3 : Nat) (x4 : Int) (x5 : Int) (x6 : Int), k9 I a1 x2 a3 x4 x5 x6 = some r0 → Ok η l M_X12_mayMove (am_qm η (am_pS 1 r0 n K F) 0 0) 9 [(0, qr a0), (1, qr a1), (2, qi x2), (3, qr a3), (4, qi x4), (5, qi x5), (6, qi x6)] [] n K I F 0 0) : X12_mayMove_s9 N K F a0 k9 I a1 x2 a3 x4 x5 x6 = some r0 → Ok η l M_X12_mayMove (am_qm η (am_pS 1 r0 n K F) 0 0) 9 [(0, qr a0), (1, qr a1), (2, qi x2), (3, qr a3), (4, qi x4), (5, qi x5), (6, qi x6)] [] n K I F 0 0 := by
  unfold X12_mayMove_s9
  refine ok_iload (q := 11) 6 dX12_mayMove_9 rfl rfl ?_
  refine ok_aload_n (q := 12) 0 dX12_mayMove_11 rfl rfl rfl ?_
  refine fi_callV1P (q := 15) (as := []) (st := [qi x6]) dX12_mayMove_12 rfl mo_X12_133 h0 rfl (Nat.le_of_ble_eq_true rfl) rfl rfl (Nat.le_of_ble_eq_true rfl) (Nat.le_of_ble_eq_true rfl) (Nat.le_of_ble_eq_true rfl) (Nat.zero_le _) (Nat.zero_le _) (fun _ hr => ct_X12_all (N := N) h0 hr) (fun v_1 => ?_)
  refine ok_icmp_ge (q := 97) (q2 := 18) dX12_mayMove_15 rfl rfl ?_ ?_
  · skip
    refine ok_iconst (q := 98) (x := 0) dX12_mayMove_97 rfl rfl (by decide) ?_
    refine ok_istore (q := 100) (ls' := [(6, qi 0), (0, qr a0), (1, qr a1), (2, qi x2), (3, qr a3), (4, qi x4), (5, qi x5)]) dX12_mayMove_98 rfl (Nat.le_of_ble_eq_true rfl) rfl ?_
    exact fun g => ok_pick [1, 2, 3, 4, 5, 6, 0] rfl (w_X12_mayMove_h100 (N := N) h0 N _ _ _ _ _ _ _ g)
  · skip
    refine ok_aload_n (q := 19) 3 dX12_mayMove_18 rfl rfl rfl ?_
    refine ok_iload (q := 21) 6 dX12_mayMove_19 rfl rfl ?_
    refine ok_aload_n (q := 22) 0 dX12_mayMove_21 rfl rfl rfl ?_
    refine ok_aload_n (q := 23) 1 dX12_mayMove_22 rfl rfl rfl ?_
    refine ok_iload_n (q := 24) 2 dX12_mayMove_23 rfl rfl rfl ?_
    refine ok_iload (q := 26) 6 dX12_mayMove_24 rfl rfl ?_
    refine fi_callV1P (q := 29) (as := [qr a1, qi x2, qi x6]) (st := [qi x6, qr a3]) dX12_mayMove_26 rfl mo_X12_168 h0 rfl (Nat.le_of_ble_eq_true rfl) rfl rfl (Nat.le_of_ble_eq_true rfl) (Nat.le_of_ble_eq_true rfl) (Nat.le_of_ble_eq_true rfl) (Nat.zero_le _) (Nat.zero_le _) (fun _ hr => ct_X12_isOwn (N := N) h0 hr) (fun v_2 => ?_)
    refine fi_chk (fun h_3 => ?_)
    refine fi_chk (fun h_4 => ?_)
    refine fi_chk (fun h_5 => ?_)
    refine fi_chk (fun h_6 => ?_)
    refine ok_bastore (q := 30) dX12_mayMove_29 rfl h_3 h_4 h_5.1 h_5.2 h_6 (fun I_7 => ?_)
    refine ok_aload_n (q := 31) 3 dX12_mayMove_30 rfl rfl rfl ?_
    refine ok_iload (q := 33) 6 dX12_mayMove_31 rfl rfl ?_
    refine ok_baload (q := 34) (v := I_7 a3 x6) dX12_mayMove_33 rfl h_3 h_5.1 h_5.2 rfl ?_
    refine ok_if_ne (q := 40) (q2 := 37) dX12_mayMove_34 rfl rfl ?_ ?_
    · skip
      refine ok_aload_n (q := 41) 0 dX12_mayMove_40 rfl rfl rfl ?_
      refine ok_aload_n (q := 42) 1 dX12_mayMove_41 rfl rfl rfl ?_
      refine ok_iload_n (q := 43) 2 dX12_mayMove_42 rfl rfl rfl ?_
      refine ok_iload (q := 45) 6 dX12_mayMove_43 rfl rfl ?_
      refine fi_callV0S (q := 48) (as := [qr a1, qi x2, qi x6]) (st := []) dX12_mayMove_45 rfl mo_X12_172 h0 rfl (Nat.le_of_ble_eq_true rfl) rfl rfl (Nat.le_of_ble_eq_true rfl) (Nat.le_of_ble_eq_true rfl) (Nat.le_of_ble_eq_true rfl) (Nat.zero_le _) (Nat.zero_le _) (fun _ hr => ct_X12_make (N := N) h0 hr) (fun _ I_8 => ?_)
      refine ok_aload_n (q := 49) 3 dX12_mayMove_48 rfl rfl rfl ?_
      refine ok_iload (q := 51) 6 dX12_mayMove_49 rfl rfl ?_
      refine ok_aload_n (q := 52) 0 dX12_mayMove_51 rfl rfl rfl ?_
      refine ok_getI (q := 55) (ci := 12) (k := 18) (x := I_8 a0 18) dX12_mayMove_52 rfl fo_X12_155 h0 rfl ?_
      refine ok_if_ne (q := 62) (q2 := 58) dX12_mayMove_55 rfl rfl ?_ ?_
      · skip
        refine ok_iconst (q := 63) (x := 0) dX12_mayMove_62 rfl rfl (by decide) ?_
        exact fun g => ok_pick [0, 1, 2, 3, 4, 5, 6] rfl (w_X12_mayMove_b63 (N := N) h0 H9 g)
      · skip
        refine ok_iconst (q := 59) (x := 1) dX12_mayMove_58 rfl rfl (by decide) ?_
        refine ok_goto (q := 63) dX12_mayMove_59 rfl ?_
        exact fun g => ok_pick [0, 1, 2, 3, 4, 5, 6] rfl (w_X12_mayMove_b63 (N := N) h0 H9 g)
    · skip
      refine ok_goto (q := 91) dX12_mayMove_37 rfl ?_
      exact fun g => ok_pick [0, 1, 2, 3, 4, 5, 6] rfl (w_X12_mayMove_b91 (N := N) h0 H9 g)
def X12_mayMove_h9 (N : Nat) (K : am_K) (F : am_F) (a0 : Nat) : Nat → am_I → Nat → Int → Nat → Int → Int → Int → Option (Int × am_I) := am_it (fun kh => X12_mayMove_s9 N K F a0 kh) (fun _ _ _ _ _ _ _ => none)
theorem w_X12_mayMove_h9 {η : am_E} {l : Launch} {N : Nat} {n : Nat} {K : am_K} {F : am_F} {a0 : Nat} {r0 : Int × am_I} (h0 : (K a0).1 = 12) (f : Nat) : ∀ (I : am_I) (a1 : Nat) (x2 : Int) (a3 : Nat) (x4 : Int) (x5 : Int) (x6 : Int), X12_mayMove_h9 N K F a0 f I a1 x2 a3 x4 x5 x6 = some r0 → Ok η l M_X12_mayMove (am_qm η (am_pS 1 r0 n K F) 0 0) 9 [(0, qr a0), (1, qr a1), (2, qi x2), (3, qr a3), (4, qi x4), (5, qi x5), (6, qi x6)] [] n K I F 0 0 := by
  induction f with
  | zero => intro I a1 x2 a3 x4 x5 x6 g; exact fi_none g
  | succ f ih => intro I a1 x2 a3 x4 x5 x6 g; exact w_X12_mayMove_s9 (N := N) h0 ih g
def X12_mayMove (N : Nat) (K : am_K) (F : am_F) (a0 : Nat) (I : am_I) (a1 : Nat) (x2 : Int) (a3 : Nat) : Option (Int × am_I) :=
  X12_mayMove_h9 N K F a0 N I a1 x2 a3 0 0 0
theorem w_X12_mayMove {η : am_E} {l : Launch} {N : Nat} {n : Nat} {K : am_K} {I : am_I} {F : am_F} {a0 : Nat} {r0 : Int × am_I} {a1 : Nat} {x2 : Int} {a3 : Nat} (h0 : (K a0).1 = 12) : X12_mayMove N K F a0 I a1 x2 a3 = some r0 → Ok η l M_X12_mayMove (am_qm η (am_pS 1 r0 n K F) 0 0) 0 [(0, qr a0), (1, qr a1), (2, qi x2), (3, qr a3)] [] n K I F 0 0 := by
  unfold X12_mayMove
  refine ok_iconst (q := 1) (x := 0) dX12_mayMove_0 rfl rfl (by decide) ?_
  refine ok_istore (q := 3) (ls' := [(4, qi 0), (0, qr a0), (1, qr a1), (2, qi x2), (3, qr a3)]) dX12_mayMove_1 rfl (Nat.le_of_ble_eq_true rfl) rfl ?_
  refine ok_iconst (q := 4) (x := 0) dX12_mayMove_3 rfl rfl (by decide) ?_
  refine ok_istore (q := 6) (ls' := [(5, qi 0), (4, qi 0), (0, qr a0), (1, qr a1), (2, qi x2), (3, qr a3)]) dX12_mayMove_4 rfl (Nat.le_of_ble_eq_true rfl) rfl ?_
  refine ok_iconst (q := 7) (x := 0) dX12_mayMove_6 rfl rfl (by decide) ?_
  refine ok_istore (q := 9) (ls' := [(6, qi 0), (5, qi 0), (4, qi 0), (0, qr a0), (1, qr a1), (2, qi x2), (3, qr a3)]) dX12_mayMove_7 rfl (Nat.le_of_ble_eq_true rfl) rfl ?_
  exact fun g => ok_pick [3, 4, 5, 6, 2, 1, 0] rfl (w_X12_mayMove_h9 (N := N) h0 N _ _ _ _ _ _ _ g)
theorem ct_X12_mayMove {η : am_E} {l : Launch} {N : Nat} {n : Nat} {K : am_K} {I : am_I} {F : am_F} {a0 : Nat} {r0 : Int × am_I} {a1 : Nat} {x2 : Int} {a3 : Nat} (h0 : (K a0).1 = 12) : X12_mayMove N K F a0 I a1 x2 a3 = some r0 → am_Ct η l yX12_mayMove cX12_mayMove 7 (some .int) 4 94 0 0 [qr a0, qr a1, qi x2, qr a3] n K I F (am_pS 1 r0 n K F) := fun g => am_Ct.of false (by decide) (by decide) (Nat.le_of_ble_eq_true rfl) (fun _ => w_X12_mayMove (N := N) h0 g)
def M_X12_counts : am_M := (yX12_counts.cls, cX12_counts, 6, (some .int), am_room 1 21 0 0, false)
def X12_counts_b55 (N : Nat) (K : am_K) (F : am_F) (I : am_I) (a0 : Nat) (k6 : Nat → Int → Int → Int → Int → Option Int) (a1 : Nat) (x2 : Int) (x3 : Int) (x5 : Int) (s0 : Int) (s1 : Int) : Option Int :=
  if am_inI (s1 + s0) then am_lt (s1 + s0) (fun x4_2 => if am_inI (x5 + 1) then am_lt (x5 + 1) (fun x5_4 => k6 a1 x2 x3 x4_2 x5_4) else none) else none
theorem w_X12_counts_b55 {η : am_E} {l : Launch} {N : Nat} {n : Nat} {K : am_K} {I : am_I} {F : am_F} {a0 : Nat} {r0 : Int} {k6 : Nat → Int → Int → Int → Int → Option Int} {a1 : Nat} {x2 : Int} {x3 : Int} {x5 : Int} {s0 : Int} {s1 : Int} (h0 : (K a0).1 = 12) (H6 : ∀ (a1 : Nat) (x2 : Int) (x3 : Int) (x4 : Int) (x5 : Int), k6 a1 x2 x3 x4 x5 = some r0 → Ok η l M_X12_counts (am_qm η (am_pS 1 (r0, I) n K F) 0 0) 6 [(0, qr a0), (1, qr a1), (2, qi x2), (3, qi x3), (4, qi x4), (5, qi x5)] [] n K I F 0 0) : X12_counts_b55 N K F I a0 k6 a1 x2 x3 x5 s0 s1 = some r0 → Ok η l M_X12_counts (am_qm η (am_pS 1 (r0, I) n K F) 0 0) 55 [(0, qr a0), (1, qr a1), (2, qi x2), (3, qi x3), (5, qi x5)] [qi s0, qi s1] n K I F 0 0 := by
  unfold X12_counts_b55
  refine fi_chk (fun h_1 => ?_)
  refine ok_iadd (q := 56) dX12_counts_55 rfl h_1 ?_
  refine ok_istoreL (q := 58) (fun x4_2 => [(4, qi x4_2), (0, qr a0), (1, qr a1), (2, qi x2), (3, qi x3), (5, qi x5)]) dX12_counts_56 rfl (Nat.le_of_ble_eq_true rfl) (fun _ => rfl) (fun x4_2 => ?_)
  refine fi_chk (fun h_3 => ?_)
  refine ok_iincL (q := 61) (fun x5_4 => [(5, qi x5_4), (4, qi x4_2), (0, qr a0), (1, qr a1), (2, qi x2), (3, qi x3)]) 5 dX12_counts_58 rfl rfl h_3 (Nat.le_of_ble_eq_true rfl) (fun _ => rfl) (fun x5_4 => ?_)
  refine ok_goto (q := 6) dX12_counts_61 rfl ?_
  exact fun g => ok_pick [2, 3, 4, 5, 1, 0] rfl (H6 _ _ _ _ _ g)
def X12_counts_b54 (N : Nat) (K : am_K) (F : am_F) (I : am_I) (a0 : Nat) (k6 : Nat → Int → Int → Int → Int → Option Int) (a1 : Nat) (x2 : Int) (x3 : Int) (x5 : Int) (s0 : Int) : Option Int :=
  X12_counts_b55 N K F I a0 k6 a1 x2 x3 x5 0 s0
theorem w_X12_counts_b54 {η : am_E} {l : Launch} {N : Nat} {n : Nat} {K : am_K} {I : am_I} {F : am_F} {a0 : Nat} {r0 : Int} {k6 : Nat → Int → Int → Int → Int → Option Int} {a1 : Nat} {x2 : Int} {x3 : Int} {x5 : Int} {s0 : Int} (h0 : (K a0).1 = 12) (H6 : ∀ (a1 : Nat) (x2 : Int) (x3 : Int) (x4 : Int) (x5 : Int), k6 a1 x2 x3 x4 x5 = some r0 → Ok η l M_X12_counts (am_qm η (am_pS 1 (r0, I) n K F) 0 0) 6 [(0, qr a0), (1, qr a1), (2, qi x2), (3, qi x3), (4, qi x4), (5, qi x5)] [] n K I F 0 0) : X12_counts_b54 N K F I a0 k6 a1 x2 x3 x5 s0 = some r0 → Ok η l M_X12_counts (am_qm η (am_pS 1 (r0, I) n K F) 0 0) 54 [(0, qr a0), (1, qr a1), (2, qi x2), (3, qi x3), (5, qi x5)] [qi s0] n K I F 0 0 := by
  unfold X12_counts_b54
  refine ok_iconst (q := 55) (x := 0) dX12_counts_54 rfl rfl (by decide) ?_
  exact fun g => ok_pick [0, 1, 2, 3, 4] rfl (w_X12_counts_b55 (N := N) h0 H6 g)
def X12_counts_b47 (N : Nat) (K : am_K) (F : am_F) (I : am_I) (a0 : Nat) (k6 : Nat → Int → Int → Int → Int → Option Int) (a1 : Nat) (x2 : Int) (x3 : Int) (x5 : Int) (s0 : Int) : Option Int :=
  if (K a1).1 = 100 then if (0 : Int) ≤ x5 ∧ x5 < (K a1).2 then X12_counts_b55 N K F I a0 k6 a1 x2 x3 x5 (I a1 x5) s0 else none else none
theorem w_X12_counts_b47 {η : am_E} {l : Launch} {N : Nat} {n : Nat} {K : am_K} {I : am_I} {F : am_F} {a0 : Nat} {r0 : Int} {k6 : Nat → Int → Int → Int → Int → Option Int} {a1 : Nat} {x2 : Int} {x3 : Int} {x5 : Int} {s0 : Int} (h0 : (K a0).1 = 12) (H6 : ∀ (a1 : Nat) (x2 : Int) (x3 : Int) (x4 : Int) (x5 : Int), k6 a1 x2 x3 x4 x5 = some r0 → Ok η l M_X12_counts (am_qm η (am_pS 1 (r0, I) n K F) 0 0) 6 [(0, qr a0), (1, qr a1), (2, qi x2), (3, qi x3), (4, qi x4), (5, qi x5)] [] n K I F 0 0) : X12_counts_b47 N K F I a0 k6 a1 x2 x3 x5 s0 = some r0 → Ok η l M_X12_counts (am_qm η (am_pS 1 (r0, I) n K F) 0 0) 47 [(0, qr a0), (1, qr a1), (2, qi x2), (3, qi x3), (5, qi x5)] [qi s0] n K I F 0 0 := by
  unfold X12_counts_b47
  refine ok_aload_n (q := 48) 1 dX12_counts_47 rfl rfl rfl ?_
  refine ok_iload (q := 50) 4 dX12_counts_48 rfl rfl ?_
  refine fi_chk (fun h_1 => ?_)
  refine fi_chk (fun h_2 => ?_)
  refine ok_iaload (q := 51) (v := I a1 x5) dX12_counts_50 rfl h_1 h_2.1 h_2.2 rfl ?_
  refine ok_goto (q := 55) dX12_counts_51 rfl ?_
  exact fun g => ok_pick [0, 1, 2, 3, 4] rfl (w_X12_counts_b55 (N := N) h0 H6 g)
def X12_counts_b34 (N : Nat) (K : am_K) (F : am_F) (I : am_I) (a0 : Nat) (k6 : Nat → Int → Int → Int → Int → Option Int) (a1 : Nat) (x2 : Int) (x3 : Int) (x5 : Int) (s0 : Int) : Option Int :=
  if (I a0 12) = 1 then (if x3 = x2 then (X12_counts_b54 N K F I a0 k6 a1 x2 x3 x5 s0) else (X12_counts_b47 N K F I a0 k6 a1 x2 x3 x5 s0)) else (X12_counts_b54 N K F I a0 k6 a1 x2 x3 x5 s0)
theorem w_X12_counts_b34 {η : am_E} {l : Launch} {N : Nat} {n : Nat} {K : am_K} {I : am_I} {F : am_F} {a0 : Nat} {r0 : Int} {k6 : Nat → Int → Int → Int → Int → Option Int} {a1 : Nat} {x2 : Int} {x3 : Int} {x5 : Int} {s0 : Int} (h0 : (K a0).1 = 12) (H6 : ∀ (a1 : Nat) (x2 : Int) (x3 : Int) (x4 : Int) (x5 : Int), k6 a1 x2 x3 x4 x5 = some r0 → Ok η l M_X12_counts (am_qm η (am_pS 1 (r0, I) n K F) 0 0) 6 [(0, qr a0), (1, qr a1), (2, qi x2), (3, qi x3), (4, qi x4), (5, qi x5)] [] n K I F 0 0) : X12_counts_b34 N K F I a0 k6 a1 x2 x3 x5 s0 = some r0 → Ok η l M_X12_counts (am_qm η (am_pS 1 (r0, I) n K F) 0 0) 34 [(0, qr a0), (1, qr a1), (2, qi x2), (3, qi x3), (5, qi x5)] [qi s0] n K I F 0 0 := by
  unfold X12_counts_b34
  refine ok_aload_n (q := 35) 0 dX12_counts_34 rfl rfl rfl ?_
  refine ok_getI (q := 38) (ci := 12) (k := 12) (x := I a0 12) dX12_counts_35 rfl fo_X12_118 h0 rfl ?_
  refine ok_iconst (q := 39) (x := 1) dX12_counts_38 rfl rfl (by decide) ?_
  refine ok_icmp_ne (q := 54) (q2 := 42) dX12_counts_39 rfl rfl ?_ ?_
  · skip
    exact fun g => ok_pick [0, 1, 2, 3, 4] rfl (w_X12_counts_b54 (N := N) h0 H6 g)
  · skip
    refine ok_iload_n (q := 43) 3 dX12_counts_42 rfl rfl rfl ?_
    refine ok_iload_n (q := 44) 2 dX12_counts_43 rfl rfl rfl ?_
    refine ok_icmp_eq (q := 54) (q2 := 47) dX12_counts_44 rfl rfl ?_ ?_
    · skip
      exact fun g => ok_pick [0, 1, 2, 3, 4] rfl (w_X12_counts_b54 (N := N) h0 H6 g)
    · skip
      exact fun g => ok_pick [0, 1, 2, 3, 4] rfl (w_X12_counts_b47 (N := N) h0 H6 g)
def X12_counts_s6 (N : Nat) (K : am_K) (F : am_F) (I : am_I) (a0 : Nat) (k6 : Nat → Int → Int → Int → Int → Option Int) (a1 : Nat) (x2 : Int) (x3 : Int) (x4 : Int) (x5 : Int) : Option Int :=
  am_cq (X12_all N K F I a0) (fun v_1 => if x5 < v_1 then (if (I a0 12) = 0 then (am_cq (X12_sideOf N K F I a0 x5) (fun v_2 => if v_2 = x3 then (X12_counts_b47 N K F I a0 k6 a1 x2 x3 x5 x4) else (X12_counts_b34 N K F I a0 k6 a1 x2 x3 x5 x4))) else (X12_counts_b34 N K F I a0 k6 a1 x2 x3 x5 x4)) else (some (x4)))
theorem w_X12_counts_s6 {η : am_E} {l : Launch} {N : Nat} {n : Nat} {K : am_K} {I : am_I} {F : am_F} {a0 : Nat} {r0 : Int} {k6 : Nat → Int → Int → Int → Int → Option Int} {a1 : Nat} {x2 : Int} {x3 : Int} {x4 : Int} {x5 : Int} (h0 : (K a0).1 = 12) (H6 : ∀ (a1 : Nat) (x2 : Int) (x3 : Int) (x4 : Int) (x5 : Int), k6 a1 x2 x3 x4 x5 = some r0 → Ok η l M_X12_counts (am_qm η (am_pS 1 (r0, I) n K F) 0 0) 6 [(0, qr a0), (1, qr a1), (2, qi x2), (3, qi x3), (4, qi x4), (5, qi x5)] [] n K I F 0 0) : X12_counts_s6 N K F I a0 k6 a1 x2 x3 x4 x5 = some r0 → Ok η l M_X12_counts (am_qm η (am_pS 1 (r0, I) n K F) 0 0) 6 [(0, qr a0), (1, qr a1), (2, qi x2), (3, qi x3), (4, qi x4), (5, qi x5)] [] n K I F 0 0 := by
  unfold X12_counts_s6
  refine ok_iload (q := 8) 5 dX12_counts_6 rfl rfl ?_
  refine ok_aload_n (q := 9) 0 dX12_counts_8 rfl rfl rfl ?_
  refine fi_callV1P (q := 12) (as := []) (st := [qi x5]) dX12_counts_9 rfl mo_X12_133 h0 rfl (Nat.le_of_ble_eq_true rfl) rfl rfl (Nat.le_of_ble_eq_true rfl) (Nat.le_of_ble_eq_true rfl) (Nat.le_of_ble_eq_true rfl) (Nat.zero_le _) (Nat.zero_le _) (fun _ hr => ct_X12_all (N := N) h0 hr) (fun v_1 => ?_)
  refine ok_icmp_ge (q := 64) (q2 := 15) dX12_counts_12 rfl rfl ?_ ?_
  · skip
    refine ok_iload (q := 66) 4 dX12_counts_64 rfl rfl ?_
    exact fi_ireturnP dX12_counts_66 rfl
  · skip
    refine ok_iload (q := 17) 4 dX12_counts_15 rfl rfl ?_
    refine ok_aload_n (q := 18) 0 dX12_counts_17 rfl rfl rfl ?_
    refine ok_getI (q := 21) (ci := 12) (k := 12) (x := I a0 12) dX12_counts_18 rfl fo_X12_118 h0 rfl ?_
    refine ok_if_ne (q := 34) (q2 := 24) dX12_counts_21 rfl rfl ?_ ?_
    · skip
      exact fun g => ok_pick [0, 1, 2, 3, 5] rfl (w_X12_counts_b34 (N := N) h0 H6 g)
    · skip
      refine ok_aload_n (q := 25) 0 dX12_counts_24 rfl rfl rfl ?_
      refine ok_iload (q := 27) 5 dX12_counts_25 rfl rfl ?_
      refine fi_callV1P (q := 30) (as := [qi x5]) (st := [qi x4]) dX12_counts_27 rfl mo_X12_137 h0 rfl (Nat.le_of_ble_eq_true rfl) rfl rfl (Nat.le_of_ble_eq_true rfl) (Nat.le_of_ble_eq_true rfl) (Nat.le_of_ble_eq_true rfl) (Nat.zero_le _) (Nat.zero_le _) (fun _ hr => ct_X12_sideOf (N := N) h0 hr) (fun v_2 => ?_)
      refine ok_iload_n (q := 31) 3 dX12_counts_30 rfl rfl rfl ?_
      refine ok_icmp_eq (q := 47) (q2 := 34) dX12_counts_31 rfl rfl ?_ ?_
      · skip
        exact fun g => ok_pick [0, 1, 2, 3, 5] rfl (w_X12_counts_b47 (N := N) h0 H6 g)
      · skip
        exact fun g => ok_pick [0, 1, 2, 3, 5] rfl (w_X12_counts_b34 (N := N) h0 H6 g)
def X12_counts_h6 (N : Nat) (K : am_K) (F : am_F) (I : am_I) (a0 : Nat) : Nat → Nat → Int → Int → Int → Int → Option Int := am_it (fun kh => X12_counts_s6 N K F I a0 kh) (fun _ _ _ _ _ => none)
theorem w_X12_counts_h6 {η : am_E} {l : Launch} {N : Nat} {n : Nat} {K : am_K} {I : am_I} {F : am_F} {a0 : Nat} {r0 : Int} (h0 : (K a0).1 = 12) (f : Nat) : ∀ (a1 : Nat) (x2 : Int) (x3 : Int) (x4 : Int) (x5 : Int), X12_counts_h6 N K F I a0 f a1 x2 x3 x4 x5 = some r0 → Ok η l M_X12_counts (am_qm η (am_pS 1 (r0, I) n K F) 0 0) 6 [(0, qr a0), (1, qr a1), (2, qi x2), (3, qi x3), (4, qi x4), (5, qi x5)] [] n K I F 0 0 := by
  induction f with
  | zero => intro a1 x2 x3 x4 x5 g; exact fi_none g
  | succ f ih => intro a1 x2 x3 x4 x5 g; exact w_X12_counts_s6 (N := N) h0 ih g
def X12_counts (N : Nat) (K : am_K) (F : am_F) (I : am_I) (a0 : Nat) (a1 : Nat) (x2 : Int) (x3 : Int) : Option Int :=
  X12_counts_h6 N K F I a0 N a1 x2 x3 0 0
theorem w_X12_counts {η : am_E} {l : Launch} {N : Nat} {n : Nat} {K : am_K} {I : am_I} {F : am_F} {a0 : Nat} {r0 : Int} {a1 : Nat} {x2 : Int} {x3 : Int} (h0 : (K a0).1 = 12) : X12_counts N K F I a0 a1 x2 x3 = some r0 → Ok η l M_X12_counts (am_qm η (am_pS 1 (r0, I) n K F) 0 0) 0 [(0, qr a0), (1, qr a1), (2, qi x2), (3, qi x3)] [] n K I F 0 0 := by
  unfold X12_counts
  refine ok_iconst (q := 1) (x := 0) dX12_counts_0 rfl rfl (by decide) ?_
  refine ok_istore (q := 3) (ls' := [(4, qi 0), (0, qr a0), (1, qr a1), (2, qi x2), (3, qi x3)]) dX12_counts_1 rfl (Nat.le_of_ble_eq_true rfl) rfl ?_
  refine ok_iconst (q := 4) (x := 0) dX12_counts_3 rfl rfl (by decide) ?_
  refine ok_istore (q := 6) (ls' := [(5, qi 0), (4, qi 0), (0, qr a0), (1, qr a1), (2, qi x2), (3, qi x3)]) dX12_counts_4 rfl (Nat.le_of_ble_eq_true rfl) rfl ?_
  exact fun g => ok_pick [2, 3, 4, 5, 1, 0] rfl (w_X12_counts_h6 (N := N) h0 N _ _ _ _ _ g)
theorem ct_X12_counts {η : am_E} {l : Launch} {N : Nat} {n : Nat} {K : am_K} {I : am_I} {F : am_F} {a0 : Nat} {r0 : Int} {a1 : Nat} {x2 : Int} {x3 : Int} (h0 : (K a0).1 = 12) : X12_counts N K F I a0 a1 x2 x3 = some r0 → am_Ct η l yX12_counts cX12_counts 6 (some .int) 1 21 0 0 [qr a0, qr a1, qi x2, qi x3] n K I F (am_pS 1 (r0, I) n K F) := fun g => am_Ct.of false (by decide) (by decide) (Nat.le_of_ble_eq_true rfl) (fun _ => w_X12_counts (N := N) h0 g)
def M_X12_there : am_M := (yX12_there.cls, cX12_there, 3, (some .int), am_room 1 20 0 0, false)
def X12_there_b27 (N : Nat) (K : am_K) (F : am_F) (I : am_I) (a0 : Nat) (k4 : Int → Int → Option Int) (x2 : Int) (s0 : Int) (s1 : Int) : Option Int :=
  if am_inI (s1 + s0) then am_lt (s1 + s0) (fun x1_2 => if am_inI (x2 + 1) then am_lt (x2 + 1) (fun x2_4 => k4 x1_2 x2_4) else none) else none
theorem w_X12_there_b27 {η : am_E} {l : Launch} {N : Nat} {n : Nat} {K : am_K} {I : am_I} {F : am_F} {a0 : Nat} {r0 : Int} {k4 : Int → Int → Option Int} {x2 : Int} {s0 : Int} {s1 : Int} (h0 : (K a0).1 = 12) (H4 : ∀ (x1 : Int) (x2 : Int), k4 x1 x2 = some r0 → Ok η l M_X12_there (am_qm η (am_pS 1 (r0, I) n K F) 0 0) 4 [(0, qr a0), (1, qi x1), (2, qi x2)] [] n K I F 0 0) : X12_there_b27 N K F I a0 k4 x2 s0 s1 = some r0 → Ok η l M_X12_there (am_qm η (am_pS 1 (r0, I) n K F) 0 0) 27 [(0, qr a0), (2, qi x2)] [qi s0, qi s1] n K I F 0 0 := by
  unfold X12_there_b27
  refine fi_chk (fun h_1 => ?_)
  refine ok_iadd (q := 28) dX12_there_27 rfl h_1 ?_
  refine ok_istore_nL (q := 29) (fun x1_2 => [(1, qi x1_2), (0, qr a0), (2, qi x2)]) dX12_there_28 rfl rfl (Nat.le_of_ble_eq_true rfl) (fun _ => rfl) (fun x1_2 => ?_)
  refine fi_chk (fun h_3 => ?_)
  refine ok_iincL (q := 32) (fun x2_4 => [(2, qi x2_4), (1, qi x1_2), (0, qr a0)]) 2 dX12_there_29 rfl rfl h_3 (Nat.le_of_ble_eq_true rfl) (fun _ => rfl) (fun x2_4 => ?_)
  refine ok_goto (q := 4) dX12_there_32 rfl ?_
  exact fun g => ok_pick [2, 1, 0] rfl (H4 _ _ g)
def X12_there_s4 (N : Nat) (K : am_K) (F : am_F) (I : am_I) (a0 : Nat) (k4 : Int → Int → Option Int) (x1 : Int) (x2 : Int) : Option Int :=
  am_cq (X12_all N K F I a0) (fun v_1 => if x2 < v_1 then (if (K (F a0 2)).1 = 101 then if (0 : Int) ≤ x2 ∧ x2 < (K (F a0 2)).2 then if (I (F a0 2) x2) = 0 then (X12_there_b27 N K F I a0 k4 x2 1 x1) else (X12_there_b27 N K F I a0 k4 x2 0 x1) else none else none) else (some (x1)))
theorem w_X12_there_s4 {η : am_E} {l : Launch} {N : Nat} {n : Nat} {K : am_K} {I : am_I} {F : am_F} {a0 : Nat} {r0 : Int} {k4 : Int → Int → Option Int} {x1 : Int} {x2 : Int} (h0 : (K a0).1 = 12) (H4 : ∀ (x1 : Int) (x2 : Int), k4 x1 x2 = some r0 → Ok η l M_X12_there (am_qm η (am_pS 1 (r0, I) n K F) 0 0) 4 [(0, qr a0), (1, qi x1), (2, qi x2)] [] n K I F 0 0) : X12_there_s4 N K F I a0 k4 x1 x2 = some r0 → Ok η l M_X12_there (am_qm η (am_pS 1 (r0, I) n K F) 0 0) 4 [(0, qr a0), (1, qi x1), (2, qi x2)] [] n K I F 0 0 := by
  unfold X12_there_s4
  refine ok_iload_n (q := 5) 2 dX12_there_4 rfl rfl rfl ?_
  refine ok_aload_n (q := 6) 0 dX12_there_5 rfl rfl rfl ?_
  refine fi_callV1P (q := 9) (as := []) (st := [qi x2]) dX12_there_6 rfl mo_X12_133 h0 rfl (Nat.le_of_ble_eq_true rfl) rfl rfl (Nat.le_of_ble_eq_true rfl) (Nat.le_of_ble_eq_true rfl) (Nat.le_of_ble_eq_true rfl) (Nat.zero_le _) (Nat.zero_le _) (fun _ hr => ct_X12_all (N := N) h0 hr) (fun v_1 => ?_)
  refine ok_icmp_ge (q := 35) (q2 := 12) dX12_there_9 rfl rfl ?_ ?_
  · skip
    refine ok_iload_n (q := 36) 1 dX12_there_35 rfl rfl rfl ?_
    exact fi_ireturnP dX12_there_36 rfl
  · skip
    refine ok_iload_n (q := 13) 1 dX12_there_12 rfl rfl rfl ?_
    refine ok_aload_n (q := 14) 0 dX12_there_13 rfl rfl rfl ?_
    refine ok_getR (q := 17) (ci := 12) (k := 2) (x := F a0 2) dX12_there_14 rfl fo_X12_9 h0 rfl ?_
    refine ok_iload_n (q := 18) 2 dX12_there_17 rfl rfl rfl ?_
    refine fi_chk (fun h_2 => ?_)
    refine fi_chk (fun h_3 => ?_)
    refine ok_baload (q := 19) (v := I (F a0 2) x2) dX12_there_18 rfl h_2 h_3.1 h_3.2 rfl ?_
    refine ok_if_eq (q := 26) (q2 := 22) dX12_there_19 rfl rfl ?_ ?_
    · skip
      refine ok_iconst (q := 27) (x := 1) dX12_there_26 rfl rfl (by decide) ?_
      exact fun g => ok_pick [0, 2] rfl (w_X12_there_b27 (N := N) h0 H4 g)
    · skip
      refine ok_iconst (q := 23) (x := 0) dX12_there_22 rfl rfl (by decide) ?_
      refine ok_goto (q := 27) dX12_there_23 rfl ?_
      exact fun g => ok_pick [0, 2] rfl (w_X12_there_b27 (N := N) h0 H4 g)
def X12_there_h4 (N : Nat) (K : am_K) (F : am_F) (I : am_I) (a0 : Nat) : Nat → Int → Int → Option Int := am_it (fun kh => X12_there_s4 N K F I a0 kh) (fun _ _ => none)
theorem w_X12_there_h4 {η : am_E} {l : Launch} {N : Nat} {n : Nat} {K : am_K} {I : am_I} {F : am_F} {a0 : Nat} {r0 : Int} (h0 : (K a0).1 = 12) (f : Nat) : ∀ (x1 : Int) (x2 : Int), X12_there_h4 N K F I a0 f x1 x2 = some r0 → Ok η l M_X12_there (am_qm η (am_pS 1 (r0, I) n K F) 0 0) 4 [(0, qr a0), (1, qi x1), (2, qi x2)] [] n K I F 0 0 := by
  induction f with
  | zero => intro x1 x2 g; exact fi_none g
  | succ f ih => intro x1 x2 g; exact w_X12_there_s4 (N := N) h0 ih g
def X12_there (N : Nat) (K : am_K) (F : am_F) (I : am_I) (a0 : Nat) : Option Int :=
  X12_there_h4 N K F I a0 N 0 0
theorem w_X12_there {η : am_E} {l : Launch} {N : Nat} {n : Nat} {K : am_K} {I : am_I} {F : am_F} {a0 : Nat} {r0 : Int} (h0 : (K a0).1 = 12) : X12_there N K F I a0 = some r0 → Ok η l M_X12_there (am_qm η (am_pS 1 (r0, I) n K F) 0 0) 0 [(0, qr a0)] [] n K I F 0 0 := by
  unfold X12_there
  refine ok_iconst (q := 1) (x := 0) dX12_there_0 rfl rfl (by decide) ?_
  refine ok_istore_n (q := 2) (ls' := [(1, qi 0), (0, qr a0)]) dX12_there_1 rfl rfl (Nat.le_of_ble_eq_true rfl) rfl ?_
  refine ok_iconst (q := 3) (x := 0) dX12_there_2 rfl rfl (by decide) ?_
  refine ok_istore_n (q := 4) (ls' := [(2, qi 0), (1, qi 0), (0, qr a0)]) dX12_there_3 rfl rfl (Nat.le_of_ble_eq_true rfl) rfl ?_
  exact fun g => ok_pick [2, 1, 0] rfl (w_X12_there_h4 (N := N) h0 N _ _ g)
theorem ct_X12_there {η : am_E} {l : Launch} {N : Nat} {n : Nat} {K : am_K} {I : am_I} {F : am_F} {a0 : Nat} {r0 : Int} (h0 : (K a0).1 = 12) : X12_there N K F I a0 = some r0 → am_Ct η l yX12_there cX12_there 3 (some .int) 1 20 0 0 [qr a0] n K I F (am_pS 1 (r0, I) n K F) := fun g => am_Ct.of false (by decide) (by decide) (Nat.le_of_ble_eq_true rfl) (fun _ => w_X12_there (N := N) h0 g)
def M_X12_ways : am_M := (yX12_ways.cls, cX12_ways, 5, (some .long), am_room 0 0 0 0, false)
def X12_ways_s19 (N : Nat) (K : am_K) (F : am_F) (I : am_I) (k19 : Int → Int → Int → Int → Option Int) (x0 : Int) (x1 : Int) (x2 : Int) (x4 : Int) : Option Int :=
  if x4 ≤ x0 then (if am_inI (x1 - 1) then if am_inI ((x1 - 1) + x4) then if x4 ≠ (0 : Int) then am_lt (am_ldiv (am_wL (x2 * ((x1 - 1) + x4))) x4) (fun x2_4 => if am_inI (x4 + 1) then am_lt (x4 + 1) (fun x4_6 => k19 x0 x1 x2_4 x4_6) else none) else none else none else none) else (some (x2))
theorem w_X12_ways_s19 {η : am_E} {l : Launch} {N : Nat} {n : Nat} {K : am_K} {I : am_I} {F : am_F} {r0 : Int} {k19 : Int → Int → Int → Int → Option Int} {x0 : Int} {x1 : Int} {x2 : Int} {x4 : Int} (H19 : ∀ (x0 : Int) (x1 : Int) (x2 : Int) (x4 : Int), k19 x0 x1 x2 x4 = some r0 → Ok η l M_X12_ways (am_qm η (am_pS 2 (r0, I) n K F) 0 0) 19 [(0, qi x0), (1, qi x1), (2, ql x2), (4, qi x4)] [] n K I F 0 0) : X12_ways_s19 N K F I k19 x0 x1 x2 x4 = some r0 → Ok η l M_X12_ways (am_qm η (am_pS 2 (r0, I) n K F) 0 0) 19 [(0, qi x0), (1, qi x1), (2, ql x2), (4, qi x4)] [] n K I F 0 0 := by
  unfold X12_ways_s19
  refine ok_iload (q := 21) 3 dX12_ways_19 rfl rfl ?_
  refine ok_iload_n (q := 22) 0 dX12_ways_21 rfl rfl rfl ?_
  refine ok_icmp_gt (q := 45) (q2 := 25) dX12_ways_22 rfl rfl ?_ ?_
  · skip
    refine ok_lload_n (q := 46) 2 dX12_ways_45 rfl rfl rfl ?_
    exact fi_lreturnP dX12_ways_46 rfl
  · skip
    refine ok_lload_n (q := 26) 2 dX12_ways_25 rfl rfl rfl ?_
    refine ok_iload_n (q := 27) 1 dX12_ways_26 rfl rfl rfl ?_
    refine ok_iconst (q := 28) (x := 1) dX12_ways_27 rfl rfl (by decide) ?_
    refine fi_chk (fun h_1 => ?_)
    refine ok_isub (q := 29) dX12_ways_28 rfl h_1 ?_
    refine ok_iload (q := 31) 3 dX12_ways_29 rfl rfl ?_
    refine fi_chk (fun h_2 => ?_)
    refine ok_iadd (q := 32) dX12_ways_31 rfl h_2 ?_
    refine ok_i2l (q := 33) dX12_ways_32 rfl ?_
    refine ok_lmulW (q := 34) dX12_ways_33 rfl ?_
    refine ok_iload (q := 36) 3 dX12_ways_34 rfl rfl ?_
    refine ok_i2l (q := 37) dX12_ways_36 rfl ?_
    refine fi_chk (fun h_3 => ?_)
    refine ok_ldiv (q := 38) (r := am_ldiv (am_wL (x2 * ((x1 - 1) + x4))) x4) dX12_ways_37 rfl h_3 rfl ?_
    refine ok_lstore_nL (q := 39) (fun x2_4 => [(2, ql x2_4), (0, qi x0), (1, qi x1), (4, qi x4)]) dX12_ways_38 rfl rfl (Nat.le_of_ble_eq_true rfl) (fun _ => rfl) (fun x2_4 => ?_)
    refine fi_chk (fun h_5 => ?_)
    refine ok_iincL (q := 42) (fun x4_6 => [(4, qi x4_6), (2, ql x2_4), (0, qi x0), (1, qi x1)]) 3 dX12_ways_39 rfl rfl h_5 (Nat.le_of_ble_eq_true rfl) (fun _ => rfl) (fun x4_6 => ?_)
    refine ok_goto (q := 19) dX12_ways_42 rfl ?_
    exact fun g => ok_pick [2, 3, 1, 0] rfl (H19 _ _ _ _ g)
def X12_ways_h19 (N : Nat) (K : am_K) (F : am_F) (I : am_I) : Nat → Int → Int → Int → Int → Option Int := am_it (fun kh => X12_ways_s19 N K F I kh) (fun _ _ _ _ => none)
theorem w_X12_ways_h19 {η : am_E} {l : Launch} {N : Nat} {n : Nat} {K : am_K} {I : am_I} {F : am_F} {r0 : Int} (f : Nat) : ∀ (x0 : Int) (x1 : Int) (x2 : Int) (x4 : Int), X12_ways_h19 N K F I f x0 x1 x2 x4 = some r0 → Ok η l M_X12_ways (am_qm η (am_pS 2 (r0, I) n K F) 0 0) 19 [(0, qi x0), (1, qi x1), (2, ql x2), (4, qi x4)] [] n K I F 0 0 := by
  induction f with
  | zero => intro x0 x1 x2 x4 g; exact fi_none g
  | succ f ih => intro x0 x1 x2 x4 g; exact w_X12_ways_s19 (N := N) ih g
def X12_ways_b13 (N : Nat) (K : am_K) (F : am_F) (I : am_I) (s0 : Int) : Option Int :=
  some (s0)
theorem w_X12_ways_b13 {η : am_E} {l : Launch} {N : Nat} {n : Nat} {K : am_K} {I : am_I} {F : am_F} {r0 : Int} {s0 : Int} : X12_ways_b13 N K F I s0 = some r0 → Ok η l M_X12_ways (am_qm η (am_pS 2 (r0, I) n K F) 0 0) 13 [] [ql s0] n K I F 0 0 := by
  unfold X12_ways_b13
  exact fi_lreturnP dX12_ways_13 rfl
def X12_ways (N : Nat) (K : am_K) (F : am_F) (I : am_I) (x0 : Int) (x1 : Int) : Option Int :=
  if x1 = 0 then (if x0 = 0 then (X12_ways_b13 N K F I 1) else (X12_ways_b13 N K F I 0)) else (X12_ways_h19 N K F I N x0 x1 1 1)
theorem w_X12_ways {η : am_E} {l : Launch} {N : Nat} {n : Nat} {K : am_K} {I : am_I} {F : am_F} {r0 : Int} {x0 : Int} {x1 : Int} : X12_ways N K F I x0 x1 = some r0 → Ok η l M_X12_ways (am_qm η (am_pS 2 (r0, I) n K F) 0 0) 0 [(0, qi x0), (1, qi x1)] [] n K I F 0 0 := by
  unfold X12_ways
  refine ok_iload_n (q := 1) 1 dX12_ways_0 rfl rfl rfl ?_
  refine ok_if_ne (q := 14) (q2 := 4) dX12_ways_1 rfl rfl ?_ ?_
  · skip
    refine ok_lconst (q := 15) (x := 1) dX12_ways_14 rfl rfl (by decide) ?_
    refine ok_lstore_n (q := 16) (ls' := [(2, ql 1), (0, qi x0), (1, qi x1)]) dX12_ways_15 rfl rfl (Nat.le_of_ble_eq_true rfl) rfl ?_
    refine ok_iconst (q := 17) (x := 1) dX12_ways_16 rfl rfl (by decide) ?_
    refine ok_istore (q := 19) (ls' := [(4, qi 1), (2, ql 1), (0, qi x0), (1, qi x1)]) dX12_ways_17 rfl (Nat.le_of_ble_eq_true rfl) rfl ?_
    exact fun g => ok_pick [2, 3, 1, 0] rfl (w_X12_ways_h19 (N := N) N _ _ _ _ g)
  · skip
    refine ok_iload_n (q := 5) 0 dX12_ways_4 rfl rfl rfl ?_
    refine ok_if_ne (q := 12) (q2 := 8) dX12_ways_5 rfl rfl ?_ ?_
    · skip
      refine ok_lconst (q := 13) (x := 0) dX12_ways_12 rfl rfl (by decide) ?_
      exact fun g => ok_pick [] rfl (w_X12_ways_b13 (N := N) g)
    · skip
      refine ok_lconst (q := 9) (x := 1) dX12_ways_8 rfl rfl (by decide) ?_
      refine ok_goto (q := 13) dX12_ways_9 rfl ?_
      exact fun g => ok_pick [] rfl (w_X12_ways_b13 (N := N) g)
theorem ct_X12_ways {η : am_E} {l : Launch} {N : Nat} {n : Nat} {K : am_K} {I : am_I} {F : am_F} {r0 : Int} {x0 : Int} {x1 : Int} : X12_ways N K F I x0 x1 = some r0 → am_Ct η l yX12_ways cX12_ways 5 (some .long) 0 0 0 0 [qi x0, qi x1] n K I F (am_pS 2 (r0, I) n K F) := fun g => am_Ct.of false (by decide) (by decide) (Nat.le_of_ble_eq_true rfl) (fun _ => w_X12_ways (N := N) g)
def M_X12_placesTo : am_M := (yX12_placesTo.cls, cX12_placesTo, 5, (some .long), am_room 2 42 0 0, false)
def X12_placesTo_s5 (N : Nat) (K : am_K) (F : am_F) (I : am_I) (a0 : Nat) (k5 : Int → Int → Int → Option Int) (x1 : Int) (x2 : Int) (x4 : Int) : Option Int :=
  if x4 ≤ x1 then (am_cq (X12_there N K F I a0) (fun v_1 => am_cq (X12_ways N K F I x4 v_1) (fun v_2 => am_lt (am_wL (x2 + v_2)) (fun x2_3 => if am_inI (x4 + 1) then am_lt (x4 + 1) (fun x4_5 => k5 x1 x2_3 x4_5) else none)))) else (some (am_wL (2 * x2)))
theorem w_X12_placesTo_s5 {η : am_E} {l : Launch} {N : Nat} {n : Nat} {K : am_K} {I : am_I} {F : am_F} {a0 : Nat} {r0 : Int} {k5 : Int → Int → Int → Option Int} {x1 : Int} {x2 : Int} {x4 : Int} (h0 : (K a0).1 = 12) (H5 : ∀ (x1 : Int) (x2 : Int) (x4 : Int), k5 x1 x2 x4 = some r0 → Ok η l M_X12_placesTo (am_qm η (am_pS 2 (r0, I) n K F) 0 0) 5 [(0, qr a0), (1, qi x1), (2, ql x2), (4, qi x4)] [] n K I F 0 0) : X12_placesTo_s5 N K F I a0 k5 x1 x2 x4 = some r0 → Ok η l M_X12_placesTo (am_qm η (am_pS 2 (r0, I) n K F) 0 0) 5 [(0, qr a0), (1, qi x1), (2, ql x2), (4, qi x4)] [] n K I F 0 0 := by
  unfold X12_placesTo_s5
  refine ok_iload (q := 7) 3 dX12_placesTo_5 rfl rfl ?_
  refine ok_iload_n (q := 8) 1 dX12_placesTo_7 rfl rfl rfl ?_
  refine ok_icmp_gt (q := 29) (q2 := 11) dX12_placesTo_8 rfl rfl ?_ ?_
  · skip
    refine ok_ldc2 (q := 32) (x := 2) (v := 2) dX12_placesTo_29 rfl kc_X12_187 rfl (by decide) ?_
    refine ok_lload_n (q := 33) 2 dX12_placesTo_32 rfl rfl rfl ?_
    refine ok_lmulW (q := 34) dX12_placesTo_33 rfl ?_
    exact fi_lreturnP dX12_placesTo_34 rfl
  · skip
    refine ok_lload_n (q := 12) 2 dX12_placesTo_11 rfl rfl rfl ?_
    refine ok_iload (q := 14) 3 dX12_placesTo_12 rfl rfl ?_
    refine ok_aload_n (q := 15) 0 dX12_placesTo_14 rfl rfl rfl ?_
    refine fi_callV1P (q := 18) (as := []) (st := [qi x4, ql x2]) dX12_placesTo_15 rfl mo_X12_180 h0 rfl (Nat.le_of_ble_eq_true rfl) rfl rfl (Nat.le_of_ble_eq_true rfl) (Nat.le_of_ble_eq_true rfl) (Nat.le_of_ble_eq_true rfl) (Nat.zero_le _) (Nat.zero_le _) (fun _ hr => ct_X12_there (N := N) h0 hr) (fun v_1 => ?_)
    refine fi_callS2P (q := 21) (as := [qi x4, qi v_1]) (st := [ql x2]) dX12_placesTo_18 rfl mo_X12_183 rfl rfl (Nat.le_of_ble_eq_true rfl) (Nat.le_of_ble_eq_true rfl) (Nat.le_of_ble_eq_true rfl) (Nat.zero_le _) (Nat.zero_le _) (fun _ hr => ct_X12_ways (N := N) hr) (fun v_2 => ?_)
    refine ok_laddW (q := 22) dX12_placesTo_21 rfl ?_
    refine ok_lstore_nL (q := 23) (fun x2_3 => [(2, ql x2_3), (0, qr a0), (1, qi x1), (4, qi x4)]) dX12_placesTo_22 rfl rfl (Nat.le_of_ble_eq_true rfl) (fun _ => rfl) (fun x2_3 => ?_)
    refine fi_chk (fun h_4 => ?_)
    refine ok_iincL (q := 26) (fun x4_5 => [(4, qi x4_5), (2, ql x2_3), (0, qr a0), (1, qi x1)]) 3 dX12_placesTo_23 rfl rfl h_4 (Nat.le_of_ble_eq_true rfl) (fun _ => rfl) (fun x4_5 => ?_)
    refine ok_goto (q := 5) dX12_placesTo_26 rfl ?_
    exact fun g => ok_pick [2, 3, 1, 0] rfl (H5 _ _ _ g)
def X12_placesTo_h5 (N : Nat) (K : am_K) (F : am_F) (I : am_I) (a0 : Nat) : Nat → Int → Int → Int → Option Int := am_it (fun kh => X12_placesTo_s5 N K F I a0 kh) (fun _ _ _ => none)
theorem w_X12_placesTo_h5 {η : am_E} {l : Launch} {N : Nat} {n : Nat} {K : am_K} {I : am_I} {F : am_F} {a0 : Nat} {r0 : Int} (h0 : (K a0).1 = 12) (f : Nat) : ∀ (x1 : Int) (x2 : Int) (x4 : Int), X12_placesTo_h5 N K F I a0 f x1 x2 x4 = some r0 → Ok η l M_X12_placesTo (am_qm η (am_pS 2 (r0, I) n K F) 0 0) 5 [(0, qr a0), (1, qi x1), (2, ql x2), (4, qi x4)] [] n K I F 0 0 := by
  induction f with
  | zero => intro x1 x2 x4 g; exact fi_none g
  | succ f ih => intro x1 x2 x4 g; exact w_X12_placesTo_s5 (N := N) h0 ih g
def X12_placesTo (N : Nat) (K : am_K) (F : am_F) (I : am_I) (a0 : Nat) (x1 : Int) : Option Int :=
  X12_placesTo_h5 N K F I a0 N x1 0 0
theorem w_X12_placesTo {η : am_E} {l : Launch} {N : Nat} {n : Nat} {K : am_K} {I : am_I} {F : am_F} {a0 : Nat} {r0 : Int} {x1 : Int} (h0 : (K a0).1 = 12) : X12_placesTo N K F I a0 x1 = some r0 → Ok η l M_X12_placesTo (am_qm η (am_pS 2 (r0, I) n K F) 0 0) 0 [(0, qr a0), (1, qi x1)] [] n K I F 0 0 := by
  unfold X12_placesTo
  refine ok_lconst (q := 1) (x := 0) dX12_placesTo_0 rfl rfl (by decide) ?_
  refine ok_lstore_n (q := 2) (ls' := [(2, ql 0), (0, qr a0), (1, qi x1)]) dX12_placesTo_1 rfl rfl (Nat.le_of_ble_eq_true rfl) rfl ?_
  refine ok_iconst (q := 3) (x := 0) dX12_placesTo_2 rfl rfl (by decide) ?_
  refine ok_istore (q := 5) (ls' := [(4, qi 0), (2, ql 0), (0, qr a0), (1, qi x1)]) dX12_placesTo_3 rfl (Nat.le_of_ble_eq_true rfl) rfl ?_
  exact fun g => ok_pick [2, 3, 1, 0] rfl (w_X12_placesTo_h5 (N := N) h0 N _ _ _ g)
theorem ct_X12_placesTo {η : am_E} {l : Launch} {N : Nat} {n : Nat} {K : am_K} {I : am_I} {F : am_F} {a0 : Nat} {r0 : Int} {x1 : Int} (h0 : (K a0).1 = 12) : X12_placesTo N K F I a0 x1 = some r0 → am_Ct η l yX12_placesTo cX12_placesTo 5 (some .long) 2 42 0 0 [qr a0, qi x1] n K I F (am_pS 2 (r0, I) n K F) := fun g => am_Ct.of false (by decide) (by decide) (Nat.le_of_ble_eq_true rfl) (fun _ => w_X12_placesTo (N := N) h0 g)
def M_X12_seedsOf : am_M := (yX12_seedsOf.cls, cX12_seedsOf, 4, (some .int), am_room 1 20 0 0, false)
def X12_seedsOf_s4 (N : Nat) (K : am_K) (F : am_F) (I : am_I) (a0 : Nat) (k4 : Nat → Int → Int → Option Int) (a1 : Nat) (x2 : Int) (x3 : Int) : Option Int :=
  am_cq (X12_all N K F I a0) (fun v_1 => if x3 < v_1 then (if (K a1).1 = 100 then if (0 : Int) ≤ x3 ∧ x3 < (K a1).2 then if am_inI (x2 + (I a1 x3)) then am_lt (x2 + (I a1 x3)) (fun x2_5 => if am_inI (x3 + 1) then am_lt (x3 + 1) (fun x3_7 => k4 a1 x2_5 x3_7) else none) else none else none else none) else (some (x2)))
theorem w_X12_seedsOf_s4 {η : am_E} {l : Launch} {N : Nat} {n : Nat} {K : am_K} {I : am_I} {F : am_F} {a0 : Nat} {r0 : Int} {k4 : Nat → Int → Int → Option Int} {a1 : Nat} {x2 : Int} {x3 : Int} (h0 : (K a0).1 = 12) (H4 : ∀ (a1 : Nat) (x2 : Int) (x3 : Int), k4 a1 x2 x3 = some r0 → Ok η l M_X12_seedsOf (am_qm η (am_pS 1 (r0, I) n K F) 0 0) 4 [(0, qr a0), (1, qr a1), (2, qi x2), (3, qi x3)] [] n K I F 0 0) : X12_seedsOf_s4 N K F I a0 k4 a1 x2 x3 = some r0 → Ok η l M_X12_seedsOf (am_qm η (am_pS 1 (r0, I) n K F) 0 0) 4 [(0, qr a0), (1, qr a1), (2, qi x2), (3, qi x3)] [] n K I F 0 0 := by
  unfold X12_seedsOf_s4
  refine ok_iload_n (q := 5) 3 dX12_seedsOf_4 rfl rfl rfl ?_
  refine ok_aload_n (q := 6) 0 dX12_seedsOf_5 rfl rfl rfl ?_
  refine fi_callV1P (q := 9) (as := []) (st := [qi x3]) dX12_seedsOf_6 rfl mo_X12_133 h0 rfl (Nat.le_of_ble_eq_true rfl) rfl rfl (Nat.le_of_ble_eq_true rfl) (Nat.le_of_ble_eq_true rfl) (Nat.le_of_ble_eq_true rfl) (Nat.zero_le _) (Nat.zero_le _) (fun _ hr => ct_X12_all (N := N) h0 hr) (fun v_1 => ?_)
  refine ok_icmp_ge (q := 24) (q2 := 12) dX12_seedsOf_9 rfl rfl ?_ ?_
  · skip
    refine ok_iload_n (q := 25) 2 dX12_seedsOf_24 rfl rfl rfl ?_
    exact fi_ireturnP dX12_seedsOf_25 rfl
  · skip
    refine ok_iload_n (q := 13) 2 dX12_seedsOf_12 rfl rfl rfl ?_
    refine ok_aload_n (q := 14) 1 dX12_seedsOf_13 rfl rfl rfl ?_
    refine ok_iload_n (q := 15) 3 dX12_seedsOf_14 rfl rfl rfl ?_
    refine fi_chk (fun h_2 => ?_)
    refine fi_chk (fun h_3 => ?_)
    refine ok_iaload (q := 16) (v := I a1 x3) dX12_seedsOf_15 rfl h_2 h_3.1 h_3.2 rfl ?_
    refine fi_chk (fun h_4 => ?_)
    refine ok_iadd (q := 17) dX12_seedsOf_16 rfl h_4 ?_
    refine ok_istore_nL (q := 18) (fun x2_5 => [(2, qi x2_5), (0, qr a0), (1, qr a1), (3, qi x3)]) dX12_seedsOf_17 rfl rfl (Nat.le_of_ble_eq_true rfl) (fun _ => rfl) (fun x2_5 => ?_)
    refine fi_chk (fun h_6 => ?_)
    refine ok_iincL (q := 21) (fun x3_7 => [(3, qi x3_7), (2, qi x2_5), (0, qr a0), (1, qr a1)]) 3 dX12_seedsOf_18 rfl rfl h_6 (Nat.le_of_ble_eq_true rfl) (fun _ => rfl) (fun x3_7 => ?_)
    refine ok_goto (q := 4) dX12_seedsOf_21 rfl ?_
    exact fun g => ok_pick [2, 3, 1, 0] rfl (H4 _ _ _ g)
def X12_seedsOf_h4 (N : Nat) (K : am_K) (F : am_F) (I : am_I) (a0 : Nat) : Nat → Nat → Int → Int → Option Int := am_it (fun kh => X12_seedsOf_s4 N K F I a0 kh) (fun _ _ _ => none)
theorem w_X12_seedsOf_h4 {η : am_E} {l : Launch} {N : Nat} {n : Nat} {K : am_K} {I : am_I} {F : am_F} {a0 : Nat} {r0 : Int} (h0 : (K a0).1 = 12) (f : Nat) : ∀ (a1 : Nat) (x2 : Int) (x3 : Int), X12_seedsOf_h4 N K F I a0 f a1 x2 x3 = some r0 → Ok η l M_X12_seedsOf (am_qm η (am_pS 1 (r0, I) n K F) 0 0) 4 [(0, qr a0), (1, qr a1), (2, qi x2), (3, qi x3)] [] n K I F 0 0 := by
  induction f with
  | zero => intro a1 x2 x3 g; exact fi_none g
  | succ f ih => intro a1 x2 x3 g; exact w_X12_seedsOf_s4 (N := N) h0 ih g
def X12_seedsOf (N : Nat) (K : am_K) (F : am_F) (I : am_I) (a0 : Nat) (a1 : Nat) : Option Int :=
  X12_seedsOf_h4 N K F I a0 N a1 0 0
theorem w_X12_seedsOf {η : am_E} {l : Launch} {N : Nat} {n : Nat} {K : am_K} {I : am_I} {F : am_F} {a0 : Nat} {r0 : Int} {a1 : Nat} (h0 : (K a0).1 = 12) : X12_seedsOf N K F I a0 a1 = some r0 → Ok η l M_X12_seedsOf (am_qm η (am_pS 1 (r0, I) n K F) 0 0) 0 [(0, qr a0), (1, qr a1)] [] n K I F 0 0 := by
  unfold X12_seedsOf
  refine ok_iconst (q := 1) (x := 0) dX12_seedsOf_0 rfl rfl (by decide) ?_
  refine ok_istore_n (q := 2) (ls' := [(2, qi 0), (0, qr a0), (1, qr a1)]) dX12_seedsOf_1 rfl rfl (Nat.le_of_ble_eq_true rfl) rfl ?_
  refine ok_iconst (q := 3) (x := 0) dX12_seedsOf_2 rfl rfl (by decide) ?_
  refine ok_istore_n (q := 4) (ls' := [(3, qi 0), (2, qi 0), (0, qr a0), (1, qr a1)]) dX12_seedsOf_3 rfl rfl (Nat.le_of_ble_eq_true rfl) rfl ?_
  exact fun g => ok_pick [2, 3, 1, 0] rfl (w_X12_seedsOf_h4 (N := N) h0 N _ _ _ g)
theorem ct_X12_seedsOf {η : am_E} {l : Launch} {N : Nat} {n : Nat} {K : am_K} {I : am_I} {F : am_F} {a0 : Nat} {r0 : Int} {a1 : Nat} (h0 : (K a0).1 = 12) : X12_seedsOf N K F I a0 a1 = some r0 → am_Ct η l yX12_seedsOf cX12_seedsOf 4 (some .int) 1 20 0 0 [qr a0, qr a1] n K I F (am_pS 1 (r0, I) n K F) := fun g => am_Ct.of false (by decide) (by decide) (Nat.le_of_ble_eq_true rfl) (fun _ => w_X12_seedsOf (N := N) h0 g)
def M_X12_placeOf : am_M := (yX12_placeOf.cls, cX12_placeOf, 9, (some .long), am_room 3 66 0 0, false)
def X12_placeOf_b100 (N : Nat) (K : am_K) (F : am_F) (I : am_I) (a0 : Nat) (k36 : Nat → Int → Int → Int → Int → Int → Option Int) (a1 : Nat) (x2 : Int) (x3 : Int) (x4 : Int) (x5 : Int) (x7 : Int) : Option Int :=
  if am_inI (x7 + 1) then am_lt (x7 + 1) (fun x7_2 => k36 a1 x2 x3 x4 x5 x7_2) else none
theorem w_X12_placeOf_b100 {η : am_E} {l : Launch} {N : Nat} {n : Nat} {K : am_K} {I : am_I} {F : am_F} {a0 : Nat} {r0 : Int} {k36 : Nat → Int → Int → Int → Int → Int → Option Int} {a1 : Nat} {x2 : Int} {x3 : Int} {x4 : Int} {x5 : Int} {x7 : Int} (h0 : (K a0).1 = 12) (H36 : ∀ (a1 : Nat) (x2 : Int) (x3 : Int) (x4 : Int) (x5 : Int) (x7 : Int), k36 a1 x2 x3 x4 x5 x7 = some r0 → Ok η l M_X12_placeOf (am_qm η (am_pS 2 (r0, I) n K F) 0 0) 36 [(0, qr a0), (1, qr a1), (2, qi x2), (3, qi x3), (4, qi x4), (5, ql x5), (7, qi x7)] [] n K I F 0 0) : X12_placeOf_b100 N K F I a0 k36 a1 x2 x3 x4 x5 x7 = some r0 → Ok η l M_X12_placeOf (am_qm η (am_pS 2 (r0, I) n K F) 0 0) 100 [(0, qr a0), (1, qr a1), (2, qi x2), (3, qi x3), (4, qi x4), (5, ql x5), (7, qi x7)] [] n K I F 0 0 := by
  unfold X12_placeOf_b100
  refine fi_chk (fun h_1 => ?_)
  refine ok_iincL (q := 103) (fun x7_2 => [(7, qi x7_2), (0, qr a0), (1, qr a1), (2, qi x2), (3, qi x3), (4, qi x4), (5, ql x5)]) 6 dX12_placeOf_100 rfl rfl h_1 (Nat.le_of_ble_eq_true rfl) (fun _ => rfl) (fun x7_2 => ?_)
  refine ok_goto (q := 36) dX12_placeOf_103 rfl ?_
  exact fun g => ok_pick [1, 2, 3, 4, 5, 6, 0] rfl (H36 _ _ _ _ _ _ g)
def X12_placeOf_s64 (N : Nat) (K : am_K) (F : am_F) (I : am_I) (a0 : Nat) (k36 : Nat → Int → Int → Int → Int → Int → Option Int) (k64 : Nat → Int → Int → Int → Int → Int → Int → Option Int) (a1 : Nat) (x2 : Int) (x3 : Int) (x4 : Int) (x5 : Int) (x7 : Int) (x8 : Int) : Option Int :=
  if (K a1).1 = 100 then if (0 : Int) ≤ x7 ∧ x7 < (K a1).2 then if x8 < (I a1 x7) then (if am_inI (x3 - x8) then am_cq (X12_ways N K F I (x3 - x8) x4) (fun v_6 => am_lt (am_wL (x5 + v_6)) (fun x5_7 => if am_inI (x8 + 1) then am_lt (x8 + 1) (fun x8_9 => k64 a1 x2 x3 x4 x5_7 x7 x8_9) else none)) else none) else (if am_inI (x3 - (I a1 x7)) then am_lt (x3 - (I a1 x7)) (fun x3_4 => X12_placeOf_b100 N K F I a0 k36 a1 x2 x3_4 x4 x5 x7) else none) else none else none
theorem w_X12_placeOf_s64 {η : am_E} {l : Launch} {N : Nat} {n : Nat} {K : am_K} {I : am_I} {F : am_F} {a0 : Nat} {r0 : Int} {k36 : Nat → Int → Int → Int → Int → Int → Option Int} {k64 : Nat → Int → Int → Int → Int → Int → Int → Option Int} {a1 : Nat} {x2 : Int} {x3 : Int} {x4 : Int} {x5 : Int} {x7 : Int} {x8 : Int} (h0 : (K a0).1 = 12) (H36 : ∀ (a1 : Nat) (x2 : Int) (x3 : Int) (x4 : Int) (x5 : Int) (x7 : Int), k36 a1 x2 x3 x4 x5 x7 = some r0 → Ok η l M_X12_placeOf (am_qm η (am_pS 2 (r0, I) n K F) 0 0) 36 [(0, qr a0), (1, qr a1), (2, qi x2), (3, qi x3), (4, qi x4), (5, ql x5), (7, qi x7)] [] n K I F 0 0) (H64 : ∀ (a1 : Nat) (x2 : Int) (x3 : Int) (x4 : Int) (x5 : Int) (x7 : Int) (x8 : Int), k64 a1 x2 x3 x4 x5 x7 x8 = some r0 → Ok η l M_X12_placeOf (am_qm η (am_pS 2 (r0, I) n K F) 0 0) 64 [(0, qr a0), (1, qr a1), (2, qi x2), (3, qi x3), (4, qi x4), (5, ql x5), (7, qi x7), (8, qi x8)] [] n K I F 0 0) : X12_placeOf_s64 N K F I a0 k36 k64 a1 x2 x3 x4 x5 x7 x8 = some r0 → Ok η l M_X12_placeOf (am_qm η (am_pS 2 (r0, I) n K F) 0 0) 64 [(0, qr a0), (1, qr a1), (2, qi x2), (3, qi x3), (4, qi x4), (5, ql x5), (7, qi x7), (8, qi x8)] [] n K I F 0 0 := by
  unfold X12_placeOf_s64
  refine ok_iload (q := 66) 7 dX12_placeOf_64 rfl rfl ?_
  refine ok_aload_n (q := 67) 1 dX12_placeOf_66 rfl rfl rfl ?_
  refine ok_iload (q := 69) 6 dX12_placeOf_67 rfl rfl ?_
  refine fi_chk (fun h_1 => ?_)
  refine fi_chk (fun h_2 => ?_)
  refine ok_iaload (q := 70) (v := I a1 x7) dX12_placeOf_69 rfl h_1 h_2.1 h_2.2 rfl ?_
  refine ok_icmp_ge (q := 93) (q2 := 73) dX12_placeOf_70 rfl rfl ?_ ?_
  · skip
    refine ok_iload_n (q := 94) 3 dX12_placeOf_93 rfl rfl rfl ?_
    refine ok_aload_n (q := 95) 1 dX12_placeOf_94 rfl rfl rfl ?_
    refine ok_iload (q := 97) 6 dX12_placeOf_95 rfl rfl ?_
    refine ok_iaload (q := 98) (v := I a1 x7) dX12_placeOf_97 rfl h_1 h_2.1 h_2.2 rfl ?_
    refine fi_chk (fun h_3 => ?_)
    refine ok_isub (q := 99) dX12_placeOf_98 rfl h_3 ?_
    refine ok_istore_nL (q := 100) (fun x3_4 => [(3, qi x3_4), (0, qr a0), (1, qr a1), (2, qi x2), (4, qi x4), (5, ql x5), (7, qi x7), (8, qi x8)]) dX12_placeOf_99 rfl rfl (Nat.le_of_ble_eq_true rfl) (fun _ => rfl) (fun x3_4 => ?_)
    exact fun g => ok_pick [1, 2, 3, 0, 4, 5, 6] rfl (w_X12_placeOf_b100 (N := N) h0 H36 g)
  · skip
    refine ok_lload (q := 75) 5 dX12_placeOf_73 rfl rfl ?_
    refine ok_iload_n (q := 76) 3 dX12_placeOf_75 rfl rfl rfl ?_
    refine ok_iload (q := 78) 7 dX12_placeOf_76 rfl rfl ?_
    refine fi_chk (fun h_5 => ?_)
    refine ok_isub (q := 79) dX12_placeOf_78 rfl h_5 ?_
    refine ok_iload (q := 81) 4 dX12_placeOf_79 rfl rfl ?_
    refine fi_callS2P (q := 84) (as := [qi (x3 - x8), qi x4]) (st := [ql x5]) dX12_placeOf_81 rfl mo_X12_183 rfl rfl (Nat.le_of_ble_eq_true rfl) (Nat.le_of_ble_eq_true rfl) (Nat.le_of_ble_eq_true rfl) (Nat.zero_le _) (Nat.zero_le _) (fun _ hr => ct_X12_ways (N := N) hr) (fun v_6 => ?_)
    refine ok_laddW (q := 85) dX12_placeOf_84 rfl ?_
    refine ok_lstoreL (q := 87) (fun x5_7 => [(5, ql x5_7), (0, qr a0), (1, qr a1), (2, qi x2), (3, qi x3), (4, qi x4), (7, qi x7), (8, qi x8)]) dX12_placeOf_85 rfl (Nat.le_of_ble_eq_true rfl) (fun _ => rfl) (fun x5_7 => ?_)
    refine fi_chk (fun h_8 => ?_)
    refine ok_iincL (q := 90) (fun x8_9 => [(8, qi x8_9), (5, ql x5_7), (0, qr a0), (1, qr a1), (2, qi x2), (3, qi x3), (4, qi x4), (7, qi x7)]) 7 dX12_placeOf_87 rfl rfl h_8 (Nat.le_of_ble_eq_true rfl) (fun _ => rfl) (fun x8_9 => ?_)
    refine ok_goto (q := 64) dX12_placeOf_90 rfl ?_
    exact fun g => ok_pick [2, 3, 4, 5, 6, 1, 7, 0] rfl (H64 _ _ _ _ _ _ _ g)
def X12_placeOf_h64 (N : Nat) (K : am_K) (F : am_F) (I : am_I) (a0 : Nat) (k36 : Nat → Int → Int → Int → Int → Int → Option Int) : Nat → Nat → Int → Int → Int → Int → Int → Int → Option Int := am_it (fun kh => X12_placeOf_s64 N K F I a0 k36 kh) (fun _ _ _ _ _ _ _ => none)
theorem w_X12_placeOf_h64 {η : am_E} {l : Launch} {N : Nat} {n : Nat} {K : am_K} {I : am_I} {F : am_F} {a0 : Nat} {r0 : Int} {k36 : Nat → Int → Int → Int → Int → Int → Option Int} (h0 : (K a0).1 = 12) (H36 : ∀ (a1 : Nat) (x2 : Int) (x3 : Int) (x4 : Int) (x5 : Int) (x7 : Int), k36 a1 x2 x3 x4 x5 x7 = some r0 → Ok η l M_X12_placeOf (am_qm η (am_pS 2 (r0, I) n K F) 0 0) 36 [(0, qr a0), (1, qr a1), (2, qi x2), (3, qi x3), (4, qi x4), (5, ql x5), (7, qi x7)] [] n K I F 0 0) (f : Nat) : ∀ (a1 : Nat) (x2 : Int) (x3 : Int) (x4 : Int) (x5 : Int) (x7 : Int) (x8 : Int), X12_placeOf_h64 N K F I a0 k36 f a1 x2 x3 x4 x5 x7 x8 = some r0 → Ok η l M_X12_placeOf (am_qm η (am_pS 2 (r0, I) n K F) 0 0) 64 [(0, qr a0), (1, qr a1), (2, qi x2), (3, qi x3), (4, qi x4), (5, ql x5), (7, qi x7), (8, qi x8)] [] n K I F 0 0 := by
  induction f with
  | zero => intro a1 x2 x3 x4 x5 x7 x8 g; exact fi_none g
  | succ f ih => intro a1 x2 x3 x4 x5 x7 x8 g; exact w_X12_placeOf_s64 (N := N) h0 H36 ih g
def X12_placeOf_s36 (N : Nat) (K : am_K) (F : am_F) (I : am_I) (a0 : Nat) (k36 : Nat → Int → Int → Int → Int → Int → Option Int) (a1 : Nat) (x2 : Int) (x3 : Int) (x4 : Int) (x5 : Int) (x7 : Int) : Option Int :=
  am_cq (X12_all N K F I a0) (fun v_1 => if x7 < v_1 then (if (K (F a0 2)).1 = 101 then if (0 : Int) ≤ x7 ∧ x7 < (K (F a0 2)).2 then if (I (F a0 2) x7) = 0 then (if am_inI (x4 + (-1)) then am_lt (x4 + (-1)) (fun x4_5 => X12_placeOf_h64 N K F I a0 k36 N a1 x2 x3 x4_5 x5 x7 0) else none) else (X12_placeOf_b100 N K F I a0 k36 a1 x2 x3 x4 x5 x7) else none else none) else (some (am_wL ((am_wL (2 * x5)) + x2))))
theorem w_X12_placeOf_s36 {η : am_E} {l : Launch} {N : Nat} {n : Nat} {K : am_K} {I : am_I} {F : am_F} {a0 : Nat} {r0 : Int} {k36 : Nat → Int → Int → Int → Int → Int → Option Int} {a1 : Nat} {x2 : Int} {x3 : Int} {x4 : Int} {x5 : Int} {x7 : Int} (h0 : (K a0).1 = 12) (H36 : ∀ (a1 : Nat) (x2 : Int) (x3 : Int) (x4 : Int) (x5 : Int) (x7 : Int), k36 a1 x2 x3 x4 x5 x7 = some r0 → Ok η l M_X12_placeOf (am_qm η (am_pS 2 (r0, I) n K F) 0 0) 36 [(0, qr a0), (1, qr a1), (2, qi x2), (3, qi x3), (4, qi x4), (5, ql x5), (7, qi x7)] [] n K I F 0 0) : X12_placeOf_s36 N K F I a0 k36 a1 x2 x3 x4 x5 x7 = some r0 → Ok η l M_X12_placeOf (am_qm η (am_pS 2 (r0, I) n K F) 0 0) 36 [(0, qr a0), (1, qr a1), (2, qi x2), (3, qi x3), (4, qi x4), (5, ql x5), (7, qi x7)] [] n K I F 0 0 := by
  unfold X12_placeOf_s36
  refine ok_iload (q := 38) 6 dX12_placeOf_36 rfl rfl ?_
  refine ok_aload_n (q := 39) 0 dX12_placeOf_38 rfl rfl rfl ?_
  refine fi_callV1P (q := 42) (as := []) (st := [qi x7]) dX12_placeOf_39 rfl mo_X12_133 h0 rfl (Nat.le_of_ble_eq_true rfl) rfl rfl (Nat.le_of_ble_eq_true rfl) (Nat.le_of_ble_eq_true rfl) (Nat.le_of_ble_eq_true rfl) (Nat.zero_le _) (Nat.zero_le _) (fun _ hr => ct_X12_all (N := N) h0 hr) (fun v_1 => ?_)
  refine ok_icmp_ge (q := 106) (q2 := 45) dX12_placeOf_42 rfl rfl ?_ ?_
  · skip
    refine ok_ldc2 (q := 109) (x := 2) (v := 2) dX12_placeOf_106 rfl kc_X12_187 rfl (by decide) ?_
    refine ok_lload (q := 111) 5 dX12_placeOf_109 rfl rfl ?_
    refine ok_lmulW (q := 112) dX12_placeOf_111 rfl ?_
    refine ok_iload_n (q := 113) 2 dX12_placeOf_112 rfl rfl rfl ?_
    refine ok_i2l (q := 114) dX12_placeOf_113 rfl ?_
    refine ok_laddW (q := 115) dX12_placeOf_114 rfl ?_
    exact fi_lreturnP dX12_placeOf_115 rfl
  · skip
    refine ok_aload_n (q := 46) 0 dX12_placeOf_45 rfl rfl rfl ?_
    refine ok_getR (q := 49) (ci := 12) (k := 2) (x := F a0 2) dX12_placeOf_46 rfl fo_X12_9 h0 rfl ?_
    refine ok_iload (q := 51) 6 dX12_placeOf_49 rfl rfl ?_
    refine fi_chk (fun h_2 => ?_)
    refine fi_chk (fun h_3 => ?_)
    refine ok_baload (q := 52) (v := I (F a0 2) x7) dX12_placeOf_51 rfl h_2 h_3.1 h_3.2 rfl ?_
    refine ok_if_eq (q := 58) (q2 := 55) dX12_placeOf_52 rfl rfl ?_ ?_
    · skip
      refine fi_chk (fun h_4 => ?_)
      refine ok_iincL (q := 61) (fun x4_5 => [(4, qi x4_5), (0, qr a0), (1, qr a1), (2, qi x2), (3, qi x3), (5, ql x5), (7, qi x7)]) 4 dX12_placeOf_58 rfl rfl h_4 (Nat.le_of_ble_eq_true rfl) (fun _ => rfl) (fun x4_5 => ?_)
      refine ok_iconst (q := 62) (x := 0) dX12_placeOf_61 rfl rfl (by decide) ?_
      refine ok_istore (q := 64) (ls' := [(8, qi 0), (4, qi x4_5), (0, qr a0), (1, qr a1), (2, qi x2), (3, qi x3), (5, ql x5), (7, qi x7)]) dX12_placeOf_62 rfl (Nat.le_of_ble_eq_true rfl) rfl ?_
      exact fun g => ok_pick [2, 3, 4, 5, 1, 6, 7, 0] rfl (w_X12_placeOf_h64 (N := N) h0 H36 N _ _ _ _ _ _ _ g)
    · skip
      refine ok_goto (q := 100) dX12_placeOf_55 rfl ?_
      exact fun g => ok_pick [0, 1, 2, 3, 4, 5, 6] rfl (w_X12_placeOf_b100 (N := N) h0 H36 g)
def X12_placeOf_h36 (N : Nat) (K : am_K) (F : am_F) (I : am_I) (a0 : Nat) : Nat → Nat → Int → Int → Int → Int → Int → Option Int := am_it (fun kh => X12_placeOf_s36 N K F I a0 kh) (fun _ _ _ _ _ _ => none)
theorem w_X12_placeOf_h36 {η : am_E} {l : Launch} {N : Nat} {n : Nat} {K : am_K} {I : am_I} {F : am_F} {a0 : Nat} {r0 : Int} (h0 : (K a0).1 = 12) (f : Nat) : ∀ (a1 : Nat) (x2 : Int) (x3 : Int) (x4 : Int) (x5 : Int) (x7 : Int), X12_placeOf_h36 N K F I a0 f a1 x2 x3 x4 x5 x7 = some r0 → Ok η l M_X12_placeOf (am_qm η (am_pS 2 (r0, I) n K F) 0 0) 36 [(0, qr a0), (1, qr a1), (2, qi x2), (3, qi x3), (4, qi x4), (5, ql x5), (7, qi x7)] [] n K I F 0 0 := by
  induction f with
  | zero => intro a1 x2 x3 x4 x5 x7 g; exact fi_none g
  | succ f ih => intro a1 x2 x3 x4 x5 x7 g; exact w_X12_placeOf_s36 (N := N) h0 ih g
def X12_placeOf_b31 (N : Nat) (K : am_K) (F : am_F) (I : am_I) (a0 : Nat) (a1 : Nat) (x2 : Int) (x3 : Int) (x4 : Int) (s0 : Int) : Option Int :=
  X12_placeOf_h36 N K F I a0 N a1 x2 x3 x4 s0 0
theorem w_X12_placeOf_b31 {η : am_E} {l : Launch} {N : Nat} {n : Nat} {K : am_K} {I : am_I} {F : am_F} {a0 : Nat} {r0 : Int} {a1 : Nat} {x2 : Int} {x3 : Int} {x4 : Int} {s0 : Int} (h0 : (K a0).1 = 12) : X12_placeOf_b31 N K F I a0 a1 x2 x3 x4 s0 = some r0 → Ok η l M_X12_placeOf (am_qm η (am_pS 2 (r0, I) n K F) 0 0) 31 [(0, qr a0), (1, qr a1), (2, qi x2), (3, qi x3), (4, qi x4)] [ql s0] n K I F 0 0 := by
  unfold X12_placeOf_b31
  refine ok_lstore (q := 33) (ls' := [(5, ql s0), (0, qr a0), (1, qr a1), (2, qi x2), (3, qi x3), (4, qi x4)]) dX12_placeOf_31 rfl (Nat.le_of_ble_eq_true rfl) rfl ?_
  refine ok_iconst (q := 34) (x := 0) dX12_placeOf_33 rfl rfl (by decide) ?_
  refine ok_istore (q := 36) (ls' := [(7, qi 0), (5, ql s0), (0, qr a0), (1, qr a1), (2, qi x2), (3, qi x3), (4, qi x4)]) dX12_placeOf_34 rfl (Nat.le_of_ble_eq_true rfl) rfl ?_
  exact fun g => ok_pick [2, 3, 4, 5, 6, 1, 0] rfl (w_X12_placeOf_h36 (N := N) h0 N _ _ _ _ _ _ g)
def X12_placeOf (N : Nat) (K : am_K) (F : am_F) (I : am_I) (a0 : Nat) (a1 : Nat) (x2 : Int) : Option Int :=
  am_cq (X12_seedsOf N K F I a0 a1) (fun v_1 => am_cq (X12_there N K F I a0) (fun v_2 => if v_1 = 0 then (X12_placeOf_b31 N K F I a0 a1 x2 v_1 v_2 0) else (if am_inI (v_1 - 1) then am_cq (X12_placesTo N K F I a0 (v_1 - 1)) (fun v_4 => if 2 ≠ (0 : Int) then X12_placeOf_b31 N K F I a0 a1 x2 v_1 v_2 (am_ldiv v_4 2) else none) else none)))
theorem w_X12_placeOf {η : am_E} {l : Launch} {N : Nat} {n : Nat} {K : am_K} {I : am_I} {F : am_F} {a0 : Nat} {r0 : Int} {a1 : Nat} {x2 : Int} (h0 : (K a0).1 = 12) : X12_placeOf N K F I a0 a1 x2 = some r0 → Ok η l M_X12_placeOf (am_qm η (am_pS 2 (r0, I) n K F) 0 0) 0 [(0, qr a0), (1, qr a1), (2, qi x2)] [] n K I F 0 0 := by
  unfold X12_placeOf
  refine ok_aload_n (q := 1) 0 dX12_placeOf_0 rfl rfl rfl ?_
  refine ok_aload_n (q := 2) 1 dX12_placeOf_1 rfl rfl rfl ?_
  refine fi_callV1P (q := 5) (as := [qr a1]) (st := []) dX12_placeOf_2 rfl mo_X12_189 h0 rfl (Nat.le_of_ble_eq_true rfl) rfl rfl (Nat.le_of_ble_eq_true rfl) (Nat.le_of_ble_eq_true rfl) (Nat.le_of_ble_eq_true rfl) (Nat.zero_le _) (Nat.zero_le _) (fun _ hr => ct_X12_seedsOf (N := N) h0 hr) (fun v_1 => ?_)
  refine ok_istore_n (q := 6) (ls' := [(3, qi v_1), (0, qr a0), (1, qr a1), (2, qi x2)]) dX12_placeOf_5 rfl rfl (Nat.le_of_ble_eq_true rfl) rfl ?_
  refine ok_aload_n (q := 7) 1 dX12_placeOf_6 rfl rfl rfl ?_
  refine fi_callV1P (q := 10) (as := []) (st := []) dX12_placeOf_7 rfl mo_X12_180 h0 rfl (Nat.le_of_ble_eq_true rfl) rfl rfl (Nat.le_of_ble_eq_true rfl) (Nat.le_of_ble_eq_true rfl) (Nat.le_of_ble_eq_true rfl) (Nat.zero_le _) (Nat.zero_le _) (fun _ hr => ct_X12_there (N := N) h0 hr) (fun v_2 => ?_)
  refine ok_istore (q := 12) (ls' := [(4, qi v_2), (3, qi v_1), (0, qr a0), (1, qr a1), (2, qi x2)]) dX12_placeOf_10 rfl (Nat.le_of_ble_eq_true rfl) rfl ?_
  refine ok_iload_n (q := 13) 1 dX12_placeOf_12 rfl rfl rfl ?_
  refine ok_if_ne (q := 20) (q2 := 16) dX12_placeOf_13 rfl rfl ?_ ?_
  · skip
    refine ok_aload_n (q := 21) 2 dX12_placeOf_20 rfl rfl rfl ?_
    refine ok_iload_n (q := 22) 1 dX12_placeOf_21 rfl rfl rfl ?_
    refine ok_iconst (q := 23) (x := 1) dX12_placeOf_22 rfl rfl (by decide) ?_
    refine fi_chk (fun h_3 => ?_)
    refine ok_isub (q := 24) dX12_placeOf_23 rfl h_3 ?_
    refine fi_callV2P (q := 27) (as := [qi (v_1 - 1)]) (st := []) dX12_placeOf_24 rfl mo_X12_193 h0 rfl (Nat.le_of_ble_eq_true rfl) rfl rfl (Nat.le_of_ble_eq_true rfl) (Nat.le_of_ble_eq_true rfl) (Nat.le_of_ble_eq_true rfl) (Nat.zero_le _) (Nat.zero_le _) (fun _ hr => ct_X12_placesTo (N := N) h0 hr) (fun v_4 => ?_)
    refine ok_ldc2 (q := 30) (x := 2) (v := 2) dX12_placeOf_27 rfl kc_X12_187 rfl (by decide) ?_
    refine fi_chk (fun h_5 => ?_)
    refine ok_ldiv (q := 31) (r := am_ldiv v_4 2) dX12_placeOf_30 rfl h_5 rfl ?_
    exact fun g => ok_pick [2, 3, 4, 1, 0] rfl (w_X12_placeOf_b31 (N := N) h0 g)
  · skip
    refine ok_lconst (q := 17) (x := 0) dX12_placeOf_16 rfl rfl (by decide) ?_
    refine ok_goto (q := 31) dX12_placeOf_17 rfl ?_
    exact fun g => ok_pick [2, 3, 4, 1, 0] rfl (w_X12_placeOf_b31 (N := N) h0 g)
theorem ct_X12_placeOf {η : am_E} {l : Launch} {N : Nat} {n : Nat} {K : am_K} {I : am_I} {F : am_F} {a0 : Nat} {r0 : Int} {a1 : Nat} {x2 : Int} (h0 : (K a0).1 = 12) : X12_placeOf N K F I a0 a1 x2 = some r0 → am_Ct η l yX12_placeOf cX12_placeOf 9 (some .long) 3 66 0 0 [qr a0, qr a1, qi x2] n K I F (am_pS 2 (r0, I) n K F) := fun g => am_Ct.of false (by decide) (by decide) (Nat.le_of_ble_eq_true rfl) (fun _ => w_X12_placeOf (N := N) h0 g)
def M_X12_layOut : am_M := (yX12_layOut.cls, cX12_layOut, 8, (some .int), am_room 3 66 0 0, false)
def X12_layOut_b123 (N : Nat) (K : am_K) (F : am_F) (a0 : Nat) (k50 : am_I → Int → Int → Int → Int → Int → Option (Int × am_I)) (I : am_I) (x1 : Int) (x3 : Int) (x4 : Int) (x6 : Int) (x7 : Int) : Option (Int × am_I) :=
  if am_inI (x7 + 1) then am_lt (x7 + 1) (fun x7_2 => k50 I x1 x3 x4 x6 x7_2) else none
theorem w_X12_layOut_b123 {η : am_E} {l : Launch} {N : Nat} {n : Nat} {K : am_K} {I : am_I} {F : am_F} {a0 : Nat} {r0 : Int × am_I} {k50 : am_I → Int → Int → Int → Int → Int → Option (Int × am_I)} {x1 : Int} {x3 : Int} {x4 : Int} {x6 : Int} {x7 : Int} (h0 : (K a0).1 = 12) (H50 : ∀ (I : am_I) (x1 : Int) (x3 : Int) (x4 : Int) (x6 : Int) (x7 : Int), k50 I x1 x3 x4 x6 x7 = some r0 → Ok η l M_X12_layOut (am_qm η (am_pS 1 r0 n K F) 0 0) 50 [(0, qr a0), (1, ql x1), (3, qi x3), (4, ql x4), (6, qi x6), (7, qi x7)] [] n K I F 0 0) : X12_layOut_b123 N K F a0 k50 I x1 x3 x4 x6 x7 = some r0 → Ok η l M_X12_layOut (am_qm η (am_pS 1 r0 n K F) 0 0) 123 [(0, qr a0), (1, ql x1), (3, qi x3), (4, ql x4), (6, qi x6), (7, qi x7)] [] n K I F 0 0 := by
  unfold X12_layOut_b123
  refine fi_chk (fun h_1 => ?_)
  refine ok_iincL (q := 126) (fun x7_2 => [(7, qi x7_2), (0, qr a0), (1, ql x1), (3, qi x3), (4, ql x4), (6, qi x6)]) 5 dX12_layOut_123 rfl rfl h_1 (Nat.le_of_ble_eq_true rfl) (fun _ => rfl) (fun x7_2 => ?_)
  refine ok_goto (q := 50) dX12_layOut_126 rfl ?_
  exact fun g => ok_pick [1, 2, 3, 4, 5, 0] rfl (H50 _ _ _ _ _ _ g)
def X12_layOut_s83 (N : Nat) (K : am_K) (F : am_F) (a0 : Nat) (k50 : am_I → Int → Int → Int → Int → Int → Option (Int × am_I)) (k83 : am_I → Int → Int → Int → Int → Int → Option (Int × am_I)) (I : am_I) (x1 : Int) (x3 : Int) (x4 : Int) (x6 : Int) (x7 : Int) : Option (Int × am_I) :=
  am_cq (X12_ways N K F I x3 x6) (fun v_1 => if 0 ≤ (am_cmp x4 v_1) then (am_cq (X12_ways N K F I x3 x6) (fun v_2 => am_lt (am_wL (x4 - v_2)) (fun x4_3 => if (K (F a0 20)).1 = 100 then if (0 : Int) ≤ x7 ∧ x7 < (K (F a0 20)).2 then if am_inI ((I (F a0 20) x7) + 1) then if F a0 20 ≠ 1 then am_lt (am_u2 I (F a0 20) x7 ((I (F a0 20) x7) + 1)) (fun I_8 => if am_inI (x3 + (-1)) then am_lt (x3 + (-1)) (fun x3_10 => k83 I_8 x1 x3_10 x4_3 x6 x7) else none) else none else none else none else none))) else (X12_layOut_b123 N K F a0 k50 I x1 x3 x4 x6 x7))
theorem w_X12_layOut_s83 {η : am_E} {l : Launch} {N : Nat} {n : Nat} {K : am_K} {I : am_I} {F : am_F} {a0 : Nat} {r0 : Int × am_I} {k50 : am_I → Int → Int → Int → Int → Int → Option (Int × am_I)} {k83 : am_I → Int → Int → Int → Int → Int → Option (Int × am_I)} {x1 : Int} {x3 : Int} {x4 : Int} {x6 : Int} {x7 : Int} (h0 : (K a0).1 = 12) (H50 : ∀ (I : am_I) (x1 : Int) (x3 : Int) (x4 : Int) (x6 : Int) (x7 : Int), k50 I x1 x3 x4 x6 x7 = some r0 → Ok η l M_X12_layOut (am_qm η (am_pS 1 r0 n K F) 0 0) 50 [(0, qr a0), (1, ql x1), (3, qi x3), (4, ql x4), (6, qi x6), (7, qi x7)] [] n K I F 0 0) (H83 : ∀ (I : am_I) (x1 : Int) (x3 : Int) (x4 : Int) (x6 : Int) (x7 : Int), k83 I x1 x3 x4 x6 x7 = some r0 → Ok η l M_X12_layOut (am_qm η (am_pS 1 r0 n K F) 0 0) 83 [(0, qr a0), (1, ql x1), (3, qi x3), (4, ql x4), (6, qi x6), (7, qi x7)] [] n K I F 0 0) : X12_layOut_s83 N K F a0 k50 k83 I x1 x3 x4 x6 x7 = some r0 → Ok η l M_X12_layOut (am_qm η (am_pS 1 r0 n K F) 0 0) 83 [(0, qr a0), (1, ql x1), (3, qi x3), (4, ql x4), (6, qi x6), (7, qi x7)] [] n K I F 0 0 := by
  unfold X12_layOut_s83
  refine ok_lload (q := 85) 3 dX12_layOut_83 rfl rfl ?_
  refine ok_iload_n (q := 86) 2 dX12_layOut_85 rfl rfl rfl ?_
  refine ok_iload (q := 88) 4 dX12_layOut_86 rfl rfl ?_
  refine fi_callS2P (q := 91) (as := [qi x3, qi x6]) (st := [ql x4]) dX12_layOut_88 rfl mo_X12_183 rfl rfl (Nat.le_of_ble_eq_true rfl) (Nat.le_of_ble_eq_true rfl) (Nat.le_of_ble_eq_true rfl) (Nat.zero_le _) (Nat.zero_le _) (fun _ hr => ct_X12_ways (N := N) hr) (fun v_1 => ?_)
  refine ok_lcmp (q := 92) dX12_layOut_91 rfl ?_
  refine ok_if_lt (q := 123) (q2 := 95) dX12_layOut_92 rfl rfl ?_ ?_
  · skip
    exact fun g => ok_pick [0, 1, 2, 3, 4, 5] rfl (w_X12_layOut_b123 (N := N) h0 H50 g)
  · skip
    refine ok_lload (q := 97) 3 dX12_layOut_95 rfl rfl ?_
    refine ok_iload_n (q := 98) 2 dX12_layOut_97 rfl rfl rfl ?_
    refine ok_iload (q := 100) 4 dX12_layOut_98 rfl rfl ?_
    refine fi_callS2P (q := 103) (as := [qi x3, qi x6]) (st := [ql x4]) dX12_layOut_100 rfl mo_X12_183 rfl rfl (Nat.le_of_ble_eq_true rfl) (Nat.le_of_ble_eq_true rfl) (Nat.le_of_ble_eq_true rfl) (Nat.zero_le _) (Nat.zero_le _) (fun _ hr => ct_X12_ways (N := N) hr) (fun v_2 => ?_)
    refine ok_lsubW (q := 104) dX12_layOut_103 rfl ?_
    refine ok_lstoreL (q := 106) (fun x4_3 => [(4, ql x4_3), (0, qr a0), (1, ql x1), (3, qi x3), (6, qi x6), (7, qi x7)]) dX12_layOut_104 rfl (Nat.le_of_ble_eq_true rfl) (fun _ => rfl) (fun x4_3 => ?_)
    refine ok_aload_n (q := 107) 1 dX12_layOut_106 rfl rfl rfl ?_
    refine ok_getR (q := 110) (ci := 12) (k := 20) (x := F a0 20) dX12_layOut_107 rfl fo_X12_29 h0 rfl ?_
    refine ok_iload (q := 112) 5 dX12_layOut_110 rfl rfl ?_
    refine ok_dup2 (q := 113) dX12_layOut_112 rfl rfl rfl ?_
    refine fi_chk (fun h_4 => ?_)
    refine fi_chk (fun h_5 => ?_)
    refine ok_iaload (q := 114) (v := I (F a0 20) x7) dX12_layOut_113 rfl h_4 h_5.1 h_5.2 rfl ?_
    refine ok_iconst (q := 115) (x := 1) dX12_layOut_114 rfl rfl (by decide) ?_
    refine fi_chk (fun h_6 => ?_)
    refine ok_iadd (q := 116) dX12_layOut_115 rfl h_6 ?_
    refine fi_chk (fun h_7 => ?_)
    refine ok_iastore (q := 117) dX12_layOut_116 rfl h_4 h_7 h_5.1 h_5.2 (fun I_8 => ?_)
    refine fi_chk (fun h_9 => ?_)
    refine ok_iincL (q := 120) (fun x3_10 => [(3, qi x3_10), (4, ql x4_3), (0, qr a0), (1, ql x1), (6, qi x6), (7, qi x7)]) 3 dX12_layOut_117 rfl rfl h_9 (Nat.le_of_ble_eq_true rfl) (fun _ => rfl) (fun x3_10 => ?_)
    refine ok_goto (q := 83) dX12_layOut_120 rfl ?_
    exact fun g => ok_pick [2, 3, 0, 1, 4, 5] rfl (H83 _ _ _ _ _ _ g)
def X12_layOut_h83 (N : Nat) (K : am_K) (F : am_F) (a0 : Nat) (k50 : am_I → Int → Int → Int → Int → Int → Option (Int × am_I)) : Nat → am_I → Int → Int → Int → Int → Int → Option (Int × am_I) := am_it (fun kh => X12_layOut_s83 N K F a0 k50 kh) (fun _ _ _ _ _ _ => none)
theorem w_X12_layOut_h83 {η : am_E} {l : Launch} {N : Nat} {n : Nat} {K : am_K} {F : am_F} {a0 : Nat} {r0 : Int × am_I} {k50 : am_I → Int → Int → Int → Int → Int → Option (Int × am_I)} (h0 : (K a0).1 = 12) (H50 : ∀ (I : am_I) (x1 : Int) (x3 : Int) (x4 : Int) (x6 : Int) (x7 : Int), k50 I x1 x3 x4 x6 x7 = some r0 → Ok η l M_X12_layOut (am_qm η (am_pS 1 r0 n K F) 0 0) 50 [(0, qr a0), (1, ql x1), (3, qi x3), (4, ql x4), (6, qi x6), (7, qi x7)] [] n K I F 0 0) (f : Nat) : ∀ (I : am_I) (x1 : Int) (x3 : Int) (x4 : Int) (x6 : Int) (x7 : Int), X12_layOut_h83 N K F a0 k50 f I x1 x3 x4 x6 x7 = some r0 → Ok η l M_X12_layOut (am_qm η (am_pS 1 r0 n K F) 0 0) 83 [(0, qr a0), (1, ql x1), (3, qi x3), (4, ql x4), (6, qi x6), (7, qi x7)] [] n K I F 0 0 := by
  induction f with
  | zero => intro I x1 x3 x4 x6 x7 g; exact fi_none g
  | succ f ih => intro I x1 x3 x4 x6 x7 g; exact w_X12_layOut_s83 (N := N) h0 H50 ih g
def X12_layOut_s50 (N : Nat) (K : am_K) (F : am_F) (a0 : Nat) (k50 : am_I → Int → Int → Int → Int → Int → Option (Int × am_I)) (I : am_I) (x1 : Int) (x3 : Int) (x4 : Int) (x6 : Int) (x7 : Int) : Option (Int × am_I) :=
  am_cq (X12_all N K F I a0) (fun v_1 => if x7 < v_1 then (if (K (F a0 20)).1 = 100 then if F a0 20 ≠ 1 then if (0 : Int) ≤ x7 ∧ x7 < (K (F a0 20)).2 then am_lt (am_u2 I (F a0 20) x7 0) (fun I_7 => if (K (F a0 2)).1 = 101 then if (0 : Int) ≤ x7 ∧ x7 < (K (F a0 2)).2 then if (I_7 (F a0 2) x7) = 0 then (if am_inI (x6 + (-1)) then am_lt (x6 + (-1)) (fun x6_11 => X12_layOut_h83 N K F a0 k50 N I_7 x1 x3 x4 x6_11 x7) else none) else (X12_layOut_b123 N K F a0 k50 I_7 x1 x3 x4 x6 x7) else none else none) else none else none else none) else (if 2 ≠ (0 : Int) then if am_inI (am_lrem x1 2) then some (am_lrem x1 2, I) else none else none))
theorem w_X12_layOut_s50 {η : am_E} {l : Launch} {N : Nat} {n : Nat} {K : am_K} {I : am_I} {F : am_F} {a0 : Nat} {r0 : Int × am_I} {k50 : am_I → Int → Int → Int → Int → Int → Option (Int × am_I)} {x1 : Int} {x3 : Int} {x4 : Int} {x6 : Int} {x7 : Int} (h0 : (K a0).1 = 12) (H50 : ∀ (I : am_I) (x1 : Int) (x3 : Int) (x4 : Int) (x6 : Int) (x7 : Int), k50 I x1 x3 x4 x6 x7 = some r0 → Ok η l M_X12_layOut (am_qm η (am_pS 1 r0 n K F) 0 0) 50 [(0, qr a0), (1, ql x1), (3, qi x3), (4, ql x4), (6, qi x6), (7, qi x7)] [] n K I F 0 0) : X12_layOut_s50 N K F a0 k50 I x1 x3 x4 x6 x7 = some r0 → Ok η l M_X12_layOut (am_qm η (am_pS 1 r0 n K F) 0 0) 50 [(0, qr a0), (1, ql x1), (3, qi x3), (4, ql x4), (6, qi x6), (7, qi x7)] [] n K I F 0 0 := by
  unfold X12_layOut_s50
  refine ok_iload (q := 52) 5 dX12_layOut_50 rfl rfl ?_
  refine ok_aload_n (q := 53) 0 dX12_layOut_52 rfl rfl rfl ?_
  refine fi_callV1P (q := 56) (as := []) (st := [qi x7]) dX12_layOut_53 rfl mo_X12_133 h0 rfl (Nat.le_of_ble_eq_true rfl) rfl rfl (Nat.le_of_ble_eq_true rfl) (Nat.le_of_ble_eq_true rfl) (Nat.le_of_ble_eq_true rfl) (Nat.zero_le _) (Nat.zero_le _) (fun _ hr => ct_X12_all (N := N) h0 hr) (fun v_1 => ?_)
  refine ok_icmp_ge (q := 129) (q2 := 59) dX12_layOut_56 rfl rfl ?_ ?_
  · skip
    refine ok_lload_n (q := 130) 1 dX12_layOut_129 rfl rfl rfl ?_
    refine ok_ldc2 (q := 133) (x := 2) (v := 2) dX12_layOut_130 rfl kc_X12_187 rfl (by decide) ?_
    refine fi_chk (fun h_2 => ?_)
    refine ok_lrem (q := 134) (r := am_lrem x1 2) dX12_layOut_133 rfl h_2 rfl ?_
    refine fi_chk (fun h_3 => ?_)
    refine ok_l2i (q := 135) dX12_layOut_134 rfl h_3 ?_
    exact fi_ireturnS dX12_layOut_135 rfl
  · skip
    refine ok_aload_n (q := 60) 0 dX12_layOut_59 rfl rfl rfl ?_
    refine ok_getR (q := 63) (ci := 12) (k := 20) (x := F a0 20) dX12_layOut_60 rfl fo_X12_29 h0 rfl ?_
    refine ok_iload (q := 65) 5 dX12_layOut_63 rfl rfl ?_
    refine ok_iconst (q := 66) (x := 0) dX12_layOut_65 rfl rfl (by decide) ?_
    refine fi_chk (fun h_4 => ?_)
    refine fi_chk (fun h_5 => ?_)
    refine fi_chk (fun h_6 => ?_)
    refine ok_iastore (q := 67) dX12_layOut_66 rfl h_4 h_5 h_6.1 h_6.2 (fun I_7 => ?_)
    refine ok_aload_n (q := 68) 0 dX12_layOut_67 rfl rfl rfl ?_
    refine ok_getR (q := 71) (ci := 12) (k := 2) (x := F a0 2) dX12_layOut_68 rfl fo_X12_9 h0 rfl ?_
    refine ok_iload (q := 73) 5 dX12_layOut_71 rfl rfl ?_
    refine fi_chk (fun h_8 => ?_)
    refine fi_chk (fun h_9 => ?_)
    refine ok_baload (q := 74) (v := I_7 (F a0 2) x7) dX12_layOut_73 rfl h_8 h_9.1 h_9.2 rfl ?_
    refine ok_if_eq (q := 80) (q2 := 77) dX12_layOut_74 rfl rfl ?_ ?_
    · skip
      refine fi_chk (fun h_10 => ?_)
      refine ok_iincL (q := 83) (fun x6_11 => [(6, qi x6_11), (0, qr a0), (1, ql x1), (3, qi x3), (4, ql x4), (7, qi x7)]) 4 dX12_layOut_80 rfl rfl h_10 (Nat.le_of_ble_eq_true rfl) (fun _ => rfl) (fun x6_11 => ?_)
      exact fun g => ok_pick [1, 2, 3, 4, 0, 5] rfl (w_X12_layOut_h83 (N := N) h0 H50 N _ _ _ _ _ _ g)
    · skip
      refine ok_goto (q := 123) dX12_layOut_77 rfl ?_
      exact fun g => ok_pick [0, 1, 2, 3, 4, 5] rfl (w_X12_layOut_b123 (N := N) h0 H50 g)
def X12_layOut_h50 (N : Nat) (K : am_K) (F : am_F) (a0 : Nat) : Nat → am_I → Int → Int → Int → Int → Int → Option (Int × am_I) := am_it (fun kh => X12_layOut_s50 N K F a0 kh) (fun _ _ _ _ _ _ => none)
theorem w_X12_layOut_h50 {η : am_E} {l : Launch} {N : Nat} {n : Nat} {K : am_K} {F : am_F} {a0 : Nat} {r0 : Int × am_I} (h0 : (K a0).1 = 12) (f : Nat) : ∀ (I : am_I) (x1 : Int) (x3 : Int) (x4 : Int) (x6 : Int) (x7 : Int), X12_layOut_h50 N K F a0 f I x1 x3 x4 x6 x7 = some r0 → Ok η l M_X12_layOut (am_qm η (am_pS 1 r0 n K F) 0 0) 50 [(0, qr a0), (1, ql x1), (3, qi x3), (4, ql x4), (6, qi x6), (7, qi x7)] [] n K I F 0 0 := by
  induction f with
  | zero => intro I x1 x3 x4 x6 x7 g; exact fi_none g
  | succ f ih => intro I x1 x3 x4 x6 x7 g; exact w_X12_layOut_s50 (N := N) h0 ih g
def X12_layOut_b34 (N : Nat) (K : am_K) (F : am_F) (a0 : Nat) (I : am_I) (x1 : Int) (x3 : Int) (s0 : Int) (s1 : Int) : Option (Int × am_I) :=
  if 2 ≠ (0 : Int) then am_lt (am_ldiv (am_wL (s1 - s0)) 2) (fun x4_2 => am_cq (X12_there N K F I a0) (fun v_3 => X12_layOut_h50 N K F a0 N I x1 x3 x4_2 v_3 0)) else none
theorem w_X12_layOut_b34 {η : am_E} {l : Launch} {N : Nat} {n : Nat} {K : am_K} {I : am_I} {F : am_F} {a0 : Nat} {r0 : Int × am_I} {x1 : Int} {x3 : Int} {s0 : Int} {s1 : Int} (h0 : (K a0).1 = 12) : X12_layOut_b34 N K F a0 I x1 x3 s0 s1 = some r0 → Ok η l M_X12_layOut (am_qm η (am_pS 1 r0 n K F) 0 0) 34 [(0, qr a0), (1, ql x1), (3, qi x3)] [ql s0, ql s1] n K I F 0 0 := by
  unfold X12_layOut_b34
  refine ok_lsubW (q := 35) dX12_layOut_34 rfl ?_
  refine ok_ldc2 (q := 38) (x := 2) (v := 2) dX12_layOut_35 rfl kc_X12_187 rfl (by decide) ?_
  refine fi_chk (fun h_1 => ?_)
  refine ok_ldiv (q := 39) (r := am_ldiv (am_wL (s1 - s0)) 2) dX12_layOut_38 rfl h_1 rfl ?_
  refine ok_lstoreL (q := 41) (fun x4_2 => [(4, ql x4_2), (0, qr a0), (1, ql x1), (3, qi x3)]) dX12_layOut_39 rfl (Nat.le_of_ble_eq_true rfl) (fun _ => rfl) (fun x4_2 => ?_)
  refine ok_aload_n (q := 42) 1 dX12_layOut_41 rfl rfl rfl ?_
  refine fi_callV1P (q := 45) (as := []) (st := []) dX12_layOut_42 rfl mo_X12_180 h0 rfl (Nat.le_of_ble_eq_true rfl) rfl rfl (Nat.le_of_ble_eq_true rfl) (Nat.le_of_ble_eq_true rfl) (Nat.le_of_ble_eq_true rfl) (Nat.zero_le _) (Nat.zero_le _) (fun _ hr => ct_X12_there (N := N) h0 hr) (fun v_3 => ?_)
  refine ok_istore (q := 47) (ls' := [(6, qi v_3), (4, ql x4_2), (0, qr a0), (1, ql x1), (3, qi x3)]) dX12_layOut_45 rfl (Nat.le_of_ble_eq_true rfl) rfl ?_
  refine ok_iconst (q := 48) (x := 0) dX12_layOut_47 rfl rfl (by decide) ?_
  refine ok_istore (q := 50) (ls' := [(7, qi 0), (6, qi v_3), (4, ql x4_2), (0, qr a0), (1, ql x1), (3, qi x3)]) dX12_layOut_48 rfl (Nat.le_of_ble_eq_true rfl) rfl ?_
  exact fun g => ok_pick [3, 4, 5, 2, 1, 0] rfl (w_X12_layOut_h50 (N := N) h0 N _ _ _ _ _ _ g)
def X12_layOut_s2 (N : Nat) (K : am_K) (F : am_F) (a0 : Nat) (k2 : am_I → Int → Int → Option (Int × am_I)) (I : am_I) (x1 : Int) (x3 : Int) : Option (Int × am_I) :=
  am_cq (X12_placesTo N K F I a0 x3) (fun v_1 => if (am_cmp v_1 x1) ≤ 0 then (if am_inI (x3 + 1) then am_lt (x3 + 1) (fun x3_5 => k2 I x1 x3_5) else none) else (if x3 = 0 then (X12_layOut_b34 N K F a0 I x1 x3 0 x1) else (if am_inI (x3 - 1) then am_cq (X12_placesTo N K F I a0 (x3 - 1)) (fun v_3 => X12_layOut_b34 N K F a0 I x1 x3 v_3 x1) else none)))
theorem w_X12_layOut_s2 {η : am_E} {l : Launch} {N : Nat} {n : Nat} {K : am_K} {I : am_I} {F : am_F} {a0 : Nat} {r0 : Int × am_I} {k2 : am_I → Int → Int → Option (Int × am_I)} {x1 : Int} {x3 : Int} (h0 : (K a0).1 = 12) (H2 : ∀ (I : am_I) (x1 : Int) (x3 : Int), k2 I x1 x3 = some r0 → Ok η l M_X12_layOut (am_qm η (am_pS 1 r0 n K F) 0 0) 2 [(0, qr a0), (1, ql x1), (3, qi x3)] [] n K I F 0 0) : X12_layOut_s2 N K F a0 k2 I x1 x3 = some r0 → Ok η l M_X12_layOut (am_qm η (am_pS 1 r0 n K F) 0 0) 2 [(0, qr a0), (1, ql x1), (3, qi x3)] [] n K I F 0 0 := by
  unfold X12_layOut_s2
  refine ok_aload_n (q := 3) 0 dX12_layOut_2 rfl rfl rfl ?_
  refine ok_iload_n (q := 4) 2 dX12_layOut_3 rfl rfl rfl ?_
  refine fi_callV2P (q := 7) (as := [qi x3]) (st := []) dX12_layOut_4 rfl mo_X12_193 h0 rfl (Nat.le_of_ble_eq_true rfl) rfl rfl (Nat.le_of_ble_eq_true rfl) (Nat.le_of_ble_eq_true rfl) (Nat.le_of_ble_eq_true rfl) (Nat.zero_le _) (Nat.zero_le _) (fun _ hr => ct_X12_placesTo (N := N) h0 hr) (fun v_1 => ?_)
  refine ok_lload_n (q := 8) 1 dX12_layOut_7 rfl rfl rfl ?_
  refine ok_lcmp (q := 9) dX12_layOut_8 rfl ?_
  refine ok_if_gt (q := 18) (q2 := 12) dX12_layOut_9 rfl rfl ?_ ?_
  · skip
    refine ok_lload_n (q := 19) 1 dX12_layOut_18 rfl rfl rfl ?_
    refine ok_iload_n (q := 20) 2 dX12_layOut_19 rfl rfl rfl ?_
    refine ok_if_ne (q := 27) (q2 := 23) dX12_layOut_20 rfl rfl ?_ ?_
    · skip
      refine ok_aload_n (q := 28) 0 dX12_layOut_27 rfl rfl rfl ?_
      refine ok_iload_n (q := 29) 2 dX12_layOut_28 rfl rfl rfl ?_
      refine ok_iconst (q := 30) (x := 1) dX12_layOut_29 rfl rfl (by decide) ?_
      refine fi_chk (fun h_2 => ?_)
      refine ok_isub (q := 31) dX12_layOut_30 rfl h_2 ?_
      refine fi_callV2P (q := 34) (as := [qi (x3 - 1)]) (st := [ql x1]) dX12_layOut_31 rfl mo_X12_193 h0 rfl (Nat.le_of_ble_eq_true rfl) rfl rfl (Nat.le_of_ble_eq_true rfl) (Nat.le_of_ble_eq_true rfl) (Nat.le_of_ble_eq_true rfl) (Nat.zero_le _) (Nat.zero_le _) (fun _ hr => ct_X12_placesTo (N := N) h0 hr) (fun v_3 => ?_)
      exact fun g => ok_pick [0, 1, 2] rfl (w_X12_layOut_b34 (N := N) h0 g)
    · skip
      refine ok_lconst (q := 24) (x := 0) dX12_layOut_23 rfl rfl (by decide) ?_
      refine ok_goto (q := 34) dX12_layOut_24 rfl ?_
      exact fun g => ok_pick [0, 1, 2] rfl (w_X12_layOut_b34 (N := N) h0 g)
  · skip
    refine fi_chk (fun h_4 => ?_)
    refine ok_iincL (q := 15) (fun x3_5 => [(3, qi x3_5), (0, qr a0), (1, ql x1)]) 2 dX12_layOut_12 rfl rfl h_4 (Nat.le_of_ble_eq_true rfl) (fun _ => rfl) (fun x3_5 => ?_)
    refine ok_goto (q := 2) dX12_layOut_15 rfl ?_
    exact fun g => ok_pick [1, 2, 0] rfl (H2 _ _ _ g)
def X12_layOut_h2 (N : Nat) (K : am_K) (F : am_F) (a0 : Nat) : Nat → am_I → Int → Int → Option (Int × am_I) := am_it (fun kh => X12_layOut_s2 N K F a0 kh) (fun _ _ _ => none)
theorem w_X12_layOut_h2 {η : am_E} {l : Launch} {N : Nat} {n : Nat} {K : am_K} {F : am_F} {a0 : Nat} {r0 : Int × am_I} (h0 : (K a0).1 = 12) (f : Nat) : ∀ (I : am_I) (x1 : Int) (x3 : Int), X12_layOut_h2 N K F a0 f I x1 x3 = some r0 → Ok η l M_X12_layOut (am_qm η (am_pS 1 r0 n K F) 0 0) 2 [(0, qr a0), (1, ql x1), (3, qi x3)] [] n K I F 0 0 := by
  induction f with
  | zero => intro I x1 x3 g; exact fi_none g
  | succ f ih => intro I x1 x3 g; exact w_X12_layOut_s2 (N := N) h0 ih g
def X12_layOut (N : Nat) (K : am_K) (F : am_F) (a0 : Nat) (I : am_I) (x1 : Int) : Option (Int × am_I) :=
  X12_layOut_h2 N K F a0 N I x1 0
theorem w_X12_layOut {η : am_E} {l : Launch} {N : Nat} {n : Nat} {K : am_K} {I : am_I} {F : am_F} {a0 : Nat} {r0 : Int × am_I} {x1 : Int} (h0 : (K a0).1 = 12) : X12_layOut N K F a0 I x1 = some r0 → Ok η l M_X12_layOut (am_qm η (am_pS 1 r0 n K F) 0 0) 0 [(0, qr a0), (1, ql x1)] [] n K I F 0 0 := by
  unfold X12_layOut
  refine ok_iconst (q := 1) (x := 0) dX12_layOut_0 rfl rfl (by decide) ?_
  refine ok_istore_n (q := 2) (ls' := [(3, qi 0), (0, qr a0), (1, ql x1)]) dX12_layOut_1 rfl rfl (Nat.le_of_ble_eq_true rfl) rfl ?_
  exact fun g => ok_pick [1, 2, 0] rfl (w_X12_layOut_h2 (N := N) h0 N _ _ _ g)
theorem ct_X12_layOut {η : am_E} {l : Launch} {N : Nat} {n : Nat} {K : am_K} {I : am_I} {F : am_F} {a0 : Nat} {r0 : Int × am_I} {x1 : Int} (h0 : (K a0).1 = 12) : X12_layOut N K F a0 I x1 = some r0 → am_Ct η l yX12_layOut cX12_layOut 8 (some .int) 3 66 0 0 [qr a0, ql x1] n K I F (am_pS 1 r0 n K F) := fun g => am_Ct.of false (by decide) (by decide) (Nat.le_of_ble_eq_true rfl) (fun _ => w_X12_layOut (N := N) h0 g)
