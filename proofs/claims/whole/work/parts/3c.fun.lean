def M_X1_linkRing : am_M := (yX1_linkRing.cls, cX1_linkRing, 5, none, am_room 0 0 0 0, false)
def X1_linkRing_b37 (N : Nat) (K : am_K) (F : am_F) (a0 : Nat) (k3 : am_I → Int → Int → Nat → Int → Option (Int × am_I)) (I : am_I) (x1 : Int) (x2 : Int) (a3 : Nat) (x4 : Int) (s0 : Int) (t1 : Nat) (s2 : Int) (t3 : Nat) : Option (Int × am_I) :=
  if (K t1).1 = 100 then if (0 : Int) ≤ s0 ∧ s0 < (K t1).2 then if (K t3).1 = 100 then if t3 ≠ 1 then if (0 : Int) ≤ s2 ∧ s2 < (K t3).2 then am_lt (am_u2 I t3 s2 (I t1 s0)) (fun I_6 => if am_inI (x4 + 1) then am_lt (x4 + 1) (fun x4_8 => k3 I_6 x1 x2 a3 x4_8) else none) else none else none else none else none else none
theorem w_X1_linkRing_b37 {η : am_E} {l : Launch} {N : Nat} {n : Nat} {K : am_K} {I : am_I} {F : am_F} {a0 : Nat} {r0 : Int × am_I} {k3 : am_I → Int → Int → Nat → Int → Option (Int × am_I)} {x1 : Int} {x2 : Int} {a3 : Nat} {x4 : Int} {s0 : Int} {t1 : Nat} {s2 : Int} {t3 : Nat} (h0 : (K a0).1 = 1) (H3 : ∀ (I : am_I) (x1 : Int) (x2 : Int) (a3 : Nat) (x4 : Int), k3 I x1 x2 a3 x4 = some r0 → Ok η l M_X1_linkRing (am_qm η (am_pS 0 r0 n K F) 0 0) 3 [(0, qr a0), (1, qi x1), (2, qi x2), (3, qr a3), (4, qi x4)] [] n K I F 0 0) : X1_linkRing_b37 N K F a0 k3 I x1 x2 a3 x4 s0 t1 s2 t3 = some r0 → Ok η l M_X1_linkRing (am_qm η (am_pS 0 r0 n K F) 0 0) 37 [(0, qr a0), (1, qi x1), (2, qi x2), (3, qr a3), (4, qi x4)] [qi s0, qr t1, qi s2, qr t3] n K I F 0 0 := by
  unfold X1_linkRing_b37
  refine fi_chk (fun h_1 => ?_)
  refine fi_chk (fun h_2 => ?_)
  refine ok_iaload (q := 38) (v := I t1 s0) dX1_linkRing_37 rfl h_1 h_2.1 h_2.2 rfl ?_
  refine fi_chk (fun h_3 => ?_)
  refine fi_chk (fun h_4 => ?_)
  refine fi_chk (fun h_5 => ?_)
  refine ok_iastore (q := 39) dX1_linkRing_38 rfl h_3 h_4 h_5.1 h_5.2 (fun I_6 => ?_)
  refine fi_chk (fun h_7 => ?_)
  refine ok_iincL (q := 42) (fun x4_8 => [(4, qi x4_8), (0, qr a0), (1, qi x1), (2, qi x2), (3, qr a3)]) 4 dX1_linkRing_39 rfl rfl h_7 (Nat.le_of_ble_eq_true rfl) (fun _ => rfl) (fun x4_8 => ?_)
  refine ok_goto (q := 3) dX1_linkRing_42 rfl ?_
  exact fun g => ok_pick [1, 2, 3, 4, 0] rfl (H3 _ _ _ _ _ g)
def X1_linkRing_s3 (N : Nat) (K : am_K) (F : am_F) (a0 : Nat) (k3 : am_I → Int → Int → Nat → Int → Option (Int × am_I)) (I : am_I) (x1 : Int) (x2 : Int) (a3 : Nat) (x4 : Int) : Option (Int × am_I) :=
  if x4 < x2 then (if (K (F a0 14)).1 = 100 then if (0 : Int) ≤ x4 ∧ x4 < (K (F a0 14)).2 then if am_inI (x4 + 1) then if (x4 + 1) < x2 then (X1_linkRing_b37 N K F a0 k3 I x1 x2 a3 x4 (x4 + 1) (F a0 14) (I (F a0 14) x4) a3) else (X1_linkRing_b37 N K F a0 k3 I x1 x2 a3 x4 x1 (F a0 14) (I (F a0 14) x4) a3) else none else none else none) else (some (0, I))
theorem w_X1_linkRing_s3 {η : am_E} {l : Launch} {N : Nat} {n : Nat} {K : am_K} {I : am_I} {F : am_F} {a0 : Nat} {r0 : Int × am_I} {k3 : am_I → Int → Int → Nat → Int → Option (Int × am_I)} {x1 : Int} {x2 : Int} {a3 : Nat} {x4 : Int} (h0 : (K a0).1 = 1) (H3 : ∀ (I : am_I) (x1 : Int) (x2 : Int) (a3 : Nat) (x4 : Int), k3 I x1 x2 a3 x4 = some r0 → Ok η l M_X1_linkRing (am_qm η (am_pS 0 r0 n K F) 0 0) 3 [(0, qr a0), (1, qi x1), (2, qi x2), (3, qr a3), (4, qi x4)] [] n K I F 0 0) : X1_linkRing_s3 N K F a0 k3 I x1 x2 a3 x4 = some r0 → Ok η l M_X1_linkRing (am_qm η (am_pS 0 r0 n K F) 0 0) 3 [(0, qr a0), (1, qi x1), (2, qi x2), (3, qr a3), (4, qi x4)] [] n K I F 0 0 := by
  unfold X1_linkRing_s3
  refine ok_iload (q := 5) 4 dX1_linkRing_3 rfl rfl ?_
  refine ok_iload_n (q := 6) 2 dX1_linkRing_5 rfl rfl rfl ?_
  refine ok_icmp_ge (q := 45) (q2 := 9) dX1_linkRing_6 rfl rfl ?_ ?_
  · skip
    exact fi_returnS dX1_linkRing_45 rfl
  · skip
    refine ok_aload_n (q := 10) 3 dX1_linkRing_9 rfl rfl rfl ?_
    refine ok_aload_n (q := 11) 0 dX1_linkRing_10 rfl rfl rfl ?_
    refine ok_getR (q := 14) (ci := 1) (k := 14) (x := F a0 14) dX1_linkRing_11 rfl fo_X1_43 h0 rfl ?_
    refine ok_iload (q := 16) 4 dX1_linkRing_14 rfl rfl ?_
    refine fi_chk (fun h_1 => ?_)
    refine fi_chk (fun h_2 => ?_)
    refine ok_iaload (q := 17) (v := I (F a0 14) x4) dX1_linkRing_16 rfl h_1 h_2.1 h_2.2 rfl ?_
    refine ok_aload_n (q := 18) 0 dX1_linkRing_17 rfl rfl rfl ?_
    refine ok_getR (q := 21) (ci := 1) (k := 14) (x := F a0 14) dX1_linkRing_18 rfl fo_X1_43 h0 rfl ?_
    refine ok_iload (q := 23) 4 dX1_linkRing_21 rfl rfl ?_
    refine ok_iconst (q := 24) (x := 1) dX1_linkRing_23 rfl rfl (by decide) ?_
    refine fi_chk (fun h_3 => ?_)
    refine ok_iadd (q := 25) dX1_linkRing_24 rfl h_3 ?_
    refine ok_iload_n (q := 26) 2 dX1_linkRing_25 rfl rfl rfl ?_
    refine ok_icmp_ge (q := 36) (q2 := 29) dX1_linkRing_26 rfl rfl ?_ ?_
    · skip
      refine ok_iload_n (q := 37) 1 dX1_linkRing_36 rfl rfl rfl ?_
      exact fun g => ok_pick [0, 1, 2, 3, 4] rfl (w_X1_linkRing_b37 (N := N) h0 H3 g)
    · skip
      refine ok_iload (q := 31) 4 dX1_linkRing_29 rfl rfl ?_
      refine ok_iconst (q := 32) (x := 1) dX1_linkRing_31 rfl rfl (by decide) ?_
      refine ok_iadd (q := 33) dX1_linkRing_32 rfl h_3 ?_
      refine ok_goto (q := 37) dX1_linkRing_33 rfl ?_
      exact fun g => ok_pick [0, 1, 2, 3, 4] rfl (w_X1_linkRing_b37 (N := N) h0 H3 g)
def X1_linkRing_h3 (N : Nat) (K : am_K) (F : am_F) (a0 : Nat) : Nat → am_I → Int → Int → Nat → Int → Option (Int × am_I) := am_it (fun kh => X1_linkRing_s3 N K F a0 kh) (fun _ _ _ _ _ => none)
theorem w_X1_linkRing_h3 {η : am_E} {l : Launch} {N : Nat} {n : Nat} {K : am_K} {F : am_F} {a0 : Nat} {r0 : Int × am_I} (h0 : (K a0).1 = 1) (f : Nat) : ∀ (I : am_I) (x1 : Int) (x2 : Int) (a3 : Nat) (x4 : Int), X1_linkRing_h3 N K F a0 f I x1 x2 a3 x4 = some r0 → Ok η l M_X1_linkRing (am_qm η (am_pS 0 r0 n K F) 0 0) 3 [(0, qr a0), (1, qi x1), (2, qi x2), (3, qr a3), (4, qi x4)] [] n K I F 0 0 := by
  induction f with
  | zero => intro I x1 x2 a3 x4 g; exact fi_none g
  | succ f ih => intro I x1 x2 a3 x4 g; exact w_X1_linkRing_s3 (N := N) h0 ih g
def X1_linkRing (N : Nat) (K : am_K) (F : am_F) (a0 : Nat) (I : am_I) (x1 : Int) (x2 : Int) (a3 : Nat) : Option (Int × am_I) :=
  X1_linkRing_h3 N K F a0 N I x1 x2 a3 x1
theorem w_X1_linkRing {η : am_E} {l : Launch} {N : Nat} {n : Nat} {K : am_K} {I : am_I} {F : am_F} {a0 : Nat} {r0 : Int × am_I} {x1 : Int} {x2 : Int} {a3 : Nat} (h0 : (K a0).1 = 1) : X1_linkRing N K F a0 I x1 x2 a3 = some r0 → Ok η l M_X1_linkRing (am_qm η (am_pS 0 r0 n K F) 0 0) 0 [(0, qr a0), (1, qi x1), (2, qi x2), (3, qr a3)] [] n K I F 0 0 := by
  unfold X1_linkRing
  refine ok_iload_n (q := 1) 1 dX1_linkRing_0 rfl rfl rfl ?_
  refine ok_istore (q := 3) (ls' := [(4, qi x1), (0, qr a0), (1, qi x1), (2, qi x2), (3, qr a3)]) dX1_linkRing_1 rfl (Nat.le_of_ble_eq_true rfl) rfl ?_
  exact fun g => ok_pick [1, 2, 3, 4, 0] rfl (w_X1_linkRing_h3 (N := N) h0 N _ _ _ _ _ g)
theorem ct_X1_linkRing {η : am_E} {l : Launch} {N : Nat} {n : Nat} {K : am_K} {I : am_I} {F : am_F} {a0 : Nat} {r0 : Int × am_I} {x1 : Int} {x2 : Int} {a3 : Nat} (h0 : (K a0).1 = 1) : X1_linkRing N K F a0 I x1 x2 a3 = some r0 → am_Ct η l yX1_linkRing cX1_linkRing 5 none 0 0 0 0 [qr a0, qi x1, qi x2, qr a3] n K I F (am_pS 0 r0 n K F) := fun g => am_Ct.of false (by decide) (by decide) (Nat.le_of_ble_eq_true rfl) (fun _ => w_X1_linkRing (N := N) h0 g)
def M_X1_layOut : am_M := (yX1_layOut.cls, cX1_layOut, 2, none, am_room 2 47 0 0, false)
def X1_layOut_s23 (N : Nat) (K : am_K) (F : am_F) (a0 : Nat) (k23 : am_I → Int → Option (Int × am_I)) (I : am_I) (x1 : Int) : Option (Int × am_I) :=
  if x1 < (I a0 3) then (if (K (F a0 14)).1 = 100 then if (0 : Int) ≤ x1 ∧ x1 < (K (F a0 14)).2 then if (K (F a0 11)).1 = 100 then if (0 : Int) ≤ (I (F a0 14) x1) ∧ (I (F a0 14) x1) < (K (F a0 11)).2 then if (K (F a0 12)).1 = 100 then if F a0 12 ≠ 1 then if (0 : Int) ≤ (I (F a0 11) (I (F a0 14) x1)) ∧ (I (F a0 11) (I (F a0 14) x1)) < (K (F a0 12)).2 then am_lt (am_u2 I (F a0 12) (I (F a0 11) (I (F a0 14) x1)) (I (F a0 14) x1)) (fun I_12 => if am_inI (x1 + 1) then am_lt (x1 + 1) (fun x1_14 => k23 I_12 x1_14) else none) else none else none else none else none else none else none else none) else (if (K (F a0 6)).1 = 100 then if (0 : Int) ≤ 0 ∧ 0 < (K (F a0 6)).2 then am_cl (X1_linkRing N K F a0 I 0 (I (F a0 6) 0) (F a0 13)) (fun _ I_3 => am_cl (X1_linkRing N K F a0 I_3 (I_3 (F a0 6) 0) (I_3 a0 3) (F a0 13)) (fun _ I_4 => some (0, I_4))) else none else none)
theorem w_X1_layOut_s23 {η : am_E} {l : Launch} {N : Nat} {n : Nat} {K : am_K} {I : am_I} {F : am_F} {a0 : Nat} {r0 : Int × am_I} {k23 : am_I → Int → Option (Int × am_I)} {x1 : Int} (h0 : (K a0).1 = 1) (H23 : ∀ (I : am_I) (x1 : Int), k23 I x1 = some r0 → Ok η l M_X1_layOut (am_qm η (am_pS 0 r0 n K F) 0 0) 23 [(0, qr a0), (1, qi x1)] [] n K I F 0 0) : X1_layOut_s23 N K F a0 k23 I x1 = some r0 → Ok η l M_X1_layOut (am_qm η (am_pS 0 r0 n K F) 0 0) 23 [(0, qr a0), (1, qi x1)] [] n K I F 0 0 := by
  unfold X1_layOut_s23
  refine ok_iload_n (q := 24) 1 dX1_layOut_23 rfl rfl rfl ?_
  refine ok_aload_n (q := 25) 0 dX1_layOut_24 rfl rfl rfl ?_
  refine ok_getI (q := 28) (ci := 1) (k := 3) (x := I a0 3) dX1_layOut_25 rfl fo_X1_75 h0 rfl ?_
  refine ok_icmp_ge (q := 59) (q2 := 31) dX1_layOut_28 rfl rfl ?_ ?_
  · skip
    refine ok_aload_n (q := 60) 0 dX1_layOut_59 rfl rfl rfl ?_
    refine ok_iconst (q := 61) (x := 0) dX1_layOut_60 rfl rfl (by decide) ?_
    refine ok_aload_n (q := 62) 0 dX1_layOut_61 rfl rfl rfl ?_
    refine ok_getR (q := 65) (ci := 1) (k := 6) (x := F a0 6) dX1_layOut_62 rfl fo_X1_19 h0 rfl ?_
    refine ok_iconst (q := 66) (x := 0) dX1_layOut_65 rfl rfl (by decide) ?_
    refine fi_chk (fun h_1 => ?_)
    refine fi_chk (fun h_2 => ?_)
    refine ok_iaload (q := 67) (v := I (F a0 6) 0) dX1_layOut_66 rfl h_1 h_2.1 h_2.2 rfl ?_
    refine ok_aload_n (q := 68) 0 dX1_layOut_67 rfl rfl rfl ?_
    refine ok_getR (q := 71) (ci := 1) (k := 13) (x := F a0 13) dX1_layOut_68 rfl fo_X1_40 h0 rfl ?_
    refine fi_callV0S (q := 74) (as := [qi 0, qi (I (F a0 6) 0), qr (F a0 13)]) (st := []) dX1_layOut_71 rfl mo_X1_78 h0 rfl (Nat.le_of_ble_eq_true rfl) rfl rfl (Nat.le_of_ble_eq_true rfl) (Nat.le_of_ble_eq_true rfl) (Nat.le_of_ble_eq_true rfl) (Nat.zero_le _) (Nat.zero_le _) (fun _ hr => ct_X1_linkRing (N := N) h0 hr) (fun _ I_3 => ?_)
    refine ok_aload_n (q := 75) 0 dX1_layOut_74 rfl rfl rfl ?_
    refine ok_aload_n (q := 76) 0 dX1_layOut_75 rfl rfl rfl ?_
    refine ok_getR (q := 79) (ci := 1) (k := 6) (x := F a0 6) dX1_layOut_76 rfl fo_X1_19 h0 rfl ?_
    refine ok_iconst (q := 80) (x := 0) dX1_layOut_79 rfl rfl (by decide) ?_
    refine ok_iaload (q := 81) (v := I_3 (F a0 6) 0) dX1_layOut_80 rfl h_1 h_2.1 h_2.2 rfl ?_
    refine ok_aload_n (q := 82) 0 dX1_layOut_81 rfl rfl rfl ?_
    refine ok_getI (q := 85) (ci := 1) (k := 3) (x := I_3 a0 3) dX1_layOut_82 rfl fo_X1_75 h0 rfl ?_
    refine ok_aload_n (q := 86) 0 dX1_layOut_85 rfl rfl rfl ?_
    refine ok_getR (q := 89) (ci := 1) (k := 13) (x := F a0 13) dX1_layOut_86 rfl fo_X1_40 h0 rfl ?_
    refine fi_callV0S (q := 92) (as := [qi (I_3 (F a0 6) 0), qi (I_3 a0 3), qr (F a0 13)]) (st := []) dX1_layOut_89 rfl mo_X1_78 h0 rfl (Nat.le_of_ble_eq_true rfl) rfl rfl (Nat.le_of_ble_eq_true rfl) (Nat.le_of_ble_eq_true rfl) (Nat.le_of_ble_eq_true rfl) (Nat.zero_le _) (Nat.zero_le _) (fun _ hr => ct_X1_linkRing (N := N) h0 hr) (fun _ I_4 => ?_)
    exact fi_returnS dX1_layOut_92 rfl
  · skip
    refine ok_aload_n (q := 32) 0 dX1_layOut_31 rfl rfl rfl ?_
    refine ok_getR (q := 35) (ci := 1) (k := 12) (x := F a0 12) dX1_layOut_32 rfl fo_X1_37 h0 rfl ?_
    refine ok_aload_n (q := 36) 0 dX1_layOut_35 rfl rfl rfl ?_
    refine ok_getR (q := 39) (ci := 1) (k := 11) (x := F a0 11) dX1_layOut_36 rfl fo_X1_34 h0 rfl ?_
    refine ok_aload_n (q := 40) 0 dX1_layOut_39 rfl rfl rfl ?_
    refine ok_getR (q := 43) (ci := 1) (k := 14) (x := F a0 14) dX1_layOut_40 rfl fo_X1_43 h0 rfl ?_
    refine ok_iload_n (q := 44) 1 dX1_layOut_43 rfl rfl rfl ?_
    refine fi_chk (fun h_5 => ?_)
    refine fi_chk (fun h_6 => ?_)
    refine ok_iaload (q := 45) (v := I (F a0 14) x1) dX1_layOut_44 rfl h_5 h_6.1 h_6.2 rfl ?_
    refine fi_chk (fun h_7 => ?_)
    refine fi_chk (fun h_8 => ?_)
    refine ok_iaload (q := 46) (v := I (F a0 11) (I (F a0 14) x1)) dX1_layOut_45 rfl h_7 h_8.1 h_8.2 rfl ?_
    refine ok_aload_n (q := 47) 0 dX1_layOut_46 rfl rfl rfl ?_
    refine ok_getR (q := 50) (ci := 1) (k := 14) (x := F a0 14) dX1_layOut_47 rfl fo_X1_43 h0 rfl ?_
    refine ok_iload_n (q := 51) 1 dX1_layOut_50 rfl rfl rfl ?_
    refine ok_iaload (q := 52) (v := I (F a0 14) x1) dX1_layOut_51 rfl h_5 h_6.1 h_6.2 rfl ?_
    refine fi_chk (fun h_9 => ?_)
    refine fi_chk (fun h_10 => ?_)
    refine fi_chk (fun h_11 => ?_)
    refine ok_iastore (q := 53) dX1_layOut_52 rfl h_9 h_10 h_11.1 h_11.2 (fun I_12 => ?_)
    refine fi_chk (fun h_13 => ?_)
    refine ok_iincL (q := 56) (fun x1_14 => [(1, qi x1_14), (0, qr a0)]) 1 dX1_layOut_53 rfl rfl h_13 (Nat.le_of_ble_eq_true rfl) (fun _ => rfl) (fun x1_14 => ?_)
    refine ok_goto (q := 23) dX1_layOut_56 rfl ?_
    exact fun g => ok_pick [1, 0] rfl (H23 _ _ g)
def X1_layOut_h23 (N : Nat) (K : am_K) (F : am_F) (a0 : Nat) : Nat → am_I → Int → Option (Int × am_I) := am_it (fun kh => X1_layOut_s23 N K F a0 kh) (fun _ _ => none)
theorem w_X1_layOut_h23 {η : am_E} {l : Launch} {N : Nat} {n : Nat} {K : am_K} {F : am_F} {a0 : Nat} {r0 : Int × am_I} (h0 : (K a0).1 = 1) (f : Nat) : ∀ (I : am_I) (x1 : Int), X1_layOut_h23 N K F a0 f I x1 = some r0 → Ok η l M_X1_layOut (am_qm η (am_pS 0 r0 n K F) 0 0) 23 [(0, qr a0), (1, qi x1)] [] n K I F 0 0 := by
  induction f with
  | zero => intro I x1 g; exact fi_none g
  | succ f ih => intro I x1 g; exact w_X1_layOut_s23 (N := N) h0 ih g
def X1_layOut (N : Nat) (K : am_K) (F : am_F) (a0 : Nat) (I : am_I) : Option (Int × am_I) :=
  am_cl (X1_listLive N K F a0 I) (fun _ I_1 => am_cl (X1_listWay N K F a0 I_1) (fun _ I_2 => am_cl (X1_linkRing N K F a0 I_2 0 (I_2 a0 3) (F a0 11)) (fun _ I_3 => X1_layOut_h23 N K F a0 N I_3 0)))
theorem w_X1_layOut {η : am_E} {l : Launch} {N : Nat} {n : Nat} {K : am_K} {I : am_I} {F : am_F} {a0 : Nat} {r0 : Int × am_I} (h0 : (K a0).1 = 1) : X1_layOut N K F a0 I = some r0 → Ok η l M_X1_layOut (am_qm η (am_pS 0 r0 n K F) 0 0) 0 [(0, qr a0)] [] n K I F 0 0 := by
  unfold X1_layOut
  refine ok_aload_n (q := 1) 0 dX1_layOut_0 rfl rfl rfl ?_
  refine fi_callV0S (q := 4) (as := []) (st := []) dX1_layOut_1 rfl mo_X1_69 h0 rfl (Nat.le_of_ble_eq_true rfl) rfl rfl (Nat.le_of_ble_eq_true rfl) (Nat.le_of_ble_eq_true rfl) (Nat.le_of_ble_eq_true rfl) (Nat.zero_le _) (Nat.zero_le _) (fun _ hr => ct_X1_listLive (N := N) h0 hr) (fun _ I_1 => ?_)
  refine ok_aload_n (q := 5) 0 dX1_layOut_4 rfl rfl rfl ?_
  refine fi_callV0S (q := 8) (as := []) (st := []) dX1_layOut_5 rfl mo_X1_72 h0 rfl (Nat.le_of_ble_eq_true rfl) rfl rfl (Nat.le_of_ble_eq_true rfl) (Nat.le_of_ble_eq_true rfl) (Nat.le_of_ble_eq_true rfl) (Nat.zero_le _) (Nat.zero_le _) (fun _ hr => ct_X1_listWay (N := N) h0 hr) (fun _ I_2 => ?_)
  refine ok_aload_n (q := 9) 0 dX1_layOut_8 rfl rfl rfl ?_
  refine ok_iconst (q := 10) (x := 0) dX1_layOut_9 rfl rfl (by decide) ?_
  refine ok_aload_n (q := 11) 0 dX1_layOut_10 rfl rfl rfl ?_
  refine ok_getI (q := 14) (ci := 1) (k := 3) (x := I_2 a0 3) dX1_layOut_11 rfl fo_X1_75 h0 rfl ?_
  refine ok_aload_n (q := 15) 0 dX1_layOut_14 rfl rfl rfl ?_
  refine ok_getR (q := 18) (ci := 1) (k := 11) (x := F a0 11) dX1_layOut_15 rfl fo_X1_34 h0 rfl ?_
  refine fi_callV0S (q := 21) (as := [qi 0, qi (I_2 a0 3), qr (F a0 11)]) (st := []) dX1_layOut_18 rfl mo_X1_78 h0 rfl (Nat.le_of_ble_eq_true rfl) rfl rfl (Nat.le_of_ble_eq_true rfl) (Nat.le_of_ble_eq_true rfl) (Nat.le_of_ble_eq_true rfl) (Nat.zero_le _) (Nat.zero_le _) (fun _ hr => ct_X1_linkRing (N := N) h0 hr) (fun _ I_3 => ?_)
  refine ok_iconst (q := 22) (x := 0) dX1_layOut_21 rfl rfl (by decide) ?_
  refine ok_istore_n (q := 23) (ls' := [(1, qi 0), (0, qr a0)]) dX1_layOut_22 rfl rfl (Nat.le_of_ble_eq_true rfl) rfl ?_
  exact fun g => ok_pick [1, 0] rfl (w_X1_layOut_h23 (N := N) h0 N _ _ g)
theorem ct_X1_layOut {η : am_E} {l : Launch} {N : Nat} {n : Nat} {K : am_K} {I : am_I} {F : am_F} {a0 : Nat} {r0 : Int × am_I} (h0 : (K a0).1 = 1) : X1_layOut N K F a0 I = some r0 → am_Ct η l yX1_layOut cX1_layOut 2 none 2 47 0 0 [qr a0] n K I F (am_pS 0 r0 n K F) := fun g => am_Ct.of false (by decide) (by decide) (Nat.le_of_ble_eq_true rfl) (fun _ => w_X1_layOut (N := N) h0 g)
def M_X1_lay : am_M := (yX1_lay.cls, cX1_lay, 4, none, am_room 3 68 0 0, false)
def X1_lay_b88 (N : Nat) (K : am_K) (F : am_F) (a0 : Nat) (k53 : am_I → Int → Option (Int × am_I)) (I : am_I) (x3 : Int) (s0 : Int) (s1 : Int) (t2 : Nat) : Option (Int × am_I) :=
  if (K t2).1 = 100 then if t2 ≠ 1 then if (0 : Int) ≤ s1 ∧ s1 < (K t2).2 then am_lt (am_u2 I t2 s1 s0) (fun I_4 => if am_inI (x3 + 1) then am_lt (x3 + 1) (fun x3_6 => k53 I_4 x3_6) else none) else none else none else none
theorem w_X1_lay_b88 {η : am_E} {l : Launch} {N : Nat} {n : Nat} {K : am_K} {I : am_I} {F : am_F} {a0 : Nat} {r0 : Int × am_I} {k53 : am_I → Int → Option (Int × am_I)} {x3 : Int} {s0 : Int} {s1 : Int} {t2 : Nat} (h0 : (K a0).1 = 1) (H53 : ∀ (I : am_I) (x3 : Int), k53 I x3 = some r0 → Ok η l M_X1_lay (am_qm η (am_pS 0 r0 n K F) 0 0) 53 [(0, qr a0), (3, qi x3)] [] n K I F 0 0) : X1_lay_b88 N K F a0 k53 I x3 s0 s1 t2 = some r0 → Ok η l M_X1_lay (am_qm η (am_pS 0 r0 n K F) 0 0) 88 [(0, qr a0), (3, qi x3)] [qi s0, qi s1, qr t2] n K I F 0 0 := by
  unfold X1_lay_b88
  refine fi_chk (fun h_1 => ?_)
  refine fi_chk (fun h_2 => ?_)
  refine fi_chk (fun h_3 => ?_)
  refine ok_iastore (q := 89) dX1_lay_88 rfl h_1 h_2 h_3.1 h_3.2 (fun I_4 => ?_)
  refine fi_chk (fun h_5 => ?_)
  refine ok_iincL (q := 92) (fun x3_6 => [(3, qi x3_6), (0, qr a0)]) 1 dX1_lay_89 rfl rfl h_5 (Nat.le_of_ble_eq_true rfl) (fun _ => rfl) (fun x3_6 => ?_)
  refine ok_goto (q := 53) dX1_lay_92 rfl ?_
  exact fun g => ok_pick [1, 0] rfl (H53 _ _ g)
def X1_lay_s53 (N : Nat) (K : am_K) (F : am_F) (a0 : Nat) (k53 : am_I → Int → Option (Int × am_I)) (I : am_I) (x3 : Int) : Option (Int × am_I) :=
  if x3 < (I a0 2) then (if (K (F a0 4)).1 = 101 then if F a0 4 ≠ 1 then if (0 : Int) ≤ x3 ∧ x3 < (K (F a0 4)).2 then am_lt (am_u2 I (F a0 4) x3 0) (fun I_5 => if (K (F a0 7)).1 = 100 then if (0 : Int) ≤ 1 ∧ 1 < (K (F a0 7)).2 then if x3 < (I_5 (F a0 7) 1) then (X1_lay_b88 N K F a0 k53 I_5 x3 0 x3 (F a0 9)) else (X1_lay_b88 N K F a0 k53 I_5 x3 1 x3 (F a0 9)) else none else none) else none else none else none) else (am_cl (X1_layOut N K F a0 I) (fun _ I_1 => some (0, I_1)))
theorem w_X1_lay_s53 {η : am_E} {l : Launch} {N : Nat} {n : Nat} {K : am_K} {I : am_I} {F : am_F} {a0 : Nat} {r0 : Int × am_I} {k53 : am_I → Int → Option (Int × am_I)} {x3 : Int} (h0 : (K a0).1 = 1) (H53 : ∀ (I : am_I) (x3 : Int), k53 I x3 = some r0 → Ok η l M_X1_lay (am_qm η (am_pS 0 r0 n K F) 0 0) 53 [(0, qr a0), (3, qi x3)] [] n K I F 0 0) : X1_lay_s53 N K F a0 k53 I x3 = some r0 → Ok η l M_X1_lay (am_qm η (am_pS 0 r0 n K F) 0 0) 53 [(0, qr a0), (3, qi x3)] [] n K I F 0 0 := by
  unfold X1_lay_s53
  refine ok_iload_n (q := 54) 1 dX1_lay_53 rfl rfl rfl ?_
  refine ok_aload_n (q := 55) 0 dX1_lay_54 rfl rfl rfl ?_
  refine ok_getI (q := 58) (ci := 1) (k := 2) (x := I a0 2) dX1_lay_55 rfl fo_X1_53 h0 rfl ?_
  refine ok_icmp_ge (q := 95) (q2 := 61) dX1_lay_58 rfl rfl ?_ ?_
  · skip
    refine ok_aload_n (q := 96) 0 dX1_lay_95 rfl rfl rfl ?_
    refine fi_callV0S (q := 99) (as := []) (st := []) dX1_lay_96 rfl mo_X1_56 h0 rfl (Nat.le_of_ble_eq_true rfl) rfl rfl (Nat.le_of_ble_eq_true rfl) (Nat.le_of_ble_eq_true rfl) (Nat.le_of_ble_eq_true rfl) (Nat.zero_le _) (Nat.zero_le _) (fun _ hr => ct_X1_layOut (N := N) h0 hr) (fun _ I_1 => ?_)
    exact fi_returnS dX1_lay_99 rfl
  · skip
    refine ok_aload_n (q := 62) 0 dX1_lay_61 rfl rfl rfl ?_
    refine ok_getR (q := 65) (ci := 1) (k := 4) (x := F a0 4) dX1_lay_62 rfl fo_X1_9 h0 rfl ?_
    refine ok_iload_n (q := 66) 1 dX1_lay_65 rfl rfl rfl ?_
    refine ok_iconst (q := 67) (x := 0) dX1_lay_66 rfl rfl (by decide) ?_
    refine fi_chk (fun h_2 => ?_)
    refine fi_chk (fun h_3 => ?_)
    refine fi_chk (fun h_4 => ?_)
    refine ok_bastore (q := 68) dX1_lay_67 rfl h_2 h_3 h_4.1 h_4.2 (by decide) (fun I_5 => ?_)
    refine ok_aload_n (q := 69) 0 dX1_lay_68 rfl rfl rfl ?_
    refine ok_getR (q := 72) (ci := 1) (k := 9) (x := F a0 9) dX1_lay_69 rfl fo_X1_28 h0 rfl ?_
    refine ok_iload_n (q := 73) 1 dX1_lay_72 rfl rfl rfl ?_
    refine ok_iload_n (q := 74) 1 dX1_lay_73 rfl rfl rfl ?_
    refine ok_aload_n (q := 75) 0 dX1_lay_74 rfl rfl rfl ?_
    refine ok_getR (q := 78) (ci := 1) (k := 7) (x := F a0 7) dX1_lay_75 rfl fo_X1_22 h0 rfl ?_
    refine ok_iconst (q := 79) (x := 1) dX1_lay_78 rfl rfl (by decide) ?_
    refine fi_chk (fun h_6 => ?_)
    refine fi_chk (fun h_7 => ?_)
    refine ok_iaload (q := 80) (v := I_5 (F a0 7) 1) dX1_lay_79 rfl h_6 h_7.1 h_7.2 rfl ?_
    refine ok_icmp_ge (q := 87) (q2 := 83) dX1_lay_80 rfl rfl ?_ ?_
    · skip
      refine ok_iconst (q := 88) (x := 1) dX1_lay_87 rfl rfl (by decide) ?_
      exact fun g => ok_pick [0, 1] rfl (w_X1_lay_b88 (N := N) h0 H53 g)
    · skip
      refine ok_iconst (q := 84) (x := 0) dX1_lay_83 rfl rfl (by decide) ?_
      refine ok_goto (q := 88) dX1_lay_84 rfl ?_
      exact fun g => ok_pick [0, 1] rfl (w_X1_lay_b88 (N := N) h0 H53 g)
def X1_lay_h53 (N : Nat) (K : am_K) (F : am_F) (a0 : Nat) : Nat → am_I → Int → Option (Int × am_I) := am_it (fun kh => X1_lay_s53 N K F a0 kh) (fun _ _ => none)
theorem w_X1_lay_h53 {η : am_E} {l : Launch} {N : Nat} {n : Nat} {K : am_K} {F : am_F} {a0 : Nat} {r0 : Int × am_I} (h0 : (K a0).1 = 1) (f : Nat) : ∀ (I : am_I) (x3 : Int), X1_lay_h53 N K F a0 f I x3 = some r0 → Ok η l M_X1_lay (am_qm η (am_pS 0 r0 n K F) 0 0) 53 [(0, qr a0), (3, qi x3)] [] n K I F 0 0 := by
  induction f with
  | zero => intro I x3 g; exact fi_none g
  | succ f ih => intro I x3 g; exact w_X1_lay_s53 (N := N) h0 ih g
def X1_lay (N : Nat) (K : am_K) (F : am_F) (a0 : Nat) (I : am_I) (x1 : Int) (x2 : Int) : Option (Int × am_I) :=
  am_lt (am_u2 I a0 0 x1) (fun I_1 => am_lt (am_u2 I_1 a0 1 x2) (fun I_2 => if am_inI (x1 * x2) then am_lt (am_u2 I_2 a0 2 (x1 * x2)) (fun I_4 => if (K (F a0 8)).1 = 100 then if F a0 8 ≠ 1 then if (0 : Int) ≤ 0 ∧ 0 < (K (F a0 8)).2 then am_lt (am_u2 I_4 (F a0 8) 0 (am_ishr (I_4 a0 2) 1)) (fun I_8 => if (K (F a0 7)).1 = 100 then if F a0 7 ≠ 1 then if (0 : Int) ≤ 1 ∧ 1 < (K (F a0 7)).2 then am_lt (am_u2 I_8 (F a0 7) 1 (am_ishr (I_8 a0 2) 1)) (fun I_12 => if (0 : Int) ≤ 1 ∧ 1 < (K (F a0 8)).2 then am_lt (am_u2 I_12 (F a0 8) 1 (I_12 a0 2)) (fun I_14 => X1_lay_h53 N K F a0 N I_14 0) else none) else none else none else none) else none else none else none) else none))
theorem w_X1_lay {η : am_E} {l : Launch} {N : Nat} {n : Nat} {K : am_K} {I : am_I} {F : am_F} {a0 : Nat} {r0 : Int × am_I} {x1 : Int} {x2 : Int} (h0 : (K a0).1 = 1) : X1_lay N K F a0 I x1 x2 = some r0 → Ok η l M_X1_lay (am_qm η (am_pS 0 r0 n K F) 0 0) 0 [(0, qr a0), (1, qi x1), (2, qi x2)] [] n K I F 0 0 := by
  unfold X1_lay
  refine ok_aload_n (q := 1) 0 dX1_lay_0 rfl rfl rfl ?_
  refine ok_iload_n (q := 2) 1 dX1_lay_1 rfl rfl rfl ?_
  refine ok_putI (q := 5) (ci := 1) (k := 0) dX1_lay_2 rfl fo_X1_46 h0 ft_1_0 ff_1_0 (fun I_1 => ?_)
  refine ok_aload_n (q := 6) 0 dX1_lay_5 rfl rfl rfl ?_
  refine ok_iload_n (q := 7) 2 dX1_lay_6 rfl rfl rfl ?_
  refine ok_putI (q := 10) (ci := 1) (k := 1) dX1_lay_7 rfl fo_X1_50 h0 ft_1_1 ff_1_1 (fun I_2 => ?_)
  refine ok_aload_n (q := 11) 0 dX1_lay_10 rfl rfl rfl ?_
  refine ok_iload_n (q := 12) 1 dX1_lay_11 rfl rfl rfl ?_
  refine ok_iload_n (q := 13) 2 dX1_lay_12 rfl rfl rfl ?_
  refine fi_chk (fun h_3 => ?_)
  refine ok_imul (q := 14) dX1_lay_13 rfl h_3 ?_
  refine ok_putI (q := 17) (ci := 1) (k := 2) dX1_lay_14 rfl fo_X1_53 h0 ft_1_2 ff_1_2 (fun I_4 => ?_)
  refine ok_aload_n (q := 18) 0 dX1_lay_17 rfl rfl rfl ?_
  refine ok_getR (q := 21) (ci := 1) (k := 8) (x := F a0 8) dX1_lay_18 rfl fo_X1_25 h0 rfl ?_
  refine ok_iconst (q := 22) (x := 0) dX1_lay_21 rfl rfl (by decide) ?_
  refine ok_aload_n (q := 23) 0 dX1_lay_22 rfl rfl rfl ?_
  refine ok_getI (q := 26) (ci := 1) (k := 2) (x := I_4 a0 2) dX1_lay_23 rfl fo_X1_53 h0 rfl ?_
  refine ok_iconst (q := 27) (x := 1) dX1_lay_26 rfl rfl (by decide) ?_
  refine ok_ishr (q := 28) (r := am_ishr (I_4 a0 2) 1) dX1_lay_27 rfl rfl ?_
  refine fi_chk (fun h_5 => ?_)
  refine fi_chk (fun h_6 => ?_)
  refine fi_chk (fun h_7 => ?_)
  refine ok_iastore (q := 29) dX1_lay_28 rfl h_5 h_6 h_7.1 h_7.2 (fun I_8 => ?_)
  refine ok_aload_n (q := 30) 0 dX1_lay_29 rfl rfl rfl ?_
  refine ok_getR (q := 33) (ci := 1) (k := 7) (x := F a0 7) dX1_lay_30 rfl fo_X1_22 h0 rfl ?_
  refine ok_iconst (q := 34) (x := 1) dX1_lay_33 rfl rfl (by decide) ?_
  refine ok_aload_n (q := 35) 0 dX1_lay_34 rfl rfl rfl ?_
  refine ok_getI (q := 38) (ci := 1) (k := 2) (x := I_8 a0 2) dX1_lay_35 rfl fo_X1_53 h0 rfl ?_
  refine ok_iconst (q := 39) (x := 1) dX1_lay_38 rfl rfl (by decide) ?_
  refine ok_ishr (q := 40) (r := am_ishr (I_8 a0 2) 1) dX1_lay_39 rfl rfl ?_
  refine fi_chk (fun h_9 => ?_)
  refine fi_chk (fun h_10 => ?_)
  refine fi_chk (fun h_11 => ?_)
  refine ok_iastore (q := 41) dX1_lay_40 rfl h_9 h_10 h_11.1 h_11.2 (fun I_12 => ?_)
  refine ok_aload_n (q := 42) 0 dX1_lay_41 rfl rfl rfl ?_
  refine ok_getR (q := 45) (ci := 1) (k := 8) (x := F a0 8) dX1_lay_42 rfl fo_X1_25 h0 rfl ?_
  refine ok_iconst (q := 46) (x := 1) dX1_lay_45 rfl rfl (by decide) ?_
  refine ok_aload_n (q := 47) 0 dX1_lay_46 rfl rfl rfl ?_
  refine ok_getI (q := 50) (ci := 1) (k := 2) (x := I_12 a0 2) dX1_lay_47 rfl fo_X1_53 h0 rfl ?_
  refine fi_chk (fun h_13 => ?_)
  refine ok_iastore (q := 51) dX1_lay_50 rfl h_5 h_6 h_13.1 h_13.2 (fun I_14 => ?_)
  refine ok_iconst (q := 52) (x := 0) dX1_lay_51 rfl rfl (by decide) ?_
  refine ok_istore_n (q := 53) (ls' := [(3, qi 0), (0, qr a0), (1, qi x1), (2, qi x2)]) dX1_lay_52 rfl rfl (Nat.le_of_ble_eq_true rfl) rfl ?_
  exact fun g => ok_pick [1, 0] rfl (w_X1_lay_h53 (N := N) h0 N _ _ g)
theorem ct_X1_lay {η : am_E} {l : Launch} {N : Nat} {n : Nat} {K : am_K} {I : am_I} {F : am_F} {a0 : Nat} {r0 : Int × am_I} {x1 : Int} {x2 : Int} (h0 : (K a0).1 = 1) : X1_lay N K F a0 I x1 x2 = some r0 → am_Ct η l yX1_lay cX1_lay 4 none 3 68 0 0 [qr a0, qi x1, qi x2] n K I F (am_pS 0 r0 n K F) := fun g => am_Ct.of false (by decide) (by decide) (Nat.le_of_ble_eq_true rfl) (fun _ => w_X1_lay (N := N) h0 g)
def M_X1_takeOut : am_M := (yX1_takeOut.cls, cX1_takeOut, 2, none, am_room 3 68 0 0, false)
def X1_takeOut (N : Nat) (K : am_K) (F : am_F) (a0 : Nat) (I : am_I) (x1 : Int) : Option (Int × am_I) :=
  if (K (F a0 4)).1 = 101 then if F a0 4 ≠ 1 then if (0 : Int) ≤ x1 ∧ x1 < (K (F a0 4)).2 then am_lt (am_u2 I (F a0 4) x1 1) (fun I_4 => am_cl (X1_layOut N K F a0 I_4) (fun _ I_5 => some (0, I_5))) else none else none else none
theorem w_X1_takeOut {η : am_E} {l : Launch} {N : Nat} {n : Nat} {K : am_K} {I : am_I} {F : am_F} {a0 : Nat} {r0 : Int × am_I} {x1 : Int} (h0 : (K a0).1 = 1) : X1_takeOut N K F a0 I x1 = some r0 → Ok η l M_X1_takeOut (am_qm η (am_pS 0 r0 n K F) 0 0) 0 [(0, qr a0), (1, qi x1)] [] n K I F 0 0 := by
  unfold X1_takeOut
  refine ok_aload_n (q := 1) 0 dX1_takeOut_0 rfl rfl rfl ?_
  refine ok_getR (q := 4) (ci := 1) (k := 4) (x := F a0 4) dX1_takeOut_1 rfl fo_X1_9 h0 rfl ?_
  refine ok_iload_n (q := 5) 1 dX1_takeOut_4 rfl rfl rfl ?_
  refine ok_iconst (q := 6) (x := 1) dX1_takeOut_5 rfl rfl (by decide) ?_
  refine fi_chk (fun h_1 => ?_)
  refine fi_chk (fun h_2 => ?_)
  refine fi_chk (fun h_3 => ?_)
  refine ok_bastore (q := 7) dX1_takeOut_6 rfl h_1 h_2 h_3.1 h_3.2 (by decide) (fun I_4 => ?_)
  refine ok_aload_n (q := 8) 0 dX1_takeOut_7 rfl rfl rfl ?_
  refine fi_callV0S (q := 11) (as := []) (st := []) dX1_takeOut_8 rfl mo_X1_56 h0 rfl (Nat.le_of_ble_eq_true rfl) rfl rfl (Nat.le_of_ble_eq_true rfl) (Nat.le_of_ble_eq_true rfl) (Nat.le_of_ble_eq_true rfl) (Nat.zero_le _) (Nat.zero_le _) (fun _ hr => ct_X1_layOut (N := N) h0 hr) (fun _ I_5 => ?_)
  exact fi_returnS dX1_takeOut_11 rfl
theorem ct_X1_takeOut {η : am_E} {l : Launch} {N : Nat} {n : Nat} {K : am_K} {I : am_I} {F : am_F} {a0 : Nat} {r0 : Int × am_I} {x1 : Int} (h0 : (K a0).1 = 1) : X1_takeOut N K F a0 I x1 = some r0 → am_Ct η l yX1_takeOut cX1_takeOut 2 none 3 68 0 0 [qr a0, qi x1] n K I F (am_pS 0 r0 n K F) := fun g => am_Ct.of false (by decide) (by decide) (Nat.le_of_ble_eq_true rfl) (fun _ => w_X1_takeOut (N := N) h0 g)
def M_X1_pitsOfGreaterSide : am_M := (yX1_pitsOfGreaterSide.cls, cX1_pitsOfGreaterSide, 1, (some .int), am_room 1 21 0 0, false)
def X1_pitsOfGreaterSide (N : Nat) (K : am_K) (F : am_F) (I : am_I) (a0 : Nat) : Option Int :=
  if (K (F a0 6)).1 = 100 then if (0 : Int) ≤ 0 ∧ 0 < (K (F a0 6)).2 then if (0 : Int) ≤ 1 ∧ 1 < (K (F a0 6)).2 then some (am_max (I (F a0 6) 0) (I (F a0 6) 1)) else none else none else none
theorem w_X1_pitsOfGreaterSide {η : am_E} {l : Launch} {N : Nat} {n : Nat} {K : am_K} {I : am_I} {F : am_F} {a0 : Nat} {r0 : Int} (h0 : (K a0).1 = 1) : X1_pitsOfGreaterSide N K F I a0 = some r0 → Ok η l M_X1_pitsOfGreaterSide (am_qm η (am_pS 1 (r0, I) n K F) 0 0) 0 [(0, qr a0)] [] n K I F 0 0 := by
  unfold X1_pitsOfGreaterSide
  refine ok_aload_n (q := 1) 0 dX1_pitsOfGreaterSide_0 rfl rfl rfl ?_
  refine ok_getR (q := 4) (ci := 1) (k := 6) (x := F a0 6) dX1_pitsOfGreaterSide_1 rfl fo_X1_19 h0 rfl ?_
  refine ok_iconst (q := 5) (x := 0) dX1_pitsOfGreaterSide_4 rfl rfl (by decide) ?_
  refine fi_chk (fun h_1 => ?_)
  refine fi_chk (fun h_2 => ?_)
  refine ok_iaload (q := 6) (v := I (F a0 6) 0) dX1_pitsOfGreaterSide_5 rfl h_1 h_2.1 h_2.2 rfl ?_
  refine ok_aload_n (q := 7) 0 dX1_pitsOfGreaterSide_6 rfl rfl rfl ?_
  refine ok_getR (q := 10) (ci := 1) (k := 6) (x := F a0 6) dX1_pitsOfGreaterSide_7 rfl fo_X1_19 h0 rfl ?_
  refine ok_iconst (q := 11) (x := 1) dX1_pitsOfGreaterSide_10 rfl rfl (by decide) ?_
  refine fi_chk (fun h_3 => ?_)
  refine ok_iaload (q := 12) (v := I (F a0 6) 1) dX1_pitsOfGreaterSide_11 rfl h_1 h_3.1 h_3.2 rfl ?_
  refine ok_mmax (q := 15) dX1_pitsOfGreaterSide_12 rfl mm_X1_59 (Nat.le_of_ble_eq_true rfl) (Nat.le_of_ble_eq_true rfl) (Nat.le_of_ble_eq_true rfl) (Nat.zero_le _) (Nat.zero_le _) ?_
  exact fi_ireturnP dX1_pitsOfGreaterSide_15 rfl
theorem ct_X1_pitsOfGreaterSide {η : am_E} {l : Launch} {N : Nat} {n : Nat} {K : am_K} {I : am_I} {F : am_F} {a0 : Nat} {r0 : Int} (h0 : (K a0).1 = 1) : X1_pitsOfGreaterSide N K F I a0 = some r0 → am_Ct η l yX1_pitsOfGreaterSide cX1_pitsOfGreaterSide 1 (some .int) 1 21 0 0 [qr a0] n K I F (am_pS 1 (r0, I) n K F) := fun g => am_Ct.of false (by decide) (by decide) (Nat.le_of_ble_eq_true rfl) (fun _ => w_X1_pitsOfGreaterSide (N := N) h0 g)
def M_X2_init (mc ms : Nat) : am_M := (yX2_init.cls, cX2_init, 1, none, am_room 1 20 mc ms, true)
def X2_init (N : Nat) (a0 : Nat) (n : Nat) (K : am_K) (I : am_I) (F : am_F) : Option am_A :=
  if a0 ≠ 0 then am_lt (am_u2 I a0 2 (-1)) (fun I_2 => if (0 : Int) ≤ 400 ∧ 400 ≤ (60000000 : Int) then am_nw n (100, 400) K I_2 F (fun n_3 K_4 I_5 F_6 => am_mo (0 + 1) (0 + (400 : Int).toNat) (if (K_4 a0).1 = 2 then am_lt (am_u2 F_6 a0 3 n) (fun F_12 => if (0 : Int) ≤ 401 ∧ 401 ≤ (60000000 : Int) then am_nw n_3 (100, 401) K_4 I_5 F_12 (fun n_13 K_14 I_15 F_16 => am_mo ((0 + 1) + 1) ((0 + (400 : Int).toNat) + (401 : Int).toNat) (if (K_14 a0).1 = 2 then am_lt (am_u2 F_16 a0 4 n_3) (fun F_22 => some (0, n_13, K_14, I_15, F_22, ((0 + 1) + 1), ((0 + (400 : Int).toNat) + (401 : Int).toNat))) else none)) else none) else none)) else none) else none
theorem w_X2_init {η : am_E} {l : Launch} {N : Nat} {n : Nat} {K : am_K} {I : am_I} {F : am_F} {a0 : Nat} {r0 : am_A} (h0 : (K a0).1 = 2) : X2_init N a0 n K I F = some r0 → Ok η l (M_X2_init (am_ac1 r0) (am_az1 r0)) (am_qm η (am_pA 0 r0) (am_ac1 r0) (am_az1 r0)) 0 [(0, qr a0)] [] n K I F 0 0 := by
  unfold X2_init
  refine ok_aload_n (q := 1) 0 dX2_init_0 rfl rfl rfl ?_
  refine fi_chk (fun h_1 => ?_)
  refine ok_objInit (q := 4) dX2_init_1 rfl oi_X2_3 h_1 (Nat.le_of_ble_eq_true rfl) (Nat.le_of_ble_eq_true rfl) (Nat.le_of_ble_eq_true rfl) ?_
  refine ok_aload_n (q := 5) 0 dX2_init_4 rfl rfl rfl ?_
  refine ok_iconst (q := 6) (x := -1) dX2_init_5 rfl rfl (by decide) ?_
  refine ok_putI (q := 9) (ci := 2) (k := 2) dX2_init_6 rfl fo_X2_9 h0 ft_2_2 ff_2_2 (fun I_2 => ?_)
  refine ok_aload_n (q := 10) 0 dX2_init_9 rfl rfl rfl ?_
  refine ok_sipush (q := 13) (x := 400) dX2_init_10 rfl rfl (by decide) ?_
  refine fi_chk (fun h_7 => ?_)
  refine fi_newi (q := 15) dX2_init_13 rfl h_7 na_newi (Nat.le_refl _) (Nat.le_refl _) (fun n_3 K_4 I_5 F_6 hc_9 hz_10 h_8 => ?_)
  refine fi_chk (fun h_11 => ?_)
  refine ok_putRF (q := 18) (ci := 2) (k := 3) dX2_init_15 rfl fo_X2_15 h_11 ft_2_3 rfl ff_2_3 rfl rfl (fun F_12 => ?_)
  refine ok_aload_n (q := 19) 0 dX2_init_18 rfl rfl rfl ?_
  refine ok_sipush (q := 22) (x := 401) dX2_init_19 rfl rfl (by decide) ?_
  refine fi_chk (fun h_17 => ?_)
  refine fi_newi (q := 24) dX2_init_22 rfl h_17 na_newi (Nat.le_refl _) (Nat.le_refl _) (fun n_13 K_14 I_15 F_16 hc_19 hz_20 h_18 => ?_)
  refine fi_chk (fun h_21 => ?_)
  refine ok_putRF (q := 27) (ci := 2) (k := 4) dX2_init_24 rfl fo_X2_19 h_21 ft_2_4 rfl ff_2_4 rfl rfl (fun F_22 => ?_)
  exact fi_returnA dX2_init_27 rfl
theorem ct_X2_init {η : am_E} {l : Launch} {N : Nat} {n : Nat} {K : am_K} {I : am_I} {F : am_F} {a0 : Nat} {r0 : am_A} (h0 : (K a0).1 = 2) : X2_init N a0 n K I F = some r0 → am_Ct η l yX2_init cX2_init 1 none 1 20 (am_ac1 r0) (am_az1 r0) [qr a0] n K I F (am_pA 0 r0) := fun g => am_Ct.of true (by decide) (by decide) (Nat.le_of_ble_eq_true rfl) (fun _ => w_X2_init (N := N) h0 g)
def M_X2_clear : am_M := (yX2_clear.cls, cX2_clear, 1, none, am_room 0 0 0 0, false)
def X2_clear (N : Nat) (K : am_K) (F : am_F) (a0 : Nat) (I : am_I) : Option (Int × am_I) :=
  am_lt (am_u2 I a0 0 0) (fun I_1 => am_lt (am_u2 I_1 a0 1 0) (fun I_2 => am_lt (am_u2 I_2 a0 2 (-1)) (fun I_3 => some (0, I_3))))
theorem w_X2_clear {η : am_E} {l : Launch} {N : Nat} {n : Nat} {K : am_K} {I : am_I} {F : am_F} {a0 : Nat} {r0 : Int × am_I} (h0 : (K a0).1 = 2) : X2_clear N K F a0 I = some r0 → Ok η l M_X2_clear (am_qm η (am_pS 0 r0 n K F) 0 0) 0 [(0, qr a0)] [] n K I F 0 0 := by
  unfold X2_clear
  refine ok_aload_n (q := 1) 0 dX2_clear_0 rfl rfl rfl ?_
  refine ok_iconst (q := 2) (x := 0) dX2_clear_1 rfl rfl (by decide) ?_
  refine ok_putZ (q := 5) (ci := 2) (k := 0) dX2_clear_2 rfl fo_X2_22 h0 ft_2_0 (by decide) ff_2_0 (fun I_1 => ?_)
  refine ok_aload_n (q := 6) 0 dX2_clear_5 rfl rfl rfl ?_
  refine ok_iconst (q := 7) (x := 0) dX2_clear_6 rfl rfl (by decide) ?_
  refine ok_putI (q := 10) (ci := 2) (k := 1) dX2_clear_7 rfl fo_X2_26 h0 ft_2_1 ff_2_1 (fun I_2 => ?_)
  refine ok_aload_n (q := 11) 0 dX2_clear_10 rfl rfl rfl ?_
  refine ok_iconst (q := 12) (x := -1) dX2_clear_11 rfl rfl (by decide) ?_
  refine ok_putI (q := 15) (ci := 2) (k := 2) dX2_clear_12 rfl fo_X2_9 h0 ft_2_2 ff_2_2 (fun I_3 => ?_)
  exact fi_returnS dX2_clear_15 rfl
theorem ct_X2_clear {η : am_E} {l : Launch} {N : Nat} {n : Nat} {K : am_K} {I : am_I} {F : am_F} {a0 : Nat} {r0 : Int × am_I} (h0 : (K a0).1 = 2) : X2_clear N K F a0 I = some r0 → am_Ct η l yX2_clear cX2_clear 1 none 0 0 0 0 [qr a0] n K I F (am_pS 0 r0 n K F) := fun g => am_Ct.of false (by decide) (by decide) (Nat.le_of_ble_eq_true rfl) (fun _ => w_X2_clear (N := N) h0 g)
def M_X9_reachOf : am_M := (yX9_reachOf.cls, cX9_reachOf, 2, (some .int), am_room 1 20 0 0, false)
def X9_reachOf (N : Nat) (K : am_K) (F : am_F) (I : am_I) (a0 : Nat) (x1 : Int) : Option Int :=
  am_cq (X0_takenBy N K F I x1) (fun v_1 => am_cq (X0_placeBehind N K F I x1) (fun v_2 => if (K (F a0 4)).1 = 100 then if (0 : Int) ≤ v_2 ∧ v_2 < (K (F a0 4)).2 then if am_inI (v_1 - (I (F a0 4) v_2)) then some (v_1 - (I (F a0 4) v_2)) else none else none else none))
theorem w_X9_reachOf {η : am_E} {l : Launch} {N : Nat} {n : Nat} {K : am_K} {I : am_I} {F : am_F} {a0 : Nat} {r0 : Int} {x1 : Int} (h0 : (K a0).1 = 9) : X9_reachOf N K F I a0 x1 = some r0 → Ok η l M_X9_reachOf (am_qm η (am_pS 1 (r0, I) n K F) 0 0) 0 [(0, qr a0), (1, qi x1)] [] n K I F 0 0 := by
  unfold X9_reachOf
  refine ok_iload_n (q := 1) 1 dX9_reachOf_0 rfl rfl rfl ?_
  refine fi_callS1P (q := 4) (as := [qi x1]) (st := []) dX9_reachOf_1 rfl mo_X9_96 rfl rfl (Nat.le_of_ble_eq_true rfl) (Nat.le_of_ble_eq_true rfl) (Nat.le_of_ble_eq_true rfl) (Nat.zero_le _) (Nat.zero_le _) (fun _ hr => ct_X0_takenBy (N := N) hr) (fun v_1 => ?_)
  refine ok_aload_n (q := 5) 0 dX9_reachOf_4 rfl rfl rfl ?_
  refine ok_getR (q := 8) (ci := 9) (k := 4) (x := F a0 4) dX9_reachOf_5 rfl fo_X9_9 h0 rfl ?_
  refine ok_iload_n (q := 9) 1 dX9_reachOf_8 rfl rfl rfl ?_
  refine fi_callS1P (q := 12) (as := [qi x1]) (st := [qr (F a0 4), qi v_1]) dX9_reachOf_9 rfl mo_X9_100 rfl rfl (Nat.le_of_ble_eq_true rfl) (Nat.le_of_ble_eq_true rfl) (Nat.le_of_ble_eq_true rfl) (Nat.zero_le _) (Nat.zero_le _) (fun _ hr => ct_X0_placeBehind (N := N) hr) (fun v_2 => ?_)
  refine fi_chk (fun h_3 => ?_)
  refine fi_chk (fun h_4 => ?_)
  refine ok_iaload (q := 13) (v := I (F a0 4) v_2) dX9_reachOf_12 rfl h_3 h_4.1 h_4.2 rfl ?_
  refine fi_chk (fun h_5 => ?_)
  refine ok_isub (q := 14) dX9_reachOf_13 rfl h_5 ?_
  exact fi_ireturnP dX9_reachOf_14 rfl
theorem ct_X9_reachOf {η : am_E} {l : Launch} {N : Nat} {n : Nat} {K : am_K} {I : am_I} {F : am_F} {a0 : Nat} {r0 : Int} {x1 : Int} (h0 : (K a0).1 = 9) : X9_reachOf N K F I a0 x1 = some r0 → am_Ct η l yX9_reachOf cX9_reachOf 2 (some .int) 1 20 0 0 [qr a0, qi x1] n K I F (am_pS 1 (r0, I) n K F) := fun g => am_Ct.of false (by decide) (by decide) (Nat.le_of_ble_eq_true rfl) (fun _ => w_X9_reachOf (N := N) h0 g)
def M_X9_goesForward : am_M := (yX9_goesForward.cls, cX9_goesForward, 3, (some .boolean), am_room 1 20 0 0, false)
def X9_goesForward_b24 (N : Nat) (K : am_K) (F : am_F) (I : am_I) (s0 : Int) : Option Int :=
  if s0 = 0 ∨ s0 = 1 then some (s0) else none
theorem w_X9_goesForward_b24 {η : am_E} {l : Launch} {N : Nat} {n : Nat} {K : am_K} {I : am_I} {F : am_F} {r0 : Int} {s0 : Int} : X9_goesForward_b24 N K F I s0 = some r0 → Ok η l M_X9_goesForward (am_qm η (am_pS 1 (r0, I) n K F) 0 0) 24 [] [qi s0] n K I F 0 0 := by
  unfold X9_goesForward_b24
  refine fi_chk (fun h_1 => ?_)
  exact fi_zreturnP dX9_goesForward_24 rfl h_1
def X9_goesForward_b19 (N : Nat) (K : am_K) (F : am_F) (I : am_I) : Option Int :=
  X9_goesForward_b24 N K F I 1
theorem w_X9_goesForward_b19 {η : am_E} {l : Launch} {N : Nat} {n : Nat} {K : am_K} {I : am_I} {F : am_F} {r0 : Int} : X9_goesForward_b19 N K F I = some r0 → Ok η l M_X9_goesForward (am_qm η (am_pS 1 (r0, I) n K F) 0 0) 19 [] [] n K I F 0 0 := by
  unfold X9_goesForward_b19
  refine ok_iconst (q := 20) (x := 1) dX9_goesForward_19 rfl rfl (by decide) ?_
  refine ok_goto (q := 24) dX9_goesForward_20 rfl ?_
  exact fun g => ok_pick [] rfl (w_X9_goesForward_b24 (N := N) g)
def X9_goesForward (N : Nat) (K : am_K) (F : am_F) (I : am_I) (x0 : Int) (x1 : Int) (a2 : Nat) : Option Int :=
  am_cq (X0_takenBy N K F I x0) (fun v_1 => if v_1 ≤ 0 then (am_cq (X0_placeBehind N K F I x0) (fun v_2 => if (K a2).1 = 100 then if (0 : Int) ≤ v_2 ∧ v_2 < (K a2).2 then if (0 : Int) ≤ x1 ∧ x1 < (K a2).2 then if (I a2 v_2) < (I a2 x1) then (X9_goesForward_b19 N K F I ) else (X9_goesForward_b24 N K F I 0) else none else none else none)) else (X9_goesForward_b19 N K F I ))
theorem w_X9_goesForward {η : am_E} {l : Launch} {N : Nat} {n : Nat} {K : am_K} {I : am_I} {F : am_F} {r0 : Int} {x0 : Int} {x1 : Int} {a2 : Nat} : X9_goesForward N K F I x0 x1 a2 = some r0 → Ok η l M_X9_goesForward (am_qm η (am_pS 1 (r0, I) n K F) 0 0) 0 [(0, qi x0), (1, qi x1), (2, qr a2)] [] n K I F 0 0 := by
  unfold X9_goesForward
  refine ok_iload_n (q := 1) 0 dX9_goesForward_0 rfl rfl rfl ?_
  refine fi_callS1P (q := 4) (as := [qi x0]) (st := []) dX9_goesForward_1 rfl mo_X9_96 rfl rfl (Nat.le_of_ble_eq_true rfl) (Nat.le_of_ble_eq_true rfl) (Nat.le_of_ble_eq_true rfl) (Nat.zero_le _) (Nat.zero_le _) (fun _ hr => ct_X0_takenBy (N := N) hr) (fun v_1 => ?_)
  refine ok_if_gt (q := 19) (q2 := 7) dX9_goesForward_4 rfl rfl ?_ ?_
  · skip
    exact fun g => ok_pick [] rfl (w_X9_goesForward_b19 (N := N) g)
  · skip
    refine ok_aload_n (q := 8) 2 dX9_goesForward_7 rfl rfl rfl ?_
    refine ok_iload_n (q := 9) 0 dX9_goesForward_8 rfl rfl rfl ?_
    refine fi_callS1P (q := 12) (as := [qi x0]) (st := [qr a2]) dX9_goesForward_9 rfl mo_X9_100 rfl rfl (Nat.le_of_ble_eq_true rfl) (Nat.le_of_ble_eq_true rfl) (Nat.le_of_ble_eq_true rfl) (Nat.zero_le _) (Nat.zero_le _) (fun _ hr => ct_X0_placeBehind (N := N) hr) (fun v_2 => ?_)
    refine fi_chk (fun h_3 => ?_)
    refine fi_chk (fun h_4 => ?_)
    refine ok_iaload (q := 13) (v := I a2 v_2) dX9_goesForward_12 rfl h_3 h_4.1 h_4.2 rfl ?_
    refine ok_aload_n (q := 14) 2 dX9_goesForward_13 rfl rfl rfl ?_
    refine ok_iload_n (q := 15) 1 dX9_goesForward_14 rfl rfl rfl ?_
    refine fi_chk (fun h_5 => ?_)
    refine ok_iaload (q := 16) (v := I a2 x1) dX9_goesForward_15 rfl h_3 h_5.1 h_5.2 rfl ?_
    refine ok_icmp_ge (q := 23) (q2 := 19) dX9_goesForward_16 rfl rfl ?_ ?_
    · skip
      refine ok_iconst (q := 24) (x := 0) dX9_goesForward_23 rfl rfl (by decide) ?_
      exact fun g => ok_pick [] rfl (w_X9_goesForward_b24 (N := N) g)
    · skip
      exact fun g => ok_pick [] rfl (w_X9_goesForward_b19 (N := N) g)
theorem ct_X9_goesForward {η : am_E} {l : Launch} {N : Nat} {n : Nat} {K : am_K} {I : am_I} {F : am_F} {r0 : Int} {x0 : Int} {x1 : Int} {a2 : Nat} : X9_goesForward N K F I x0 x1 a2 = some r0 → am_Ct η l yX9_goesForward cX9_goesForward 3 (some .boolean) 1 20 0 0 [qi x0, qi x1, qr a2] n K I F (am_pS 1 (r0, I) n K F) := fun g => am_Ct.of false (by decide) (by decide) (Nat.le_of_ble_eq_true rfl) (fun _ => w_X9_goesForward (N := N) g)
def M_X9_bestEdge : am_M := (yX9_bestEdge.cls, cX9_bestEdge, 4, (some .int), am_room 2 42 0 0, false)
def X9_bestEdge_b72 (N : Nat) (K : am_K) (F : am_F) (I : am_I) (a0 : Nat) (k10 : Int → Int → Option Int) (x1 : Int) (x2 : Int) : Option Int :=
  if am_inI (x2 + 1) then am_lt (x2 + 1) (fun x2_2 => k10 x1 x2_2) else none
theorem w_X9_bestEdge_b72 {η : am_E} {l : Launch} {N : Nat} {n : Nat} {K : am_K} {I : am_I} {F : am_F} {a0 : Nat} {r0 : Int} {k10 : Int → Int → Option Int} {x1 : Int} {x2 : Int} (h0 : (K a0).1 = 9) (H10 : ∀ (x1 : Int) (x2 : Int), k10 x1 x2 = some r0 → Ok η l M_X9_bestEdge (am_qm η (am_pS 1 (r0, I) n K F) 0 0) 10 [(0, qr a0), (1, qi x1), (2, qi x2)] [] n K I F 0 0) : X9_bestEdge_b72 N K F I a0 k10 x1 x2 = some r0 → Ok η l M_X9_bestEdge (am_qm η (am_pS 1 (r0, I) n K F) 0 0) 72 [(0, qr a0), (1, qi x1), (2, qi x2)] [] n K I F 0 0 := by
  unfold X9_bestEdge_b72
  refine fi_chk (fun h_1 => ?_)
  refine ok_iincL (q := 75) (fun x2_2 => [(2, qi x2_2), (0, qr a0), (1, qi x1)]) 2 dX9_bestEdge_72 rfl rfl h_1 (Nat.le_of_ble_eq_true rfl) (fun _ => rfl) (fun x2_2 => ?_)
  refine ok_goto (q := 10) dX9_bestEdge_75 rfl ?_
  exact fun g => ok_pick [1, 2, 0] rfl (H10 _ _ g)
def X9_bestEdge_b70 (N : Nat) (K : am_K) (F : am_F) (I : am_I) (a0 : Nat) (x3 : Int) : Option Int :=
  some (x3)
theorem w_X9_bestEdge_b70 {η : am_E} {l : Launch} {N : Nat} {n : Nat} {K : am_K} {I : am_I} {F : am_F} {a0 : Nat} {r0 : Int} {x3 : Int} (h0 : (K a0).1 = 9) : X9_bestEdge_b70 N K F I a0 x3 = some r0 → Ok η l M_X9_bestEdge (am_qm η (am_pS 1 (r0, I) n K F) 0 0) 70 [(0, qr a0), (3, qi x3)] [] n K I F 0 0 := by
  unfold X9_bestEdge_b70
  refine ok_iload_n (q := 71) 1 dX9_bestEdge_70 rfl rfl rfl ?_
  exact fi_ireturnP dX9_bestEdge_71 rfl
def X9_bestEdge_s10 (N : Nat) (K : am_K) (F : am_F) (I : am_I) (a0 : Nat) (k10 : Int → Int → Option Int) (x1 : Int) (x2 : Int) : Option Int :=
  if (K (F a0 0)).1 = 0 then if am_inI (x1 + 1) then if (K (F (F a0 0) 1)).1 = 100 then if (0 : Int) ≤ (x1 + 1) ∧ (x1 + 1) < (K (F (F a0 0) 1)).2 then if x2 < (I (F (F a0 0) 1) (x1 + 1)) then (if (K (F (F a0 0) 2)).1 = 100 then if (0 : Int) ≤ x2 ∧ x2 < (K (F (F a0 0) 2)).2 then am_lt (I (F (F a0 0) 2) x2) (fun x3_7 => am_cq (X9_reachOf N K F I a0 x3_7) (fun v_8 => if (K (F a0 4)).1 = 100 then if (0 : Int) ≤ x1 ∧ x1 < (K (F a0 4)).2 then if v_8 = (I (F a0 4) x1) then (if 0 < (I (F a0 4) x1) then (am_cq (X9_goesForward N K F I x3_7 x1 (F a0 5)) (fun v_11 => if v_11 = 0 then (X9_bestEdge_b72 N K F I a0 k10 x1 x2) else (X9_bestEdge_b70 N K F I a0 x3_7))) else (X9_bestEdge_b70 N K F I a0 x3_7)) else (X9_bestEdge_b72 N K F I a0 k10 x1 x2) else none else none)) else none else none) else (some ((-1))) else none else none else none else none
theorem w_X9_bestEdge_s10 {η : am_E} {l : Launch} {N : Nat} {n : Nat} {K : am_K} {I : am_I} {F : am_F} {a0 : Nat} {r0 : Int} {k10 : Int → Int → Option Int} {x1 : Int} {x2 : Int} (h0 : (K a0).1 = 9) (H10 : ∀ (x1 : Int) (x2 : Int), k10 x1 x2 = some r0 → Ok η l M_X9_bestEdge (am_qm η (am_pS 1 (r0, I) n K F) 0 0) 10 [(0, qr a0), (1, qi x1), (2, qi x2)] [] n K I F 0 0) : X9_bestEdge_s10 N K F I a0 k10 x1 x2 = some r0 → Ok η l M_X9_bestEdge (am_qm η (am_pS 1 (r0, I) n K F) 0 0) 10 [(0, qr a0), (1, qi x1), (2, qi x2)] [] n K I F 0 0 := by
  unfold X9_bestEdge_s10
  refine ok_iload_n (q := 11) 2 dX9_bestEdge_10 rfl rfl rfl ?_
  refine ok_aload_n (q := 12) 0 dX9_bestEdge_11 rfl rfl rfl ?_
  refine ok_getR (q := 15) (ci := 9) (k := 0) (x := F a0 0) dX9_bestEdge_12 rfl fo_X9_41 h0 rfl ?_
  refine fi_chk (fun h_1 => ?_)
  refine ok_getR (q := 18) (ci := 0) (k := 1) (x := F (F a0 0) 1) dX9_bestEdge_15 rfl fo_X9_103 h_1 rfl ?_
  refine ok_iload_n (q := 19) 1 dX9_bestEdge_18 rfl rfl rfl ?_
  refine ok_iconst (q := 20) (x := 1) dX9_bestEdge_19 rfl rfl (by decide) ?_
  refine fi_chk (fun h_2 => ?_)
  refine ok_iadd (q := 21) dX9_bestEdge_20 rfl h_2 ?_
  refine fi_chk (fun h_3 => ?_)
  refine fi_chk (fun h_4 => ?_)
  refine ok_iaload (q := 22) (v := I (F (F a0 0) 1) (x1 + 1)) dX9_bestEdge_21 rfl h_3 h_4.1 h_4.2 rfl ?_
  refine ok_icmp_ge (q := 78) (q2 := 25) dX9_bestEdge_22 rfl rfl ?_ ?_
  · skip
    refine ok_iconst (q := 79) (x := -1) dX9_bestEdge_78 rfl rfl (by decide) ?_
    exact fi_ireturnP dX9_bestEdge_79 rfl
  · skip
    refine ok_aload_n (q := 26) 0 dX9_bestEdge_25 rfl rfl rfl ?_
    refine ok_getR (q := 29) (ci := 9) (k := 0) (x := F a0 0) dX9_bestEdge_26 rfl fo_X9_41 h0 rfl ?_
    refine ok_getR (q := 32) (ci := 0) (k := 2) (x := F (F a0 0) 2) dX9_bestEdge_29 rfl fo_X9_106 h_1 rfl ?_
    refine ok_iload_n (q := 33) 2 dX9_bestEdge_32 rfl rfl rfl ?_
    refine fi_chk (fun h_5 => ?_)
    refine fi_chk (fun h_6 => ?_)
    refine ok_iaload (q := 34) (v := I (F (F a0 0) 2) x2) dX9_bestEdge_33 rfl h_5 h_6.1 h_6.2 rfl ?_
    refine ok_istore_nL (q := 35) (fun x3_7 => [(3, qi x3_7), (0, qr a0), (1, qi x1), (2, qi x2)]) dX9_bestEdge_34 rfl rfl (Nat.le_of_ble_eq_true rfl) (fun _ => rfl) (fun x3_7 => ?_)
    refine ok_aload_n (q := 36) 1 dX9_bestEdge_35 rfl rfl rfl ?_
    refine ok_iload_n (q := 37) 0 dX9_bestEdge_36 rfl rfl rfl ?_
    refine fi_callV1P (q := 40) (as := [qi x3_7]) (st := []) dX9_bestEdge_37 rfl mo_X9_109 h0 rfl (Nat.le_of_ble_eq_true rfl) rfl rfl (Nat.le_of_ble_eq_true rfl) (Nat.le_of_ble_eq_true rfl) (Nat.le_of_ble_eq_true rfl) (Nat.zero_le _) (Nat.zero_le _) (fun _ hr => ct_X9_reachOf (N := N) h0 hr) (fun v_8 => ?_)
    refine ok_aload_n (q := 41) 1 dX9_bestEdge_40 rfl rfl rfl ?_
    refine ok_getR (q := 44) (ci := 9) (k := 4) (x := F a0 4) dX9_bestEdge_41 rfl fo_X9_9 h0 rfl ?_
    refine ok_iload_n (q := 45) 2 dX9_bestEdge_44 rfl rfl rfl ?_
    refine fi_chk (fun h_9 => ?_)
    refine fi_chk (fun h_10 => ?_)
    refine ok_iaload (q := 46) (v := I (F a0 4) x1) dX9_bestEdge_45 rfl h_9 h_10.1 h_10.2 rfl ?_
    refine ok_icmp_ne (q := 72) (q2 := 49) dX9_bestEdge_46 rfl rfl ?_ ?_
    · skip
      exact fun g => ok_pick [1, 2, 3] rfl (w_X9_bestEdge_b72 (N := N) h0 H10 g)
    · skip
      refine ok_aload_n (q := 50) 1 dX9_bestEdge_49 rfl rfl rfl ?_
      refine ok_getR (q := 53) (ci := 9) (k := 4) (x := F a0 4) dX9_bestEdge_50 rfl fo_X9_9 h0 rfl ?_
      refine ok_iload_n (q := 54) 2 dX9_bestEdge_53 rfl rfl rfl ?_
      refine ok_iaload (q := 55) (v := I (F a0 4) x1) dX9_bestEdge_54 rfl h_9 h_10.1 h_10.2 rfl ?_
      refine ok_if_le (q := 70) (q2 := 58) dX9_bestEdge_55 rfl rfl ?_ ?_
      · skip
        exact fun g => ok_pick [1, 0] rfl (w_X9_bestEdge_b70 (N := N) h0 g)
      · skip
        refine ok_iload_n (q := 59) 0 dX9_bestEdge_58 rfl rfl rfl ?_
        refine ok_iload_n (q := 60) 2 dX9_bestEdge_59 rfl rfl rfl ?_
        refine ok_aload_n (q := 61) 1 dX9_bestEdge_60 rfl rfl rfl ?_
        refine ok_getR (q := 64) (ci := 9) (k := 5) (x := F a0 5) dX9_bestEdge_61 rfl fo_X9_15 h0 rfl ?_
        refine fi_callS1P (q := 67) (as := [qi x3_7, qi x1, qr (F a0 5)]) (st := []) dX9_bestEdge_64 rfl mo_X9_112 rfl rfl (Nat.le_of_ble_eq_true rfl) (Nat.le_of_ble_eq_true rfl) (Nat.le_of_ble_eq_true rfl) (Nat.zero_le _) (Nat.zero_le _) (fun _ hr => ct_X9_goesForward (N := N) hr) (fun v_11 => ?_)
        refine ok_if_eq (q := 72) (q2 := 70) dX9_bestEdge_67 rfl rfl ?_ ?_
        · skip
          exact fun g => ok_pick [1, 2, 3] rfl (w_X9_bestEdge_b72 (N := N) h0 H10 g)
        · skip
          exact fun g => ok_pick [1, 0] rfl (w_X9_bestEdge_b70 (N := N) h0 g)
def X9_bestEdge_h10 (N : Nat) (K : am_K) (F : am_F) (I : am_I) (a0 : Nat) : Nat → Int → Int → Option Int := am_it (fun kh => X9_bestEdge_s10 N K F I a0 kh) (fun _ _ => none)
theorem w_X9_bestEdge_h10 {η : am_E} {l : Launch} {N : Nat} {n : Nat} {K : am_K} {I : am_I} {F : am_F} {a0 : Nat} {r0 : Int} (h0 : (K a0).1 = 9) (f : Nat) : ∀ (x1 : Int) (x2 : Int), X9_bestEdge_h10 N K F I a0 f x1 x2 = some r0 → Ok η l M_X9_bestEdge (am_qm η (am_pS 1 (r0, I) n K F) 0 0) 10 [(0, qr a0), (1, qi x1), (2, qi x2)] [] n K I F 0 0 := by
  induction f with
  | zero => intro x1 x2 g; exact fi_none g
  | succ f ih => intro x1 x2 g; exact w_X9_bestEdge_s10 (N := N) h0 ih g
def X9_bestEdge (N : Nat) (K : am_K) (F : am_F) (I : am_I) (a0 : Nat) (x1 : Int) : Option Int :=
  if (K (F a0 0)).1 = 0 then if (K (F (F a0 0) 1)).1 = 100 then if (0 : Int) ≤ x1 ∧ x1 < (K (F (F a0 0) 1)).2 then am_lt (I (F (F a0 0) 1) x1) (fun x2_4 => X9_bestEdge_h10 N K F I a0 N x1 x2_4) else none else none else none
theorem w_X9_bestEdge {η : am_E} {l : Launch} {N : Nat} {n : Nat} {K : am_K} {I : am_I} {F : am_F} {a0 : Nat} {r0 : Int} {x1 : Int} (h0 : (K a0).1 = 9) : X9_bestEdge N K F I a0 x1 = some r0 → Ok η l M_X9_bestEdge (am_qm η (am_pS 1 (r0, I) n K F) 0 0) 0 [(0, qr a0), (1, qi x1)] [] n K I F 0 0 := by
  unfold X9_bestEdge
  refine ok_aload_n (q := 1) 0 dX9_bestEdge_0 rfl rfl rfl ?_
  refine ok_getR (q := 4) (ci := 9) (k := 0) (x := F a0 0) dX9_bestEdge_1 rfl fo_X9_41 h0 rfl ?_
  refine fi_chk (fun h_1 => ?_)
  refine ok_getR (q := 7) (ci := 0) (k := 1) (x := F (F a0 0) 1) dX9_bestEdge_4 rfl fo_X9_103 h_1 rfl ?_
  refine ok_iload_n (q := 8) 1 dX9_bestEdge_7 rfl rfl rfl ?_
  refine fi_chk (fun h_2 => ?_)
  refine fi_chk (fun h_3 => ?_)
  refine ok_iaload (q := 9) (v := I (F (F a0 0) 1) x1) dX9_bestEdge_8 rfl h_2 h_3.1 h_3.2 rfl ?_
  refine ok_istore_nL (q := 10) (fun x2_4 => [(2, qi x2_4), (0, qr a0), (1, qi x1)]) dX9_bestEdge_9 rfl rfl (Nat.le_of_ble_eq_true rfl) (fun _ => rfl) (fun x2_4 => ?_)
  exact fun g => ok_pick [1, 2, 0] rfl (w_X9_bestEdge_h10 (N := N) h0 N _ _ g)
theorem ct_X9_bestEdge {η : am_E} {l : Launch} {N : Nat} {n : Nat} {K : am_K} {I : am_I} {F : am_F} {a0 : Nat} {r0 : Int} {x1 : Int} (h0 : (K a0).1 = 9) : X9_bestEdge N K F I a0 x1 = some r0 → am_Ct η l yX9_bestEdge cX9_bestEdge 4 (some .int) 2 42 0 0 [qr a0, qi x1] n K I F (am_pS 1 (r0, I) n K F) := fun g => am_Ct.of false (by decide) (by decide) (Nat.le_of_ble_eq_true rfl) (fun _ => w_X9_bestEdge (N := N) h0 g)
def M_X2_indexOf : am_M := (yX2_indexOf.cls, cX2_indexOf, 3, (some .int), am_room 0 0 0 0, false)
def X2_indexOf_s2 (N : Nat) (K : am_K) (F : am_F) (I : am_I) (a0 : Nat) (k2 : Int → Int → Option Int) (x1 : Int) (x2 : Int) : Option Int :=
  if x2 < (I a0 1) then (if (K (F a0 4)).1 = 100 then if (0 : Int) ≤ x2 ∧ x2 < (K (F a0 4)).2 then if (I (F a0 4) x2) = x1 then (some (x2)) else (if am_inI (x2 + 1) then am_lt (x2 + 1) (fun x2_4 => k2 x1 x2_4) else none) else none else none) else (some ((-1)))
theorem w_X2_indexOf_s2 {η : am_E} {l : Launch} {N : Nat} {n : Nat} {K : am_K} {I : am_I} {F : am_F} {a0 : Nat} {r0 : Int} {k2 : Int → Int → Option Int} {x1 : Int} {x2 : Int} (h0 : (K a0).1 = 2) (H2 : ∀ (x1 : Int) (x2 : Int), k2 x1 x2 = some r0 → Ok η l M_X2_indexOf (am_qm η (am_pS 1 (r0, I) n K F) 0 0) 2 [(0, qr a0), (1, qi x1), (2, qi x2)] [] n K I F 0 0) : X2_indexOf_s2 N K F I a0 k2 x1 x2 = some r0 → Ok η l M_X2_indexOf (am_qm η (am_pS 1 (r0, I) n K F) 0 0) 2 [(0, qr a0), (1, qi x1), (2, qi x2)] [] n K I F 0 0 := by
  unfold X2_indexOf_s2
  refine ok_iload_n (q := 3) 2 dX2_indexOf_2 rfl rfl rfl ?_
  refine ok_aload_n (q := 4) 0 dX2_indexOf_3 rfl rfl rfl ?_
  refine ok_getI (q := 7) (ci := 2) (k := 1) (x := I a0 1) dX2_indexOf_4 rfl fo_X2_26 h0 rfl ?_
  refine ok_icmp_ge (q := 28) (q2 := 10) dX2_indexOf_7 rfl rfl ?_ ?_
  · skip
    refine ok_iconst (q := 29) (x := -1) dX2_indexOf_28 rfl rfl (by decide) ?_
    exact fi_ireturnP dX2_indexOf_29 rfl
  · skip
    refine ok_aload_n (q := 11) 0 dX2_indexOf_10 rfl rfl rfl ?_
    refine ok_getR (q := 14) (ci := 2) (k := 4) (x := F a0 4) dX2_indexOf_11 rfl fo_X2_19 h0 rfl ?_
    refine ok_iload_n (q := 15) 2 dX2_indexOf_14 rfl rfl rfl ?_
    refine fi_chk (fun h_1 => ?_)
    refine fi_chk (fun h_2 => ?_)
    refine ok_iaload (q := 16) (v := I (F a0 4) x2) dX2_indexOf_15 rfl h_1 h_2.1 h_2.2 rfl ?_
    refine ok_iload_n (q := 17) 1 dX2_indexOf_16 rfl rfl rfl ?_
    refine ok_icmp_ne (q := 22) (q2 := 20) dX2_indexOf_17 rfl rfl ?_ ?_
    · skip
      refine fi_chk (fun h_3 => ?_)
      refine ok_iincL (q := 25) (fun x2_4 => [(2, qi x2_4), (0, qr a0), (1, qi x1)]) 2 dX2_indexOf_22 rfl rfl h_3 (Nat.le_of_ble_eq_true rfl) (fun _ => rfl) (fun x2_4 => ?_)
      refine ok_goto (q := 2) dX2_indexOf_25 rfl ?_
      exact fun g => ok_pick [1, 2, 0] rfl (H2 _ _ g)
    · skip
      refine ok_iload_n (q := 21) 2 dX2_indexOf_20 rfl rfl rfl ?_
      exact fi_ireturnP dX2_indexOf_21 rfl
def X2_indexOf_h2 (N : Nat) (K : am_K) (F : am_F) (I : am_I) (a0 : Nat) : Nat → Int → Int → Option Int := am_it (fun kh => X2_indexOf_s2 N K F I a0 kh) (fun _ _ => none)
theorem w_X2_indexOf_h2 {η : am_E} {l : Launch} {N : Nat} {n : Nat} {K : am_K} {I : am_I} {F : am_F} {a0 : Nat} {r0 : Int} (h0 : (K a0).1 = 2) (f : Nat) : ∀ (x1 : Int) (x2 : Int), X2_indexOf_h2 N K F I a0 f x1 x2 = some r0 → Ok η l M_X2_indexOf (am_qm η (am_pS 1 (r0, I) n K F) 0 0) 2 [(0, qr a0), (1, qi x1), (2, qi x2)] [] n K I F 0 0 := by
  induction f with
  | zero => intro x1 x2 g; exact fi_none g
  | succ f ih => intro x1 x2 g; exact w_X2_indexOf_s2 (N := N) h0 ih g
def X2_indexOf (N : Nat) (K : am_K) (F : am_F) (I : am_I) (a0 : Nat) (x1 : Int) : Option Int :=
  X2_indexOf_h2 N K F I a0 N x1 0
theorem w_X2_indexOf {η : am_E} {l : Launch} {N : Nat} {n : Nat} {K : am_K} {I : am_I} {F : am_F} {a0 : Nat} {r0 : Int} {x1 : Int} (h0 : (K a0).1 = 2) : X2_indexOf N K F I a0 x1 = some r0 → Ok η l M_X2_indexOf (am_qm η (am_pS 1 (r0, I) n K F) 0 0) 0 [(0, qr a0), (1, qi x1)] [] n K I F 0 0 := by
  unfold X2_indexOf
  refine ok_iconst (q := 1) (x := 0) dX2_indexOf_0 rfl rfl (by decide) ?_
  refine ok_istore_n (q := 2) (ls' := [(2, qi 0), (0, qr a0), (1, qi x1)]) dX2_indexOf_1 rfl rfl (Nat.le_of_ble_eq_true rfl) rfl ?_
  exact fun g => ok_pick [1, 2, 0] rfl (w_X2_indexOf_h2 (N := N) h0 N _ _ g)
theorem ct_X2_indexOf {η : am_E} {l : Launch} {N : Nat} {n : Nat} {K : am_K} {I : am_I} {F : am_F} {a0 : Nat} {r0 : Int} {x1 : Int} (h0 : (K a0).1 = 2) : X2_indexOf N K F I a0 x1 = some r0 → am_Ct η l yX2_indexOf cX2_indexOf 3 (some .int) 0 0 0 0 [qr a0, qi x1] n K I F (am_pS 1 (r0, I) n K F) := fun g => am_Ct.of false (by decide) (by decide) (Nat.le_of_ble_eq_true rfl) (fun _ => w_X2_indexOf (N := N) h0 g)
def M_X2_follow : am_M := (yX2_follow.cls, cX2_follow, 5, none, am_room 3 65 0 0, false)
def X2_follow_b100 (N : Nat) (K : am_K) (F : am_F) (a0 : Nat) (I : am_I) : Option (Int × am_I) :=
  some (0, I)
theorem w_X2_follow_b100 {η : am_E} {l : Launch} {N : Nat} {n : Nat} {K : am_K} {I : am_I} {F : am_F} {a0 : Nat} {r0 : Int × am_I} (h0 : (K a0).1 = 2) : X2_follow_b100 N K F a0 I = some r0 → Ok η l M_X2_follow (am_qm η (am_pS 0 r0 n K F) 0 0) 100 [(0, qr a0)] [] n K I F 0 0 := by
  unfold X2_follow_b100
  exact fi_returnS dX2_follow_100 rfl
def X2_follow_s18 (N : Nat) (K : am_K) (F : am_F) (a0 : Nat) (k18 : am_I → Nat → Int → Option (Int × am_I)) (I : am_I) (a1 : Nat) (x3 : Int) : Option (Int × am_I) :=
  if (I a0 1) < 400 then (if (I a0 2) < 0 then (if (K a1).1 = 9 then am_cq (X9_bestEdge N K F I a1 x3) (fun v_2 => if v_2 < 0 then (some (0, I)) else (am_cq (X0_placeBehind N K F I v_2) (fun v_3 => am_cq (X0_pitOf N K F I v_2) (fun v_4 => if (K (F a0 3)).1 = 100 then if F a0 3 ≠ 1 then if (0 : Int) ≤ (I a0 1) ∧ (I a0 1) < (K (F a0 3)).2 then am_lt (am_u2 I (F a0 3) (I a0 1) v_4) (fun I_8 => if am_inI ((I_8 a0 1) + 1) then am_lt (am_u2 I_8 a0 1 ((I_8 a0 1) + 1)) (fun I_10 => am_cq (X2_indexOf N K F I_10 a0 v_3) (fun v_11 => am_lt (am_u2 I_10 a0 2 v_11) (fun I_12 => if (K (F a0 4)).1 = 100 then if F a0 4 ≠ 1 then if (0 : Int) ≤ (I_12 a0 1) ∧ (I_12 a0 1) < (K (F a0 4)).2 then am_lt (am_u2 I_12 (F a0 4) (I_12 a0 1) v_3) (fun I_16 => k18 I_16 a1 v_3) else none else none else none))) else none) else none else none else none)))) else none) else (X2_follow_b100 N K F a0 I)) else (X2_follow_b100 N K F a0 I)
theorem w_X2_follow_s18 {η : am_E} {l : Launch} {N : Nat} {n : Nat} {K : am_K} {I : am_I} {F : am_F} {a0 : Nat} {r0 : Int × am_I} {k18 : am_I → Nat → Int → Option (Int × am_I)} {a1 : Nat} {x3 : Int} (h0 : (K a0).1 = 2) (H18 : ∀ (I : am_I) (a1 : Nat) (x3 : Int), k18 I a1 x3 = some r0 → Ok η l M_X2_follow (am_qm η (am_pS 0 r0 n K F) 0 0) 18 [(0, qr a0), (1, qr a1), (3, qi x3)] [] n K I F 0 0) : X2_follow_s18 N K F a0 k18 I a1 x3 = some r0 → Ok η l M_X2_follow (am_qm η (am_pS 0 r0 n K F) 0 0) 18 [(0, qr a0), (1, qr a1), (3, qi x3)] [] n K I F 0 0 := by
  unfold X2_follow_s18
  refine ok_aload_n (q := 19) 0 dX2_follow_18 rfl rfl rfl ?_
  refine ok_getI (q := 22) (ci := 2) (k := 1) (x := I a0 1) dX2_follow_19 rfl fo_X2_26 h0 rfl ?_
  refine ok_sipush (q := 25) (x := 400) dX2_follow_22 rfl rfl (by decide) ?_
  refine ok_icmp_ge (q := 100) (q2 := 28) dX2_follow_25 rfl rfl ?_ ?_
  · skip
    exact fun g => ok_pick [0] rfl (w_X2_follow_b100 (N := N) h0 g)
  · skip
    refine ok_aload_n (q := 29) 0 dX2_follow_28 rfl rfl rfl ?_
    refine ok_getI (q := 32) (ci := 2) (k := 2) (x := I a0 2) dX2_follow_29 rfl fo_X2_9 h0 rfl ?_
    refine ok_if_ge (q := 100) (q2 := 35) dX2_follow_32 rfl rfl ?_ ?_
    · skip
      exact fun g => ok_pick [0] rfl (w_X2_follow_b100 (N := N) h0 g)
    · skip
      refine ok_aload_n (q := 36) 1 dX2_follow_35 rfl rfl rfl ?_
      refine ok_iload_n (q := 37) 2 dX2_follow_36 rfl rfl rfl ?_
      refine fi_chk (fun h_1 => ?_)
      refine fi_callV1P (q := 40) (as := [qi x3]) (st := []) dX2_follow_37 rfl mo_X2_32 h_1 rfl (Nat.le_of_ble_eq_true rfl) rfl rfl (Nat.le_of_ble_eq_true rfl) (Nat.le_of_ble_eq_true rfl) (Nat.le_of_ble_eq_true rfl) (Nat.zero_le _) (Nat.zero_le _) (fun _ hr => ct_X9_bestEdge (N := N) h_1 hr) (fun v_2 => ?_)
      refine ok_istore (q := 42) (ls' := [(4, qi v_2), (0, qr a0), (1, qr a1), (3, qi x3)]) dX2_follow_40 rfl (Nat.le_of_ble_eq_true rfl) rfl ?_
      refine ok_iload (q := 44) 0 dX2_follow_42 rfl rfl ?_
      refine ok_if_ge (q := 48) (q2 := 47) dX2_follow_44 rfl rfl ?_ ?_
      · skip
        refine ok_iload (q := 50) 0 dX2_follow_48 rfl rfl ?_
        refine fi_callS1P (q := 53) (as := [qi v_2]) (st := []) dX2_follow_50 rfl mo_X2_38 rfl rfl (Nat.le_of_ble_eq_true rfl) (Nat.le_of_ble_eq_true rfl) (Nat.le_of_ble_eq_true rfl) (Nat.zero_le _) (Nat.zero_le _) (fun _ hr => ct_X0_placeBehind (N := N) hr) (fun v_3 => ?_)
        refine ok_istore_n (q := 54) (ls' := [(3, qi v_3), (4, qi v_2), (0, qr a0), (1, qr a1)]) dX2_follow_53 rfl rfl (Nat.le_of_ble_eq_true rfl) rfl ?_
        refine ok_aload_n (q := 55) 2 dX2_follow_54 rfl rfl rfl ?_
        refine ok_getR (q := 58) (ci := 2) (k := 3) (x := F a0 3) dX2_follow_55 rfl fo_X2_15 h0 rfl ?_
        refine ok_aload_n (q := 59) 2 dX2_follow_58 rfl rfl rfl ?_
        refine ok_getI (q := 62) (ci := 2) (k := 1) (x := I a0 1) dX2_follow_59 rfl fo_X2_26 h0 rfl ?_
        refine ok_iload (q := 64) 1 dX2_follow_62 rfl rfl ?_
        refine fi_callS1P (q := 67) (as := [qi v_2]) (st := [qi (I a0 1), qr (F a0 3)]) dX2_follow_64 rfl mo_X2_43 rfl rfl (Nat.le_of_ble_eq_true rfl) (Nat.le_of_ble_eq_true rfl) (Nat.le_of_ble_eq_true rfl) (Nat.zero_le _) (Nat.zero_le _) (fun _ hr => ct_X0_pitOf (N := N) hr) (fun v_4 => ?_)
        refine fi_chk (fun h_5 => ?_)
        refine fi_chk (fun h_6 => ?_)
        refine fi_chk (fun h_7 => ?_)
        refine ok_iastore (q := 68) dX2_follow_67 rfl h_5 h_6 h_7.1 h_7.2 (fun I_8 => ?_)
        refine ok_aload_n (q := 69) 2 dX2_follow_68 rfl rfl rfl ?_
        refine ok_dup (q := 70) dX2_follow_69 rfl rfl ?_
        refine ok_getI (q := 73) (ci := 2) (k := 1) (x := I_8 a0 1) dX2_follow_70 rfl fo_X2_26 h0 rfl ?_
        refine ok_iconst (q := 74) (x := 1) dX2_follow_73 rfl rfl (by decide) ?_
        refine fi_chk (fun h_9 => ?_)
        refine ok_iadd (q := 75) dX2_follow_74 rfl h_9 ?_
        refine ok_putI (q := 78) (ci := 2) (k := 1) dX2_follow_75 rfl fo_X2_26 h0 ft_2_1 ff_2_1 (fun I_10 => ?_)
        refine ok_aload_n (q := 79) 2 dX2_follow_78 rfl rfl rfl ?_
        refine ok_aload_n (q := 80) 2 dX2_follow_79 rfl rfl rfl ?_
        refine ok_iload_n (q := 81) 0 dX2_follow_80 rfl rfl rfl ?_
        refine fi_callV1P (q := 84) (as := [qi v_3]) (st := [qr a0]) dX2_follow_81 rfl mo_X2_46 h0 rfl (Nat.le_of_ble_eq_true rfl) rfl rfl (Nat.le_of_ble_eq_true rfl) (Nat.le_of_ble_eq_true rfl) (Nat.le_of_ble_eq_true rfl) (Nat.zero_le _) (Nat.zero_le _) (fun _ hr => ct_X2_indexOf (N := N) h0 hr) (fun v_11 => ?_)
        refine ok_putI (q := 87) (ci := 2) (k := 2) dX2_follow_84 rfl fo_X2_9 h0 ft_2_2 ff_2_2 (fun I_12 => ?_)
        refine ok_aload_n (q := 88) 2 dX2_follow_87 rfl rfl rfl ?_
        refine ok_getR (q := 91) (ci := 2) (k := 4) (x := F a0 4) dX2_follow_88 rfl fo_X2_19 h0 rfl ?_
        refine ok_aload_n (q := 92) 2 dX2_follow_91 rfl rfl rfl ?_
        refine ok_getI (q := 95) (ci := 2) (k := 1) (x := I_12 a0 1) dX2_follow_92 rfl fo_X2_26 h0 rfl ?_
        refine ok_iload_n (q := 96) 0 dX2_follow_95 rfl rfl rfl ?_
        refine fi_chk (fun h_13 => ?_)
        refine fi_chk (fun h_14 => ?_)
        refine fi_chk (fun h_15 => ?_)
        refine ok_iastore (q := 97) dX2_follow_96 rfl h_13 h_14 h_15.1 h_15.2 (fun I_16 => ?_)
        refine ok_goto (q := 18) dX2_follow_97 rfl ?_
        exact fun g => ok_pick [2, 3, 0] rfl (H18 _ _ _ g)
      · skip
        exact fi_returnS dX2_follow_47 rfl
def X2_follow_h18 (N : Nat) (K : am_K) (F : am_F) (a0 : Nat) : Nat → am_I → Nat → Int → Option (Int × am_I) := am_it (fun kh => X2_follow_s18 N K F a0 kh) (fun _ _ _ => none)
theorem w_X2_follow_h18 {η : am_E} {l : Launch} {N : Nat} {n : Nat} {K : am_K} {F : am_F} {a0 : Nat} {r0 : Int × am_I} (h0 : (K a0).1 = 2) (f : Nat) : ∀ (I : am_I) (a1 : Nat) (x3 : Int), X2_follow_h18 N K F a0 f I a1 x3 = some r0 → Ok η l M_X2_follow (am_qm η (am_pS 0 r0 n K F) 0 0) 18 [(0, qr a0), (1, qr a1), (3, qi x3)] [] n K I F 0 0 := by
  induction f with
  | zero => intro I a1 x3 g; exact fi_none g
  | succ f ih => intro I a1 x3 g; exact w_X2_follow_s18 (N := N) h0 ih g
def X2_follow (N : Nat) (K : am_K) (F : am_F) (a0 : Nat) (I : am_I) (a1 : Nat) (x2 : Int) : Option (Int × am_I) :=
  am_cl (X2_clear N K F a0 I) (fun _ I_1 => am_lt (am_u2 I_1 a0 0 1) (fun I_2 => if (K (F a0 4)).1 = 100 then if F a0 4 ≠ 1 then if (0 : Int) ≤ 0 ∧ 0 < (K (F a0 4)).2 then am_lt (am_u2 I_2 (F a0 4) 0 x2) (fun I_6 => X2_follow_h18 N K F a0 N I_6 a1 x2) else none else none else none))
theorem w_X2_follow {η : am_E} {l : Launch} {N : Nat} {n : Nat} {K : am_K} {I : am_I} {F : am_F} {a0 : Nat} {r0 : Int × am_I} {a1 : Nat} {x2 : Int} (h0 : (K a0).1 = 2) : X2_follow N K F a0 I a1 x2 = some r0 → Ok η l M_X2_follow (am_qm η (am_pS 0 r0 n K F) 0 0) 0 [(0, qr a0), (1, qr a1), (2, qi x2)] [] n K I F 0 0 := by
  unfold X2_follow
  refine ok_aload_n (q := 1) 0 dX2_follow_0 rfl rfl rfl ?_
  refine fi_callV0S (q := 4) (as := []) (st := []) dX2_follow_1 rfl mo_X2_29 h0 rfl (Nat.le_of_ble_eq_true rfl) rfl rfl (Nat.le_of_ble_eq_true rfl) (Nat.le_of_ble_eq_true rfl) (Nat.le_of_ble_eq_true rfl) (Nat.zero_le _) (Nat.zero_le _) (fun _ hr => ct_X2_clear (N := N) h0 hr) (fun _ I_1 => ?_)
  refine ok_aload_n (q := 5) 0 dX2_follow_4 rfl rfl rfl ?_
  refine ok_iconst (q := 6) (x := 1) dX2_follow_5 rfl rfl (by decide) ?_
  refine ok_putZ (q := 9) (ci := 2) (k := 0) dX2_follow_6 rfl fo_X2_22 h0 ft_2_0 (by decide) ff_2_0 (fun I_2 => ?_)
  refine ok_iload_n (q := 10) 2 dX2_follow_9 rfl rfl rfl ?_
  refine ok_istore_n (q := 11) (ls' := [(3, qi x2), (0, qr a0), (1, qr a1), (2, qi x2)]) dX2_follow_10 rfl rfl (Nat.le_of_ble_eq_true rfl) rfl ?_
  refine ok_aload_n (q := 12) 1 dX2_follow_11 rfl rfl rfl ?_
  refine ok_getR (q := 15) (ci := 2) (k := 4) (x := F a0 4) dX2_follow_12 rfl fo_X2_19 h0 rfl ?_
  refine ok_iconst (q := 16) (x := 0) dX2_follow_15 rfl rfl (by decide) ?_
  refine ok_iload_n (q := 17) 3 dX2_follow_16 rfl rfl rfl ?_
  refine fi_chk (fun h_3 => ?_)
  refine fi_chk (fun h_4 => ?_)
  refine fi_chk (fun h_5 => ?_)
  refine ok_iastore (q := 18) dX2_follow_17 rfl h_3 h_4 h_5.1 h_5.2 (fun I_6 => ?_)
  exact fun g => ok_pick [1, 2, 0] rfl (w_X2_follow_h18 (N := N) h0 N _ _ _ g)
theorem ct_X2_follow {η : am_E} {l : Launch} {N : Nat} {n : Nat} {K : am_K} {I : am_I} {F : am_F} {a0 : Nat} {r0 : Int × am_I} {a1 : Nat} {x2 : Int} (h0 : (K a0).1 = 2) : X2_follow N K F a0 I a1 x2 = some r0 → am_Ct η l yX2_follow cX2_follow 5 none 3 65 0 0 [qr a0, qr a1, qi x2] n K I F (am_pS 0 r0 n K F) := fun g => am_Ct.of false (by decide) (by decide) (Nat.le_of_ble_eq_true rfl) (fun _ => w_X2_follow (N := N) h0 g)
def M_X3_init (mc ms : Nat) : am_M := (yX3_init.cls, cX3_init, 3, none, am_room 1 20 mc ms, true)
def X3_init_b78 (N : Nat) (a0 : Nat) (k36 : Nat → am_K → am_I → am_F → Nat → Nat → Int → Option am_A) (n : Nat) (K : am_K) (I : am_I) (F : am_F) (c z : Nat) (x2 : Int) (s0 : Int) (s1 : Int) (s2 : Int) (t3 : Nat) : Option am_A :=
  am_mo c z (if (K t3).1 = 102 then if t3 ≠ 1 then if (0 : Int) ≤ s2 ∧ s2 < (K t3).2 then am_lt (am_u2 I t3 s2 (am_wL (s1 + s0))) (fun I_6 => if am_inI (x2 + 1) then am_lt (x2 + 1) (fun x2_8 => k36 n K I_6 F c z x2_8) else none) else none else none else none)
theorem w_X3_init_b78 {η : am_E} {l : Launch} {N : Nat} {n : Nat} {K : am_K} {I : am_I} {F : am_F} {c z : Nat} {a0 : Nat} {r0 : am_A} {k36 : Nat → am_K → am_I → am_F → Nat → Nat → Int → Option am_A} {x2 : Int} {s0 : Int} {s1 : Int} {s2 : Int} {t3 : Nat} (H36 : ∀ (n : Nat) (K : am_K) (I : am_I) (F : am_F) (c : Nat) (z : Nat) (x2 : Int), k36 n K I F c z x2 = some r0 → Ok η l (M_X3_init (am_ac1 r0) (am_az1 r0)) (am_qm η (am_pA 0 r0) (am_ac1 r0) (am_az1 r0)) 36 [(0, qr a0), (2, qi x2)] [] n K I F c z) : X3_init_b78 N a0 k36 n K I F c z x2 s0 s1 s2 t3 = some r0 → Ok η l (M_X3_init (am_ac1 r0) (am_az1 r0)) (am_qm η (am_pA 0 r0) (am_ac1 r0) (am_az1 r0)) 78 [(0, qr a0), (2, qi x2)] [ql s0, ql s1, qi s2, qr t3] n K I F c z := by
  unfold X3_init_b78
  refine fi_mo (fun hc_1 hz_2 => ?_)
  refine ok_laddW (q := 79) dX3_init_78 rfl ?_
  refine fi_chk (fun h_3 => ?_)
  refine fi_chk (fun h_4 => ?_)
  refine fi_chk (fun h_5 => ?_)
  refine ok_lastore (q := 80) dX3_init_79 rfl h_3 h_4 h_5.1 h_5.2 (fun I_6 => ?_)
  refine fi_chk (fun h_7 => ?_)
  refine ok_iincL (q := 83) (fun x2_8 => [(2, qi x2_8), (0, qr a0)]) 1 dX3_init_80 rfl rfl h_7 (Nat.le_of_ble_eq_true rfl) (fun _ => rfl) (fun x2_8 => ?_)
  refine ok_goto (q := 36) dX3_init_83 rfl ?_
  exact fun g => ok_pick [1, 0] rfl (H36 _ _ _ _ _ _ _ g)
def X3_init_s36 (N : Nat) (a0 : Nat) (k36 : Nat → am_K → am_I → am_F → Nat → Nat → Int → Option am_A) (n : Nat) (K : am_K) (I : am_I) (F : am_F) (c z : Nat) (x2 : Int) : Option am_A :=
  am_mo c z (if (K a0).1 = 3 then if (K (F a0 1)).1 = 102 then if am_inI (K (F a0 1)).2 then if x2 < ((K (F a0 1)).2) then (if am_inI (x2 - 13) then if (0 : Int) ≤ (x2 - 13) ∧ (x2 - 13) < (K (F a0 1)).2 then if 13 ≠ (0 : Int) then if (am_irem x2 13) = 0 then (X3_init_b78 N a0 k36 n K I F c z x2 0 (I (F a0 1) (x2 - 13)) x2 (F a0 1)) else (if am_inI (x2 - 1) then if (0 : Int) ≤ (x2 - 1) ∧ (x2 - 1) < (K (F a0 1)).2 then X3_init_b78 N a0 k36 n K I F c z x2 (I (F a0 1) (x2 - 1)) (I (F a0 1) (x2 - 13)) x2 (F a0 1) else none else none) else none else none else none) else (some (0, n, K, I, F, c, z)) else none else none else none)
theorem w_X3_init_s36 {η : am_E} {l : Launch} {N : Nat} {n : Nat} {K : am_K} {I : am_I} {F : am_F} {c z : Nat} {a0 : Nat} {r0 : am_A} {k36 : Nat → am_K → am_I → am_F → Nat → Nat → Int → Option am_A} {x2 : Int} (H36 : ∀ (n : Nat) (K : am_K) (I : am_I) (F : am_F) (c : Nat) (z : Nat) (x2 : Int), k36 n K I F c z x2 = some r0 → Ok η l (M_X3_init (am_ac1 r0) (am_az1 r0)) (am_qm η (am_pA 0 r0) (am_ac1 r0) (am_az1 r0)) 36 [(0, qr a0), (2, qi x2)] [] n K I F c z) : X3_init_s36 N a0 k36 n K I F c z x2 = some r0 → Ok η l (M_X3_init (am_ac1 r0) (am_az1 r0)) (am_qm η (am_pA 0 r0) (am_ac1 r0) (am_az1 r0)) 36 [(0, qr a0), (2, qi x2)] [] n K I F c z := by
  unfold X3_init_s36
  refine fi_mo (fun hc_1 hz_2 => ?_)
  refine ok_iload_n (q := 37) 1 dX3_init_36 rfl rfl rfl ?_
  refine ok_aload_n (q := 38) 0 dX3_init_37 rfl rfl rfl ?_
  refine fi_chk (fun h_3 => ?_)
  refine ok_getR (q := 41) (ci := 3) (k := 1) (x := F a0 1) dX3_init_38 rfl fo_X3_11 h_3 rfl ?_
  refine fi_chk (fun h_4 => ?_)
  refine fi_chk (fun h_5 => ?_)
  refine ok_arraylength (q := 42) (i := 2) dX3_init_41 rfl h_4 (by decide) rfl rfl h_5 ?_
  refine ok_icmp_ge (q := 86) (q2 := 45) dX3_init_42 rfl rfl ?_ ?_
  · skip
    exact fi_returnA dX3_init_86 rfl
  · skip
    refine ok_aload_n (q := 46) 0 dX3_init_45 rfl rfl rfl ?_
    refine ok_getR (q := 49) (ci := 3) (k := 1) (x := F a0 1) dX3_init_46 rfl fo_X3_11 h_3 rfl ?_
    refine ok_iload_n (q := 50) 1 dX3_init_49 rfl rfl rfl ?_
    refine ok_aload_n (q := 51) 0 dX3_init_50 rfl rfl rfl ?_
    refine ok_getR (q := 54) (ci := 3) (k := 1) (x := F a0 1) dX3_init_51 rfl fo_X3_11 h_3 rfl ?_
    refine ok_iload_n (q := 55) 1 dX3_init_54 rfl rfl rfl ?_
    refine ok_bipush (q := 57) (x := 13) dX3_init_55 rfl rfl (by decide) ?_
    refine fi_chk (fun h_6 => ?_)
    refine ok_isub (q := 58) dX3_init_57 rfl h_6 ?_
    refine fi_chk (fun h_7 => ?_)
    refine ok_laload (q := 59) (v := I (F a0 1) (x2 - 13)) dX3_init_58 rfl h_4 h_7.1 h_7.2 rfl ?_
    refine ok_iload_n (q := 60) 1 dX3_init_59 rfl rfl rfl ?_
    refine ok_bipush (q := 62) (x := 13) dX3_init_60 rfl rfl (by decide) ?_
    refine fi_chk (fun h_8 => ?_)
    refine ok_irem (q := 63) (r := am_irem x2 13) dX3_init_62 rfl h_8 rfl ?_
    refine ok_if_ne (q := 70) (q2 := 66) dX3_init_63 rfl rfl ?_ ?_
    · skip
      refine ok_aload_n (q := 71) 0 dX3_init_70 rfl rfl rfl ?_
      refine ok_getR (q := 74) (ci := 3) (k := 1) (x := F a0 1) dX3_init_71 rfl fo_X3_11 h_3 rfl ?_
      refine ok_iload_n (q := 75) 1 dX3_init_74 rfl rfl rfl ?_
      refine ok_iconst (q := 76) (x := 1) dX3_init_75 rfl rfl (by decide) ?_
      refine fi_chk (fun h_9 => ?_)
      refine ok_isub (q := 77) dX3_init_76 rfl h_9 ?_
      refine fi_chk (fun h_10 => ?_)
      refine ok_laload (q := 78) (v := I (F a0 1) (x2 - 1)) dX3_init_77 rfl h_4 h_10.1 h_10.2 rfl ?_
      exact fun g => ok_pick [0, 1] rfl (w_X3_init_b78 (N := N) H36 g)
    · skip
      refine ok_lconst (q := 67) (x := 0) dX3_init_66 rfl rfl (by decide) ?_
      refine ok_goto (q := 78) dX3_init_67 rfl ?_
      exact fun g => ok_pick [0, 1] rfl (w_X3_init_b78 (N := N) H36 g)
def X3_init_h36 (N : Nat) (a0 : Nat) : Nat → Nat → am_K → am_I → am_F → Nat → Nat → Int → Option am_A := am_it (fun kh => X3_init_s36 N a0 kh) (fun _ _ _ _ _ _ _ => none)
theorem w_X3_init_h36 {η : am_E} {l : Launch} {N : Nat}  {a0 : Nat} {r0 : am_A} (f : Nat) : ∀ (n : Nat) (K : am_K) (I : am_I) (F : am_F) (c : Nat) (z : Nat) (x2 : Int), X3_init_h36 N a0 f n K I F c z x2 = some r0 → Ok η l (M_X3_init (am_ac1 r0) (am_az1 r0)) (am_qm η (am_pA 0 r0) (am_ac1 r0) (am_az1 r0)) 36 [(0, qr a0), (2, qi x2)] [] n K I F c z := by
  induction f with
  | zero => intro n K I F c z x2 g; exact fi_none g
  | succ f ih => intro n K I F c z x2 g; exact w_X3_init_s36 (N := N) ih g
def X3_init (N : Nat) (a0 : Nat) (n : Nat) (K : am_K) (I : am_I) (F : am_F) (a1 : Nat) : Option am_A :=
  if a0 ≠ 0 then if (0 : Int) ≤ 442 ∧ 442 ≤ (60000000 : Int) then am_nw n (102, 442) K I F (fun n_2 K_3 I_4 F_5 => am_mo (0 + 1) (0 + (442 : Int).toNat) (if (K_3 a0).1 = 3 then am_lt (am_u2 F_5 a0 1 n) (fun F_11 => if (0 : Int) ≤ 32 ∧ 32 ≤ (60000000 : Int) then am_nw n_2 (100, 32) K_3 I_4 F_11 (fun n_12 K_13 I_14 F_15 => am_mo ((0 + 1) + 1) ((0 + (442 : Int).toNat) + (32 : Int).toNat) (if (K_13 a0).1 = 3 then am_lt (am_u2 F_15 a0 2 n_2) (fun F_21 => am_lt (am_u2 F_21 a0 0 a1) (fun F_22 => if (K_13 (F_22 a0 1)).1 = 102 then if F_22 a0 1 ≠ 1 then if (0 : Int) ≤ 0 ∧ 0 < (K_13 (F_22 a0 1)).2 then am_lt (am_u2 I_14 (F_22 a0 1) 0 1) (fun I_26 => X3_init_h36 N a0 N n_12 K_13 I_26 F_22 ((0 + 1) + 1) ((0 + (442 : Int).toNat) + (32 : Int).toNat) 13) else none else none else none)) else none)) else none) else none)) else none else none
theorem w_X3_init {η : am_E} {l : Launch} {N : Nat} {n : Nat} {K : am_K} {I : am_I} {F : am_F} {a0 : Nat} {r0 : am_A} {a1 : Nat} (h0 : (K a0).1 = 3) : X3_init N a0 n K I F a1 = some r0 → Ok η l (M_X3_init (am_ac1 r0) (am_az1 r0)) (am_qm η (am_pA 0 r0) (am_ac1 r0) (am_az1 r0)) 0 [(0, qr a0), (1, qr a1)] [] n K I F 0 0 := by
  unfold X3_init
  refine ok_aload_n (q := 1) 0 dX3_init_0 rfl rfl rfl ?_
  refine fi_chk (fun h_1 => ?_)
  refine ok_objInit (q := 4) dX3_init_1 rfl oi_X3_3 h_1 (Nat.le_of_ble_eq_true rfl) (Nat.le_of_ble_eq_true rfl) (Nat.le_of_ble_eq_true rfl) ?_
  refine ok_aload_n (q := 5) 0 dX3_init_4 rfl rfl rfl ?_
  refine ok_sipush (q := 8) (x := 442) dX3_init_5 rfl rfl (by decide) ?_
  refine fi_chk (fun h_6 => ?_)
  refine fi_newl (q := 10) dX3_init_8 rfl h_6 na_newl (Nat.le_refl _) (Nat.le_refl _) (fun n_2 K_3 I_4 F_5 hc_8 hz_9 h_7 => ?_)
  refine fi_chk (fun h_10 => ?_)
  refine ok_putRF (q := 13) (ci := 3) (k := 1) dX3_init_10 rfl fo_X3_11 h_10 ft_3_1 rfl ff_3_1 rfl rfl (fun F_11 => ?_)
  refine ok_aload_n (q := 14) 0 dX3_init_13 rfl rfl rfl ?_
  refine ok_bipush (q := 16) (x := 32) dX3_init_14 rfl rfl (by decide) ?_
  refine fi_chk (fun h_16 => ?_)
  refine fi_newi (q := 18) dX3_init_16 rfl h_16 na_newi (Nat.le_refl _) (Nat.le_refl _) (fun n_12 K_13 I_14 F_15 hc_18 hz_19 h_17 => ?_)
  refine fi_chk (fun h_20 => ?_)
  refine ok_putRF (q := 21) (ci := 3) (k := 2) dX3_init_18 rfl fo_X3_15 h_20 ft_3_2 rfl ff_3_2 rfl rfl (fun F_21 => ?_)
  refine ok_aload_n (q := 22) 0 dX3_init_21 rfl rfl rfl ?_
  refine ok_aload_n (q := 23) 1 dX3_init_22 rfl rfl rfl ?_
  refine ok_putRF (q := 26) (ci := 3) (k := 0) dX3_init_23 rfl fo_X3_19 h_20 ft_3_0 rfl ff_3_0 rfl rfl (fun F_22 => ?_)
  refine ok_aload_n (q := 27) 0 dX3_init_26 rfl rfl rfl ?_
  refine ok_getR (q := 30) (ci := 3) (k := 1) (x := F_22 a0 1) dX3_init_27 rfl fo_X3_11 h_20 rfl ?_
  refine ok_iconst (q := 31) (x := 0) dX3_init_30 rfl rfl (by decide) ?_
  refine ok_lconst (q := 32) (x := 1) dX3_init_31 rfl rfl (by decide) ?_
  refine fi_chk (fun h_23 => ?_)
  refine fi_chk (fun h_24 => ?_)
  refine fi_chk (fun h_25 => ?_)
  refine ok_lastore (q := 33) dX3_init_32 rfl h_23 h_24 h_25.1 h_25.2 (fun I_26 => ?_)
  refine ok_bipush (q := 35) (x := 13) dX3_init_33 rfl rfl (by decide) ?_
  refine ok_istore_n (q := 36) (ls' := [(2, qi 13), (0, qr a0), (1, qr a1)]) dX3_init_35 rfl rfl (Nat.le_of_ble_eq_true rfl) rfl ?_
  exact fun g => ok_pick [1, 0] rfl (w_X3_init_h36 (N := N) N _ _ _ _ _ _ _ g)
theorem ct_X3_init {η : am_E} {l : Launch} {N : Nat} {n : Nat} {K : am_K} {I : am_I} {F : am_F} {a0 : Nat} {r0 : am_A} {a1 : Nat} (h0 : (K a0).1 = 3) : X3_init N a0 n K I F a1 = some r0 → am_Ct η l yX3_init cX3_init 3 none 1 20 (am_ac1 r0) (am_az1 r0) [qr a0, qr a1] n K I F (am_pA 0 r0) := fun g => am_Ct.of true (by decide) (by decide) (Nat.le_of_ble_eq_true rfl) (fun _ => w_X3_init (N := N) h0 g)
def M_X3_boardsOf : am_M := (yX3_boardsOf.cls, cX3_boardsOf, 2, (some .long), am_room 1 22 0 0, false)
def X3_boardsOf (N : Nat) (K : am_K) (F : am_F) (I : am_I) (a0 : Nat) (x1 : Int) : Option Int :=
  if (K (F a0 0)).1 = 1 then am_cq (X3_waysOf N K F I a0 (I (F a0 0) 3) x1) (fun v_2 => some (v_2)) else none
theorem w_X3_boardsOf {η : am_E} {l : Launch} {N : Nat} {n : Nat} {K : am_K} {I : am_I} {F : am_F} {a0 : Nat} {r0 : Int} {x1 : Int} (h0 : (K a0).1 = 3) : X3_boardsOf N K F I a0 x1 = some r0 → Ok η l M_X3_boardsOf (am_qm η (am_pS 2 (r0, I) n K F) 0 0) 0 [(0, qr a0), (1, qi x1)] [] n K I F 0 0 := by
  unfold X3_boardsOf
  refine ok_aload_n (q := 1) 0 dX3_boardsOf_0 rfl rfl rfl ?_
  refine ok_aload_n (q := 2) 0 dX3_boardsOf_1 rfl rfl rfl ?_
  refine ok_getR (q := 5) (ci := 3) (k := 0) (x := F a0 0) dX3_boardsOf_2 rfl fo_X3_19 h0 rfl ?_
  refine fi_chk (fun h_1 => ?_)
  refine ok_getI (q := 8) (ci := 1) (k := 3) (x := I (F a0 0) 3) dX3_boardsOf_5 rfl fo_X3_23 h_1 rfl ?_
  refine ok_iload_n (q := 9) 1 dX3_boardsOf_8 rfl rfl rfl ?_
  refine fi_callV2P (q := 12) (as := [qi (I (F a0 0) 3), qi x1]) (st := []) dX3_boardsOf_9 rfl mo_X3_29 h0 rfl (Nat.le_of_ble_eq_true rfl) rfl rfl (Nat.le_of_ble_eq_true rfl) (Nat.le_of_ble_eq_true rfl) (Nat.le_of_ble_eq_true rfl) (Nat.zero_le _) (Nat.zero_le _) (fun _ hr => ct_X3_waysOf (N := N) h0 hr) (fun v_2 => ?_)
  exact fi_lreturnP dX3_boardsOf_12 rfl
theorem ct_X3_boardsOf {η : am_E} {l : Launch} {N : Nat} {n : Nat} {K : am_K} {I : am_I} {F : am_F} {a0 : Nat} {r0 : Int} {x1 : Int} (h0 : (K a0).1 = 3) : X3_boardsOf N K F I a0 x1 = some r0 → am_Ct η l yX3_boardsOf cX3_boardsOf 2 (some .long) 1 22 0 0 [qr a0, qi x1] n K I F (am_pS 2 (r0, I) n K F) := fun g => am_Ct.of false (by decide) (by decide) (Nat.le_of_ble_eq_true rfl) (fun _ => w_X3_boardsOf (N := N) h0 g)
def M_X3_seedsOfBoard : am_M := (yX3_seedsOfBoard.cls, cX3_seedsOfBoard, 4, (some .int), am_room 3 72 0 0, false)
def X3_seedsOfBoard (N : Nat) (K : am_K) (F : am_F) (a0 : Nat) (I : am_I) (x1 : Int) (x3 : Int) : Option (Int × am_I) :=
  am_cl (X3_fill N K F a0 I (F a0 2) x1) (fun _ I_1 => if (K (F a0 0)).1 = 1 then if (K (F (F a0 0) 5)).1 = 100 then if (0 : Int) ≤ x3 ∧ x3 < (K (F (F a0 0) 5)).2 then if (K (F a0 2)).1 = 100 then if (0 : Int) ≤ (I_1 (F (F a0 0) 5) x3) ∧ (I_1 (F (F a0 0) 5) x3) < (K (F a0 2)).2 then some (I_1 (F a0 2) (I_1 (F (F a0 0) 5) x3), I_1) else none else none else none else none else none)
theorem w_X3_seedsOfBoard {η : am_E} {l : Launch} {N : Nat} {n : Nat} {K : am_K} {I : am_I} {F : am_F} {a0 : Nat} {r0 : Int × am_I} {x1 : Int} {x3 : Int} (h0 : (K a0).1 = 3) : X3_seedsOfBoard N K F a0 I x1 x3 = some r0 → Ok η l M_X3_seedsOfBoard (am_qm η (am_pS 1 r0 n K F) 0 0) 0 [(0, qr a0), (1, ql x1), (3, qi x3)] [] n K I F 0 0 := by
  unfold X3_seedsOfBoard
  refine ok_aload_n (q := 1) 0 dX3_seedsOfBoard_0 rfl rfl rfl ?_
  refine ok_aload_n (q := 2) 0 dX3_seedsOfBoard_1 rfl rfl rfl ?_
  refine ok_getR (q := 5) (ci := 3) (k := 2) (x := F a0 2) dX3_seedsOfBoard_2 rfl fo_X3_15 h0 rfl ?_
  refine ok_lload_n (q := 6) 1 dX3_seedsOfBoard_5 rfl rfl rfl ?_
  refine fi_callV0S (q := 9) (as := [qr (F a0 2), ql x1]) (st := []) dX3_seedsOfBoard_6 rfl mo_X3_44 h0 rfl (Nat.le_of_ble_eq_true rfl) rfl rfl (Nat.le_of_ble_eq_true rfl) (Nat.le_of_ble_eq_true rfl) (Nat.le_of_ble_eq_true rfl) (Nat.zero_le _) (Nat.zero_le _) (fun _ hr => ct_X3_fill (N := N) h0 hr) (fun _ I_1 => ?_)
  refine ok_aload_n (q := 10) 0 dX3_seedsOfBoard_9 rfl rfl rfl ?_
  refine ok_getR (q := 13) (ci := 3) (k := 2) (x := F a0 2) dX3_seedsOfBoard_10 rfl fo_X3_15 h0 rfl ?_
  refine ok_aload_n (q := 14) 0 dX3_seedsOfBoard_13 rfl rfl rfl ?_
  refine ok_getR (q := 17) (ci := 3) (k := 0) (x := F a0 0) dX3_seedsOfBoard_14 rfl fo_X3_19 h0 rfl ?_
  refine fi_chk (fun h_2 => ?_)
  refine ok_getR (q := 20) (ci := 1) (k := 5) (x := F (F a0 0) 5) dX3_seedsOfBoard_17 rfl fo_X3_41 h_2 rfl ?_
  refine ok_iload_n (q := 21) 2 dX3_seedsOfBoard_20 rfl rfl rfl ?_
  refine fi_chk (fun h_3 => ?_)
  refine fi_chk (fun h_4 => ?_)
  refine ok_iaload (q := 22) (v := I_1 (F (F a0 0) 5) x3) dX3_seedsOfBoard_21 rfl h_3 h_4.1 h_4.2 rfl ?_
  refine fi_chk (fun h_5 => ?_)
  refine fi_chk (fun h_6 => ?_)
  refine ok_iaload (q := 23) (v := I_1 (F a0 2) (I_1 (F (F a0 0) 5) x3)) dX3_seedsOfBoard_22 rfl h_5 h_6.1 h_6.2 rfl ?_
  exact fi_ireturnS dX3_seedsOfBoard_23 rfl
theorem ct_X3_seedsOfBoard {η : am_E} {l : Launch} {N : Nat} {n : Nat} {K : am_K} {I : am_I} {F : am_F} {a0 : Nat} {r0 : Int × am_I} {x1 : Int} {x3 : Int} (h0 : (K a0).1 = 3) : X3_seedsOfBoard N K F a0 I x1 x3 = some r0 → am_Ct η l yX3_seedsOfBoard cX3_seedsOfBoard 4 (some .int) 3 72 0 0 [qr a0, ql x1, qi x3] n K I F (am_pS 1 r0 n K F) := fun g => am_Ct.of false (by decide) (by decide) (Nat.le_of_ble_eq_true rfl) (fun _ => w_X3_seedsOfBoard (N := N) h0 g)
def M_X4_init (mc ms : Nat) : am_M := (yX4_init.cls, cX4_init, 1, none, am_room 1 20 mc ms, true)
def X4_init (N : Nat) (a0 : Nat) (n : Nat) (K : am_K) (I : am_I) (F : am_F) : Option am_A :=
  if a0 ≠ 0 then if (0 : Int) ≤ 16 ∧ 16 ≤ (60000000 : Int) then am_nw n (100, 16) K I F (fun n_2 K_3 I_4 F_5 => am_mo (0 + 1) (0 + (16 : Int).toNat) (if (K_3 a0).1 = 4 then am_lt (am_u2 F_5 a0 2 n) (fun F_11 => if (0 : Int) ≤ 544 ∧ 544 ≤ (60000000 : Int) then am_nw n_2 (100, 544) K_3 I_4 F_11 (fun n_12 K_13 I_14 F_15 => am_mo ((0 + 1) + 1) ((0 + (16 : Int).toNat) + (544 : Int).toNat) (if (K_13 a0).1 = 4 then am_lt (am_u2 F_15 a0 3 n_2) (fun F_21 => some (0, n_12, K_13, I_14, F_21, ((0 + 1) + 1), ((0 + (16 : Int).toNat) + (544 : Int).toNat))) else none)) else none) else none)) else none else none
theorem w_X4_init {η : am_E} {l : Launch} {N : Nat} {n : Nat} {K : am_K} {I : am_I} {F : am_F} {a0 : Nat} {r0 : am_A} (h0 : (K a0).1 = 4) : X4_init N a0 n K I F = some r0 → Ok η l (M_X4_init (am_ac1 r0) (am_az1 r0)) (am_qm η (am_pA 0 r0) (am_ac1 r0) (am_az1 r0)) 0 [(0, qr a0)] [] n K I F 0 0 := by
  unfold X4_init
  refine ok_aload_n (q := 1) 0 dX4_init_0 rfl rfl rfl ?_
  refine fi_chk (fun h_1 => ?_)
  refine ok_objInit (q := 4) dX4_init_1 rfl oi_X4_3 h_1 (Nat.le_of_ble_eq_true rfl) (Nat.le_of_ble_eq_true rfl) (Nat.le_of_ble_eq_true rfl) ?_
  refine ok_aload_n (q := 5) 0 dX4_init_4 rfl rfl rfl ?_
  refine ok_bipush (q := 7) (x := 16) dX4_init_5 rfl rfl (by decide) ?_
  refine fi_chk (fun h_6 => ?_)
  refine fi_newi (q := 9) dX4_init_7 rfl h_6 na_newi (Nat.le_refl _) (Nat.le_refl _) (fun n_2 K_3 I_4 F_5 hc_8 hz_9 h_7 => ?_)
  refine fi_chk (fun h_10 => ?_)
  refine ok_putR (q := 12) (ci := 4) (k := 2) dX4_init_9 rfl fo_X4_9 h_10 ft_4_2 rfl ff_4_2 (fun F_11 => ?_)
  refine ok_aload_n (q := 13) 0 dX4_init_12 rfl rfl rfl ?_
  refine ok_sipush (q := 16) (x := 544) dX4_init_13 rfl rfl (by decide) ?_
  refine fi_chk (fun h_16 => ?_)
  refine fi_newi (q := 18) dX4_init_16 rfl h_16 na_newi (Nat.le_refl _) (Nat.le_refl _) (fun n_12 K_13 I_14 F_15 hc_18 hz_19 h_17 => ?_)
  refine fi_chk (fun h_20 => ?_)
  refine ok_putR (q := 21) (ci := 4) (k := 3) dX4_init_18 rfl fo_X4_15 h_20 ft_4_3 rfl ff_4_3 (fun F_21 => ?_)
  exact fi_returnA dX4_init_21 rfl
theorem ct_X4_init {η : am_E} {l : Launch} {N : Nat} {n : Nat} {K : am_K} {I : am_I} {F : am_F} {a0 : Nat} {r0 : am_A} (h0 : (K a0).1 = 4) : X4_init N a0 n K I F = some r0 → am_Ct η l yX4_init cX4_init 1 none 1 20 (am_ac1 r0) (am_az1 r0) [qr a0] n K I F (am_pA 0 r0) := fun g => am_Ct.of true (by decide) (by decide) (Nat.le_of_ble_eq_true rfl) (fun _ => w_X4_init (N := N) h0 g)
def M_X4_clear : am_M := (yX4_clear.cls, cX4_clear, 1, none, am_room 0 0 0 0, false)
def X4_clear (N : Nat) (K : am_K) (F : am_F) (a0 : Nat) (I : am_I) : Option (Int × am_I) :=
  am_lt (am_u2 I a0 0 0) (fun I_1 => am_lt (am_u2 I_1 a0 1 0) (fun I_2 => some (0, I_2)))
theorem w_X4_clear {η : am_E} {l : Launch} {N : Nat} {n : Nat} {K : am_K} {I : am_I} {F : am_F} {a0 : Nat} {r0 : Int × am_I} (h0 : (K a0).1 = 4) : X4_clear N K F a0 I = some r0 → Ok η l M_X4_clear (am_qm η (am_pS 0 r0 n K F) 0 0) 0 [(0, qr a0)] [] n K I F 0 0 := by
  unfold X4_clear
  refine ok_aload_n (q := 1) 0 dX4_clear_0 rfl rfl rfl ?_
  refine ok_iconst (q := 2) (x := 0) dX4_clear_1 rfl rfl (by decide) ?_
  refine ok_putI (q := 5) (ci := 4) (k := 0) dX4_clear_2 rfl fo_X4_18 h0 ft_4_0 ff_4_0 (fun I_1 => ?_)
  refine ok_aload_n (q := 6) 0 dX4_clear_5 rfl rfl rfl ?_
  refine ok_iconst (q := 7) (x := 0) dX4_clear_6 rfl rfl (by decide) ?_
  refine ok_putI (q := 10) (ci := 4) (k := 1) dX4_clear_7 rfl fo_X4_22 h0 ft_4_1 ff_4_1 (fun I_2 => ?_)
  exact fi_returnS dX4_clear_10 rfl
theorem ct_X4_clear {η : am_E} {l : Launch} {N : Nat} {n : Nat} {K : am_K} {I : am_I} {F : am_F} {a0 : Nat} {r0 : Int × am_I} (h0 : (K a0).1 = 4) : X4_clear N K F a0 I = some r0 → am_Ct η l yX4_clear cX4_clear 1 none 0 0 0 0 [qr a0] n K I F (am_pS 0 r0 n K F) := fun g => am_Ct.of false (by decide) (by decide) (Nat.le_of_ble_eq_true rfl) (fun _ => w_X4_clear (N := N) h0 g)
def M_X4_makeRoom (mc ms : Nat) : am_M := (yX4_makeRoom.cls, cX4_makeRoom, 2, none, am_room 2 48 mc ms, false)
def X4_makeRoom_b53 (N : Nat) (a0 : Nat) (n : Nat) (K : am_K) (I : am_I) (F : am_F) (c z : Nat) : Option am_A :=
  am_mo c z (some (0, n, K, I, F, c, z))
theorem w_X4_makeRoom_b53 {η : am_E} {l : Launch} {N : Nat} {n : Nat} {K : am_K} {I : am_I} {F : am_F} {c z : Nat} {a0 : Nat} {r0 : am_A} : X4_makeRoom_b53 N a0 n K I F c z = some r0 → Ok η l (M_X4_makeRoom (am_ac1 r0) (am_az1 r0)) (am_qm η (am_pA 0 r0) (am_ac1 r0) (am_az1 r0)) 53 [(0, qr a0)] [] n K I F c z := by
  unfold X4_makeRoom_b53
  refine fi_mo (fun hc_1 hz_2 => ?_)
  exact fi_returnA dX4_makeRoom_53 rfl
def X4_makeRoom (N : Nat) (a0 : Nat) (n : Nat) (K : am_K) (I : am_I) (F : am_F) : Option am_A :=
  if (K (F a0 2)).1 = 100 then if am_inI (K (F a0 2)).2 then if ((K (F a0 2)).2) ≤ (I a0 0) then (if am_inI (2 * ((K (F a0 2)).2)) then am_lt (am_min (2 * ((K (F a0 2)).2)) 1000) (fun x1_4 => am_ca (J7_copyOf_59c91 N n K I F (F a0 2) x1_4) (fun v_5 n_6 K_7 I_8 F_9 c_10 z_11 => am_mo (0 + c_10) (0 + z_11) (if (K_7 a0).1 = 4 then am_lt (am_u2 F_9 a0 2 v_5.toNat) (fun F_15 => if am_inI (x1_4 * 34) then am_ca (J7_copyOf_59c91 N n_6 K_7 I_8 F_15 (F_15 a0 3) (x1_4 * 34)) (fun v_17 n_18 K_19 I_20 F_21 c_22 z_23 => am_mo ((0 + c_10) + c_22) ((0 + z_11) + z_23) (if (K_19 a0).1 = 4 then am_lt (am_u2 F_21 a0 3 v_17.toNat) (fun F_27 => X4_makeRoom_b53 N a0 n_18 K_19 I_20 F_27 ((0 + c_10) + c_22) ((0 + z_11) + z_23)) else none)) else none) else none))) else none) else (X4_makeRoom_b53 N a0 n K I F 0 0) else none else none
theorem w_X4_makeRoom {η : am_E} {l : Launch} {N : Nat} {n : Nat} {K : am_K} {I : am_I} {F : am_F} {a0 : Nat} {r0 : am_A} (h0 : (K a0).1 = 4) : X4_makeRoom N a0 n K I F = some r0 → Ok η l (M_X4_makeRoom (am_ac1 r0) (am_az1 r0)) (am_qm η (am_pA 0 r0) (am_ac1 r0) (am_az1 r0)) 0 [(0, qr a0)] [] n K I F 0 0 := by
  unfold X4_makeRoom
  refine ok_aload_n (q := 1) 0 dX4_makeRoom_0 rfl rfl rfl ?_
  refine ok_getI (q := 4) (ci := 4) (k := 0) (x := I a0 0) dX4_makeRoom_1 rfl fo_X4_18 h0 rfl ?_
  refine ok_aload_n (q := 5) 0 dX4_makeRoom_4 rfl rfl rfl ?_
  refine ok_getR (q := 8) (ci := 4) (k := 2) (x := F a0 2) dX4_makeRoom_5 rfl fo_X4_9 h0 rfl ?_
  refine fi_chk (fun h_1 => ?_)
  refine fi_chk (fun h_2 => ?_)
  refine ok_arraylength (q := 9) (i := 0) dX4_makeRoom_8 rfl h_1 (by decide) rfl rfl h_2 ?_
  refine ok_icmp_lt (q := 53) (q2 := 12) dX4_makeRoom_9 rfl rfl ?_ ?_
  · skip
    exact fun g => ok_pick [0] rfl (w_X4_makeRoom_b53 (N := N) g)
  · skip
    refine ok_iconst (q := 13) (x := 2) dX4_makeRoom_12 rfl rfl (by decide) ?_
    refine ok_aload_n (q := 14) 0 dX4_makeRoom_13 rfl rfl rfl ?_
    refine ok_getR (q := 17) (ci := 4) (k := 2) (x := F a0 2) dX4_makeRoom_14 rfl fo_X4_9 h0 rfl ?_
    refine ok_arraylength (q := 18) (i := 0) dX4_makeRoom_17 rfl h_1 (by decide) rfl rfl h_2 ?_
    refine fi_chk (fun h_3 => ?_)
    refine ok_imul (q := 19) dX4_makeRoom_18 rfl h_3 ?_
    refine ok_sipush (q := 22) (x := 1000) dX4_makeRoom_19 rfl rfl (by decide) ?_
    refine ok_mmin (q := 25) dX4_makeRoom_22 rfl mm_X4_49 (Nat.le_of_ble_eq_true rfl) (Nat.le_of_ble_eq_true rfl) (Nat.le_of_ble_eq_true rfl) (Nat.zero_le _) (Nat.zero_le _) ?_
    refine ok_istore_nL (q := 26) (fun x1_4 => [(1, qi x1_4), (0, qr a0)]) dX4_makeRoom_25 rfl rfl (Nat.le_of_ble_eq_true rfl) (fun _ => rfl) (fun x1_4 => ?_)
    refine ok_aload_n (q := 27) 1 dX4_makeRoom_26 rfl rfl rfl ?_
    refine ok_aload_n (q := 28) 1 dX4_makeRoom_27 rfl rfl rfl ?_
    refine ok_getR (q := 31) (ci := 4) (k := 2) (x := F a0 2) dX4_makeRoom_28 rfl fo_X4_9 h0 rfl ?_
    refine ok_iload_n (q := 32) 0 dX4_makeRoom_31 rfl rfl rfl ?_
    refine fi_callS3A (q := 35) (as := [qr (F a0 2), qi x1_4]) (st := [qr a0]) dX4_makeRoom_32 rfl mo_X4_55 rfl rfl (Nat.le_of_ble_eq_true rfl) (Nat.le_of_ble_eq_true rfl) (Nat.le_of_ble_eq_true rfl) (Nat.le_refl _) (Nat.le_refl _) (fun _ hr => ct_J7_copyOf_59c91 (N := N) hr) (fun v_5 n_6 K_7 I_8 F_9 c_10 z_11 hc_12 hz_13 => ?_)
    refine fi_chk (fun h_14 => ?_)
    refine ok_putR (q := 38) (ci := 4) (k := 2) dX4_makeRoom_35 rfl fo_X4_9 h_14 ft_4_2 rfl ff_4_2 (fun F_15 => ?_)
    refine ok_aload_n (q := 39) 1 dX4_makeRoom_38 rfl rfl rfl ?_
    refine ok_aload_n (q := 40) 1 dX4_makeRoom_39 rfl rfl rfl ?_
    refine ok_getR (q := 43) (ci := 4) (k := 3) (x := F_15 a0 3) dX4_makeRoom_40 rfl fo_X4_15 h_14 rfl ?_
    refine ok_iload_n (q := 44) 0 dX4_makeRoom_43 rfl rfl rfl ?_
    refine ok_bipush (q := 46) (x := 34) dX4_makeRoom_44 rfl rfl (by decide) ?_
    refine fi_chk (fun h_16 => ?_)
    refine ok_imul (q := 47) dX4_makeRoom_46 rfl h_16 ?_
    refine fi_callS3A (q := 50) (as := [qr (F_15 a0 3), qi (x1_4 * 34)]) (st := [qr a0]) dX4_makeRoom_47 rfl mo_X4_55 rfl rfl (Nat.le_of_ble_eq_true rfl) (Nat.le_of_ble_eq_true rfl) (Nat.le_of_ble_eq_true rfl) (Nat.le_refl _) (Nat.le_refl _) (fun _ hr => ct_J7_copyOf_59c91 (N := N) hr) (fun v_17 n_18 K_19 I_20 F_21 c_22 z_23 hc_24 hz_25 => ?_)
    refine fi_chk (fun h_26 => ?_)
    refine ok_putR (q := 53) (ci := 4) (k := 3) dX4_makeRoom_50 rfl fo_X4_15 h_26 ft_4_3 rfl ff_4_3 (fun F_27 => ?_)
    exact fun g => ok_pick [1] rfl (w_X4_makeRoom_b53 (N := N) g)
theorem ct_X4_makeRoom {η : am_E} {l : Launch} {N : Nat} {n : Nat} {K : am_K} {I : am_I} {F : am_F} {a0 : Nat} {r0 : am_A} (h0 : (K a0).1 = 4) : X4_makeRoom N a0 n K I F = some r0 → am_Ct η l yX4_makeRoom cX4_makeRoom 2 none 2 48 (am_ac1 r0) (am_az1 r0) [qr a0] n K I F (am_pA 0 r0) := fun g => am_Ct.of false (by decide) (by decide) (Nat.le_of_ble_eq_true rfl) (fun _ => w_X4_makeRoom (N := N) h0 g)
def M_X4_keepAgain : am_M := (yX4_keepAgain.cls, cX4_keepAgain, 3, none, am_room 1 26 0 0, false)
def X4_keepAgain (N : Nat) (K : am_K) (F : am_F) (a0 : Nat) (I : am_I) (a1 : Nat) : Option (Int × am_I) :=
  if am_inI ((I a0 0) * 34) then am_lt ((I a0 0) * 34) (fun x2_2 => if (K a1).1 = 6 then if (K (F a1 0)).1 = 100 then if (K (F a0 3)).1 = 100 then if F a0 3 ≠ 1 then if F a1 0 ≠ 1 then if (0 : Int) ≤ 0 ∧ (0 : Int) ≤ x2_2 ∧ (0 : Int) ≤ 32 ∧ 0 + 32 ≤ (K (F a1 0)).2 ∧ x2_2 + 32 ≤ (K (F a0 3)).2 then am_lt (am_cp I (F a1 0) 0 (F a0 3) x2_2 32) (fun I_9 => if am_inI (x2_2 + 32) then if (K (F a1 1)).1 = 100 then if F a1 1 ≠ 1 then if (0 : Int) ≤ 0 ∧ (0 : Int) ≤ (x2_2 + 32) ∧ (0 : Int) ≤ 2 ∧ 0 + 2 ≤ (K (F a1 1)).2 ∧ (x2_2 + 32) + 2 ≤ (K (F a0 3)).2 then am_lt (am_cp I_9 (F a1 1) 0 (F a0 3) (x2_2 + 32) 2) (fun I_14 => if am_inI ((I_14 a0 0) + 1) then am_lt (am_u2 I_14 a0 0 ((I_14 a0 0) + 1)) (fun I_16 => some (0, I_16)) else none) else none else none else none else none) else none else none else none else none else none else none) else none
theorem w_X4_keepAgain {η : am_E} {l : Launch} {N : Nat} {n : Nat} {K : am_K} {I : am_I} {F : am_F} {a0 : Nat} {r0 : Int × am_I} {a1 : Nat} (h0 : (K a0).1 = 4) : X4_keepAgain N K F a0 I a1 = some r0 → Ok η l M_X4_keepAgain (am_qm η (am_pS 0 r0 n K F) 0 0) 0 [(0, qr a0), (1, qr a1)] [] n K I F 0 0 := by
  unfold X4_keepAgain
  refine ok_aload_n (q := 1) 0 dX4_keepAgain_0 rfl rfl rfl ?_
  refine ok_getI (q := 4) (ci := 4) (k := 0) (x := I a0 0) dX4_keepAgain_1 rfl fo_X4_18 h0 rfl ?_
  refine ok_bipush (q := 6) (x := 34) dX4_keepAgain_4 rfl rfl (by decide) ?_
  refine fi_chk (fun h_1 => ?_)
  refine ok_imul (q := 7) dX4_keepAgain_6 rfl h_1 ?_
  refine ok_istore_nL (q := 8) (fun x2_2 => [(2, qi x2_2), (0, qr a0), (1, qr a1)]) dX4_keepAgain_7 rfl rfl (Nat.le_of_ble_eq_true rfl) (fun _ => rfl) (fun x2_2 => ?_)
  refine ok_aload_n (q := 9) 2 dX4_keepAgain_8 rfl rfl rfl ?_
  refine fi_chk (fun h_3 => ?_)
  refine ok_getR (q := 12) (ci := 6) (k := 0) (x := F a1 0) dX4_keepAgain_9 rfl fo_X4_32 h_3 rfl ?_
  refine ok_iconst (q := 13) (x := 0) dX4_keepAgain_12 rfl rfl (by decide) ?_
  refine ok_aload_n (q := 14) 1 dX4_keepAgain_13 rfl rfl rfl ?_
  refine ok_getR (q := 17) (ci := 4) (k := 3) (x := F a0 3) dX4_keepAgain_14 rfl fo_X4_15 h0 rfl ?_
  refine ok_iload_n (q := 18) 0 dX4_keepAgain_17 rfl rfl rfl ?_
  refine ok_bipush (q := 20) (x := 32) dX4_keepAgain_18 rfl rfl (by decide) ?_
  refine fi_chk (fun h_4 => ?_)
  refine fi_chk (fun h_5 => ?_)
  refine fi_chk (fun h_6 => ?_)
  refine fi_chk (fun h_7 => ?_)
  refine fi_chk (fun h_8 => ?_)
  refine ok_arraycopy (q := 23) dX4_keepAgain_20 rfl ac_X4_37 h_4 h_5 h_6 h_7 h_8 (Nat.le_of_ble_eq_true rfl) (Nat.le_of_ble_eq_true rfl) (Nat.le_of_ble_eq_true rfl) (fun I_9 => ?_)
  refine ok_aload_n (q := 24) 2 dX4_keepAgain_23 rfl rfl rfl ?_
  refine ok_getR (q := 27) (ci := 6) (k := 1) (x := F a1 1) dX4_keepAgain_24 rfl fo_X4_43 h_3 rfl ?_
  refine ok_iconst (q := 28) (x := 0) dX4_keepAgain_27 rfl rfl (by decide) ?_
  refine ok_aload_n (q := 29) 1 dX4_keepAgain_28 rfl rfl rfl ?_
  refine ok_getR (q := 32) (ci := 4) (k := 3) (x := F a0 3) dX4_keepAgain_29 rfl fo_X4_15 h0 rfl ?_
  refine ok_iload_n (q := 33) 0 dX4_keepAgain_32 rfl rfl rfl ?_
  refine ok_bipush (q := 35) (x := 32) dX4_keepAgain_33 rfl rfl (by decide) ?_
  refine fi_chk (fun h_10 => ?_)
  refine ok_iadd (q := 36) dX4_keepAgain_35 rfl h_10 ?_
  refine ok_iconst (q := 37) (x := 2) dX4_keepAgain_36 rfl rfl (by decide) ?_
  refine fi_chk (fun h_11 => ?_)
  refine fi_chk (fun h_12 => ?_)
  refine fi_chk (fun h_13 => ?_)
  refine ok_arraycopy (q := 40) dX4_keepAgain_37 rfl ac_X4_37 h_11 h_5 h_6 h_12 h_13 (Nat.le_of_ble_eq_true rfl) (Nat.le_of_ble_eq_true rfl) (Nat.le_of_ble_eq_true rfl) (fun I_14 => ?_)
  refine ok_aload_n (q := 41) 1 dX4_keepAgain_40 rfl rfl rfl ?_
  refine ok_dup (q := 42) dX4_keepAgain_41 rfl rfl ?_
  refine ok_getI (q := 45) (ci := 4) (k := 0) (x := I_14 a0 0) dX4_keepAgain_42 rfl fo_X4_18 h0 rfl ?_
  refine ok_iconst (q := 46) (x := 1) dX4_keepAgain_45 rfl rfl (by decide) ?_
  refine fi_chk (fun h_15 => ?_)
  refine ok_iadd (q := 47) dX4_keepAgain_46 rfl h_15 ?_
  refine ok_putI (q := 50) (ci := 4) (k := 0) dX4_keepAgain_47 rfl fo_X4_18 h0 ft_4_0 ff_4_0 (fun I_16 => ?_)
  exact fi_returnS dX4_keepAgain_50 rfl
theorem ct_X4_keepAgain {η : am_E} {l : Launch} {N : Nat} {n : Nat} {K : am_K} {I : am_I} {F : am_F} {a0 : Nat} {r0 : Int × am_I} {a1 : Nat} (h0 : (K a0).1 = 4) : X4_keepAgain N K F a0 I a1 = some r0 → am_Ct η l yX4_keepAgain cX4_keepAgain 3 none 1 26 0 0 [qr a0, qr a1] n K I F (am_pS 0 r0 n K F) := fun g => am_Ct.of false (by decide) (by decide) (Nat.le_of_ble_eq_true rfl) (fun _ => w_X4_keepAgain (N := N) h0 g)
def M_X4_keep (mc ms : Nat) : am_M := (yX4_keep.cls, cX4_keep, 3, none, am_room 3 69 mc ms, false)
def X4_keep (N : Nat) (a0 : Nat) (n : Nat) (K : am_K) (I : am_I) (F : am_F) (a1 : Nat) (x2 : Int) : Option am_A :=
  am_ca (X4_makeRoom N a0 n K I F) (fun _ n_1 K_2 I_3 F_4 c_5 z_6 => am_mo (0 + c_5) (0 + z_6) (if (K_2 a0).1 = 4 then if (K_2 (F_4 a0 2)).1 = 100 then if F_4 a0 2 ≠ 1 then if (0 : Int) ≤ (I_3 a0 0) ∧ (I_3 a0 0) < (K_2 (F_4 a0 2)).2 then am_lt (am_u2 I_3 (F_4 a0 2) (I_3 a0 0) x2) (fun I_13 => am_cl (X4_keepAgain N K_2 F_4 a0 I_13 a1) (fun _ I_14 => am_lt (am_u2 I_14 a0 1 (I_14 a0 0)) (fun I_15 => some (0, n_1, K_2, I_15, F_4, (0 + c_5), (0 + z_6))))) else none else none else none else none))
theorem w_X4_keep {η : am_E} {l : Launch} {N : Nat} {n : Nat} {K : am_K} {I : am_I} {F : am_F} {a0 : Nat} {r0 : am_A} {a1 : Nat} {x2 : Int} (h0 : (K a0).1 = 4) : X4_keep N a0 n K I F a1 x2 = some r0 → Ok η l (M_X4_keep (am_ac1 r0) (am_az1 r0)) (am_qm η (am_pA 0 r0) (am_ac1 r0) (am_az1 r0)) 0 [(0, qr a0), (1, qr a1), (2, qi x2)] [] n K I F 0 0 := by
  unfold X4_keep
  refine ok_aload_n (q := 1) 0 dX4_keep_0 rfl rfl rfl ?_
  refine fi_callV0A (q := 4) (as := []) (st := []) dX4_keep_1 rfl mo_X4_25 h0 rfl (Nat.le_of_ble_eq_true rfl) rfl rfl (Nat.le_of_ble_eq_true rfl) (Nat.le_of_ble_eq_true rfl) (Nat.le_of_ble_eq_true rfl) (Nat.le_refl _) (Nat.le_refl _) (fun _ hr => ct_X4_makeRoom (N := N) h0 hr) (fun _ n_1 K_2 I_3 F_4 c_5 z_6 hc_7 hz_8 => ?_)
  refine ok_aload_n (q := 5) 0 dX4_keep_4 rfl rfl rfl ?_
  refine fi_chk (fun h_9 => ?_)
  refine ok_getR (q := 8) (ci := 4) (k := 2) (x := F_4 a0 2) dX4_keep_5 rfl fo_X4_9 h_9 rfl ?_
  refine ok_aload_n (q := 9) 0 dX4_keep_8 rfl rfl rfl ?_
  refine ok_getI (q := 12) (ci := 4) (k := 0) (x := I_3 a0 0) dX4_keep_9 rfl fo_X4_18 h_9 rfl ?_
  refine ok_iload_n (q := 13) 2 dX4_keep_12 rfl rfl rfl ?_
  refine fi_chk (fun h_10 => ?_)
  refine fi_chk (fun h_11 => ?_)
  refine fi_chk (fun h_12 => ?_)
  refine ok_iastore (q := 14) dX4_keep_13 rfl h_10 h_11 h_12.1 h_12.2 (fun I_13 => ?_)
  refine ok_aload_n (q := 15) 0 dX4_keep_14 rfl rfl rfl ?_
  refine ok_aload_n (q := 16) 1 dX4_keep_15 rfl rfl rfl ?_
  refine fi_callV0S (q := 19) (as := [qr a1]) (st := []) dX4_keep_16 rfl mo_X4_28 h_9 rfl (Nat.le_of_ble_eq_true rfl) rfl rfl (Nat.le_of_ble_eq_true rfl) (Nat.le_of_ble_eq_true rfl) (Nat.le_of_ble_eq_true rfl) hc_7 hz_8 (fun _ hr => ct_X4_keepAgain (N := N) h_9 hr) (fun _ I_14 => ?_)
  refine ok_aload_n (q := 20) 0 dX4_keep_19 rfl rfl rfl ?_
  refine ok_aload_n (q := 21) 0 dX4_keep_20 rfl rfl rfl ?_
  refine ok_getI (q := 24) (ci := 4) (k := 0) (x := I_14 a0 0) dX4_keep_21 rfl fo_X4_18 h_9 rfl ?_
  refine ok_putI (q := 27) (ci := 4) (k := 1) dX4_keep_24 rfl fo_X4_22 h_9 ft_4_1 ff_4_1 (fun I_15 => ?_)
  exact fi_returnA dX4_keep_27 rfl
theorem ct_X4_keep {η : am_E} {l : Launch} {N : Nat} {n : Nat} {K : am_K} {I : am_I} {F : am_F} {a0 : Nat} {r0 : am_A} {a1 : Nat} {x2 : Int} (h0 : (K a0).1 = 4) : X4_keep N a0 n K I F a1 x2 = some r0 → am_Ct η l yX4_keep cX4_keep 3 none 3 69 (am_ac1 r0) (am_az1 r0) [qr a0, qr a1, qi x2] n K I F (am_pA 0 r0) := fun g => am_Ct.of false (by decide) (by decide) (Nat.le_of_ble_eq_true rfl) (fun _ => w_X4_keep (N := N) h0 g)
def M_X4_takeBack : am_M := (yX4_takeBack.cls, cX4_takeBack, 3, none, am_room 1 26 0 0, false)
def X4_takeBack (N : Nat) (K : am_K) (F : am_F) (a0 : Nat) (I : am_I) (a1 : Nat) : Option (Int × am_I) :=
  if am_inI ((I a0 0) - 1) then am_lt (am_u2 I a0 0 ((I a0 0) - 1)) (fun I_2 => if am_inI ((I_2 a0 0) * 34) then am_lt ((I_2 a0 0) * 34) (fun x2_4 => if (K a1).1 = 6 then if (K (F a0 3)).1 = 100 then if (K (F a1 0)).1 = 100 then if F a1 0 ≠ 1 then if F a0 3 ≠ 1 then if (0 : Int) ≤ x2_4 ∧ (0 : Int) ≤ 0 ∧ (0 : Int) ≤ 32 ∧ x2_4 + 32 ≤ (K (F a0 3)).2 ∧ 0 + 32 ≤ (K (F a1 0)).2 then am_lt (am_cp I_2 (F a0 3) x2_4 (F a1 0) 0 32) (fun I_11 => if am_inI (x2_4 + 32) then if (K (F a1 1)).1 = 100 then if F a1 1 ≠ 1 then if (0 : Int) ≤ (x2_4 + 32) ∧ (0 : Int) ≤ 0 ∧ (0 : Int) ≤ 2 ∧ (x2_4 + 32) + 2 ≤ (K (F a0 3)).2 ∧ 0 + 2 ≤ (K (F a1 1)).2 then am_lt (am_cp I_11 (F a0 3) (x2_4 + 32) (F a1 1) 0 2) (fun I_16 => if am_inI (1 - (I_16 a1 2)) then am_lt (am_u2 I_16 a1 2 (1 - (I_16 a1 2))) (fun I_18 => some (0, I_18)) else none) else none else none else none else none) else none else none else none else none else none else none) else none) else none
theorem w_X4_takeBack {η : am_E} {l : Launch} {N : Nat} {n : Nat} {K : am_K} {I : am_I} {F : am_F} {a0 : Nat} {r0 : Int × am_I} {a1 : Nat} (h0 : (K a0).1 = 4) : X4_takeBack N K F a0 I a1 = some r0 → Ok η l M_X4_takeBack (am_qm η (am_pS 0 r0 n K F) 0 0) 0 [(0, qr a0), (1, qr a1)] [] n K I F 0 0 := by
  unfold X4_takeBack
  refine ok_aload_n (q := 1) 0 dX4_takeBack_0 rfl rfl rfl ?_
  refine ok_dup (q := 2) dX4_takeBack_1 rfl rfl ?_
  refine ok_getI (q := 5) (ci := 4) (k := 0) (x := I a0 0) dX4_takeBack_2 rfl fo_X4_18 h0 rfl ?_
  refine ok_iconst (q := 6) (x := 1) dX4_takeBack_5 rfl rfl (by decide) ?_
  refine fi_chk (fun h_1 => ?_)
  refine ok_isub (q := 7) dX4_takeBack_6 rfl h_1 ?_
  refine ok_putI (q := 10) (ci := 4) (k := 0) dX4_takeBack_7 rfl fo_X4_18 h0 ft_4_0 ff_4_0 (fun I_2 => ?_)
  refine ok_aload_n (q := 11) 0 dX4_takeBack_10 rfl rfl rfl ?_
  refine ok_getI (q := 14) (ci := 4) (k := 0) (x := I_2 a0 0) dX4_takeBack_11 rfl fo_X4_18 h0 rfl ?_
  refine ok_bipush (q := 16) (x := 34) dX4_takeBack_14 rfl rfl (by decide) ?_
  refine fi_chk (fun h_3 => ?_)
  refine ok_imul (q := 17) dX4_takeBack_16 rfl h_3 ?_
  refine ok_istore_nL (q := 18) (fun x2_4 => [(2, qi x2_4), (0, qr a0), (1, qr a1)]) dX4_takeBack_17 rfl rfl (Nat.le_of_ble_eq_true rfl) (fun _ => rfl) (fun x2_4 => ?_)
  refine ok_aload_n (q := 19) 1 dX4_takeBack_18 rfl rfl rfl ?_
  refine ok_getR (q := 22) (ci := 4) (k := 3) (x := F a0 3) dX4_takeBack_19 rfl fo_X4_15 h0 rfl ?_
  refine ok_iload_n (q := 23) 0 dX4_takeBack_22 rfl rfl rfl ?_
  refine ok_aload_n (q := 24) 2 dX4_takeBack_23 rfl rfl rfl ?_
  refine fi_chk (fun h_5 => ?_)
  refine ok_getR (q := 27) (ci := 6) (k := 0) (x := F a1 0) dX4_takeBack_24 rfl fo_X4_32 h_5 rfl ?_
  refine ok_iconst (q := 28) (x := 0) dX4_takeBack_27 rfl rfl (by decide) ?_
  refine ok_bipush (q := 30) (x := 32) dX4_takeBack_28 rfl rfl (by decide) ?_
  refine fi_chk (fun h_6 => ?_)
  refine fi_chk (fun h_7 => ?_)
  refine fi_chk (fun h_8 => ?_)
  refine fi_chk (fun h_9 => ?_)
  refine fi_chk (fun h_10 => ?_)
  refine ok_arraycopy (q := 33) dX4_takeBack_30 rfl ac_X4_37 h_6 h_7 h_8 h_9 h_10 (Nat.le_of_ble_eq_true rfl) (Nat.le_of_ble_eq_true rfl) (Nat.le_of_ble_eq_true rfl) (fun I_11 => ?_)
  refine ok_aload_n (q := 34) 1 dX4_takeBack_33 rfl rfl rfl ?_
  refine ok_getR (q := 37) (ci := 4) (k := 3) (x := F a0 3) dX4_takeBack_34 rfl fo_X4_15 h0 rfl ?_
  refine ok_iload_n (q := 38) 0 dX4_takeBack_37 rfl rfl rfl ?_
  refine ok_bipush (q := 40) (x := 32) dX4_takeBack_38 rfl rfl (by decide) ?_
  refine fi_chk (fun h_12 => ?_)
  refine ok_iadd (q := 41) dX4_takeBack_40 rfl h_12 ?_
  refine ok_aload_n (q := 42) 2 dX4_takeBack_41 rfl rfl rfl ?_
  refine ok_getR (q := 45) (ci := 6) (k := 1) (x := F a1 1) dX4_takeBack_42 rfl fo_X4_43 h_5 rfl ?_
  refine ok_iconst (q := 46) (x := 0) dX4_takeBack_45 rfl rfl (by decide) ?_
  refine ok_iconst (q := 47) (x := 2) dX4_takeBack_46 rfl rfl (by decide) ?_
  refine fi_chk (fun h_13 => ?_)
  refine fi_chk (fun h_14 => ?_)
  refine fi_chk (fun h_15 => ?_)
  refine ok_arraycopy (q := 50) dX4_takeBack_47 rfl ac_X4_37 h_6 h_13 h_14 h_9 h_15 (Nat.le_of_ble_eq_true rfl) (Nat.le_of_ble_eq_true rfl) (Nat.le_of_ble_eq_true rfl) (fun I_16 => ?_)
  refine ok_aload_n (q := 51) 2 dX4_takeBack_50 rfl rfl rfl ?_
  refine ok_iconst (q := 52) (x := 1) dX4_takeBack_51 rfl rfl (by decide) ?_
  refine ok_aload_n (q := 53) 2 dX4_takeBack_52 rfl rfl rfl ?_
  refine ok_getI (q := 56) (ci := 6) (k := 2) (x := I_16 a1 2) dX4_takeBack_53 rfl fo_X4_46 h_5 rfl ?_
  refine fi_chk (fun h_17 => ?_)
  refine ok_isub (q := 57) dX4_takeBack_56 rfl h_17 ?_
  refine ok_putI (q := 60) (ci := 6) (k := 2) dX4_takeBack_57 rfl fo_X4_46 h_5 ft_6_2 ff_6_2 (fun I_18 => ?_)
  exact fi_returnS dX4_takeBack_60 rfl
theorem ct_X4_takeBack {η : am_E} {l : Launch} {N : Nat} {n : Nat} {K : am_K} {I : am_I} {F : am_F} {a0 : Nat} {r0 : Int × am_I} {a1 : Nat} (h0 : (K a0).1 = 4) : X4_takeBack N K F a0 I a1 = some r0 → am_Ct η l yX4_takeBack cX4_takeBack 3 none 1 26 0 0 [qr a0, qr a1] n K I F (am_pS 0 r0 n K F) := fun g => am_Ct.of false (by decide) (by decide) (Nat.le_of_ble_eq_true rfl) (fun _ => w_X4_takeBack (N := N) h0 g)
