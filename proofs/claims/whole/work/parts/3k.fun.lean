def M_X12_gather : am_M := (yX12_gather.cls, cX12_gather, 7, none, am_room 5 120 0 0, false)
def X12_gather_b162 (N : Nat) (K : am_K) (F : am_F) (a0 : Nat) (k5 : am_I → Int → Int → Int → Int → Option (Int × am_I)) (k96 : am_I → Int → Int → Int → Int → Int → Int → Option (Int × am_I)) (I : am_I) (x1 : Int) (x2 : Int) (x3 : Int) (x4 : Int) (x5 : Int) (x6 : Int) : Option (Int × am_I) :=
  if am_inI (x6 + 1) then am_lt (x6 + 1) (fun x6_2 => k96 I x1 x2 x3 x4 x5 x6_2) else none
theorem w_X12_gather_b162 {η : am_E} {l : Launch} {N : Nat} {n : Nat} {K : am_K} {I : am_I} {F : am_F} {a0 : Nat} {r0 : Int × am_I} {k5 : am_I → Int → Int → Int → Int → Option (Int × am_I)} {k96 : am_I → Int → Int → Int → Int → Int → Int → Option (Int × am_I)} {x1 : Int} {x2 : Int} {x3 : Int} {x4 : Int} {x5 : Int} {x6 : Int} (h0 : (K a0).1 = 12) (H5 : ∀ (I : am_I) (x1 : Int) (x2 : Int) (x3 : Int) (x4 : Int), k5 I x1 x2 x3 x4 = some r0 → Ok η l M_X12_gather (am_qm η (am_pS 0 r0 n K F) 0 0) 5 [(0, qr a0), (1, qi x1), (2, qi x2), (3, qi x3), (4, qi x4)] [] n K I F 0 0) (H96 : ∀ (I : am_I) (x1 : Int) (x2 : Int) (x3 : Int) (x4 : Int) (x5 : Int) (x6 : Int), k96 I x1 x2 x3 x4 x5 x6 = some r0 → Ok η l M_X12_gather (am_qm η (am_pS 0 r0 n K F) 0 0) 96 [(0, qr a0), (1, qi x1), (2, qi x2), (3, qi x3), (4, qi x4), (5, qi x5), (6, qi x6)] [] n K I F 0 0) : X12_gather_b162 N K F a0 k5 k96 I x1 x2 x3 x4 x5 x6 = some r0 → Ok η l M_X12_gather (am_qm η (am_pS 0 r0 n K F) 0 0) 162 [(0, qr a0), (1, qi x1), (2, qi x2), (3, qi x3), (4, qi x4), (5, qi x5), (6, qi x6)] [] n K I F 0 0 := by
  unfold X12_gather_b162
  refine fi_chk (fun h_1 => ?_)
  refine ok_iincL (q := 165) (fun x6_2 => [(6, qi x6_2), (0, qr a0), (1, qi x1), (2, qi x2), (3, qi x3), (4, qi x4), (5, qi x5)]) 6 dX12_gather_162 rfl rfl h_1 (Nat.le_of_ble_eq_true rfl) (fun _ => rfl) (fun x6_2 => ?_)
  refine ok_goto (q := 96) dX12_gather_165 rfl ?_
  exact fun g => ok_pick [1, 2, 3, 4, 5, 6, 0] rfl (H96 _ _ _ _ _ _ _ g)
def X12_gather_s96 (N : Nat) (K : am_K) (F : am_F) (a0 : Nat) (k5 : am_I → Int → Int → Int → Int → Option (Int × am_I)) (k96 : am_I → Int → Int → Int → Int → Int → Int → Option (Int × am_I)) (I : am_I) (x1 : Int) (x2 : Int) (x3 : Int) (x4 : Int) (x5 : Int) (x6 : Int) : Option (Int × am_I) :=
  am_cq (X12_all N K F I a0) (fun v_1 => if x6 < v_1 then (if (K (F a0 35)).1 = 101 then if (0 : Int) ≤ x6 ∧ x6 < (K (F a0 35)).2 then if (I (F a0 35) x6) = 0 then (X12_gather_b162 N K F a0 k5 k96 I x1 x2 x3 x4 x5 x6) else (am_cl (X12_make N K F a0 I (F a0 20) x5 x6) (fun _ I_6 => if am_inI (1 - x5) then am_cq (X12_placeOf N K F I_6 a0 (F a0 16) (1 - x5)) (fun v_8 => if am_inI (v_8) then if (K (F a0 30)).1 = 100 then if F a0 30 ≠ 1 then if (0 : Int) ≤ x3 ∧ x3 < (K (F a0 30)).2 then am_lt (am_u2 I_6 (F a0 30) x3 v_8) (fun I_13 => if (K (F a0 31)).1 = 100 then if F a0 31 ≠ 1 then if (0 : Int) ≤ x3 ∧ x3 < (K (F a0 31)).2 then am_lt (am_u2 I_13 (F a0 31) x3 (I_13 a0 17)) (fun I_17 => if am_inI (x3 + 1) then am_lt (x3 + 1) (fun x3_19 => X12_gather_b162 N K F a0 k5 k96 I_17 x1 x2 x3_19 x4 x5 x6) else none) else none else none else none) else none else none else none else none) else none)) else none else none) else (if am_inI (x4 + 1) then am_lt (x4 + 1) (fun x4_3 => k5 I x1 x2 x3 x4_3) else none))
theorem w_X12_gather_s96 {η : am_E} {l : Launch} {N : Nat} {n : Nat} {K : am_K} {I : am_I} {F : am_F} {a0 : Nat} {r0 : Int × am_I} {k5 : am_I → Int → Int → Int → Int → Option (Int × am_I)} {k96 : am_I → Int → Int → Int → Int → Int → Int → Option (Int × am_I)} {x1 : Int} {x2 : Int} {x3 : Int} {x4 : Int} {x5 : Int} {x6 : Int} (h0 : (K a0).1 = 12) (H5 : ∀ (I : am_I) (x1 : Int) (x2 : Int) (x3 : Int) (x4 : Int), k5 I x1 x2 x3 x4 = some r0 → Ok η l M_X12_gather (am_qm η (am_pS 0 r0 n K F) 0 0) 5 [(0, qr a0), (1, qi x1), (2, qi x2), (3, qi x3), (4, qi x4)] [] n K I F 0 0) (H96 : ∀ (I : am_I) (x1 : Int) (x2 : Int) (x3 : Int) (x4 : Int) (x5 : Int) (x6 : Int), k96 I x1 x2 x3 x4 x5 x6 = some r0 → Ok η l M_X12_gather (am_qm η (am_pS 0 r0 n K F) 0 0) 96 [(0, qr a0), (1, qi x1), (2, qi x2), (3, qi x3), (4, qi x4), (5, qi x5), (6, qi x6)] [] n K I F 0 0) : X12_gather_s96 N K F a0 k5 k96 I x1 x2 x3 x4 x5 x6 = some r0 → Ok η l M_X12_gather (am_qm η (am_pS 0 r0 n K F) 0 0) 96 [(0, qr a0), (1, qi x1), (2, qi x2), (3, qi x3), (4, qi x4), (5, qi x5), (6, qi x6)] [] n K I F 0 0 := by
  unfold X12_gather_s96
  refine ok_iload (q := 98) 6 dX12_gather_96 rfl rfl ?_
  refine ok_aload_n (q := 99) 0 dX12_gather_98 rfl rfl rfl ?_
  refine fi_callV1P (q := 102) (as := []) (st := [qi x6]) dX12_gather_99 rfl mo_X12_133 h0 rfl (Nat.le_of_ble_eq_true rfl) rfl rfl (Nat.le_of_ble_eq_true rfl) (Nat.le_of_ble_eq_true rfl) (Nat.le_of_ble_eq_true rfl) (Nat.zero_le _) (Nat.zero_le _) (fun _ hr => ct_X12_all (N := N) h0 hr) (fun v_1 => ?_)
  refine ok_icmp_ge (q := 168) (q2 := 105) dX12_gather_102 rfl rfl ?_ ?_
  · skip
    refine fi_chk (fun h_2 => ?_)
    refine ok_iincL (q := 171) (fun x4_3 => [(4, qi x4_3), (0, qr a0), (1, qi x1), (2, qi x2), (3, qi x3), (5, qi x5), (6, qi x6)]) 4 dX12_gather_168 rfl rfl h_2 (Nat.le_of_ble_eq_true rfl) (fun _ => rfl) (fun x4_3 => ?_)
    refine ok_goto (q := 5) dX12_gather_171 rfl ?_
    exact fun g => ok_pick [1, 2, 3, 4, 0] rfl (H5 _ _ _ _ _ g)
  · skip
    refine ok_aload_n (q := 106) 0 dX12_gather_105 rfl rfl rfl ?_
    refine ok_getR (q := 109) (ci := 12) (k := 35) (x := F a0 35) dX12_gather_106 rfl fo_X12_65 h0 rfl ?_
    refine ok_iload (q := 111) 6 dX12_gather_109 rfl rfl ?_
    refine fi_chk (fun h_4 => ?_)
    refine fi_chk (fun h_5 => ?_)
    refine ok_baload (q := 112) (v := I (F a0 35) x6) dX12_gather_111 rfl h_4 h_5.1 h_5.2 rfl ?_
    refine ok_if_ne (q := 118) (q2 := 115) dX12_gather_112 rfl rfl ?_ ?_
    · skip
      refine ok_aload_n (q := 119) 0 dX12_gather_118 rfl rfl rfl ?_
      refine ok_aload_n (q := 120) 0 dX12_gather_119 rfl rfl rfl ?_
      refine ok_getR (q := 123) (ci := 12) (k := 20) (x := F a0 20) dX12_gather_120 rfl fo_X12_29 h0 rfl ?_
      refine ok_iload (q := 125) 5 dX12_gather_123 rfl rfl ?_
      refine ok_iload (q := 127) 6 dX12_gather_125 rfl rfl ?_
      refine fi_callV0S (q := 130) (as := [qr (F a0 20), qi x5, qi x6]) (st := []) dX12_gather_127 rfl mo_X12_172 h0 rfl (Nat.le_of_ble_eq_true rfl) rfl rfl (Nat.le_of_ble_eq_true rfl) (Nat.le_of_ble_eq_true rfl) (Nat.le_of_ble_eq_true rfl) (Nat.zero_le _) (Nat.zero_le _) (fun _ hr => ct_X12_make (N := N) h0 hr) (fun _ I_6 => ?_)
      refine ok_aload_n (q := 131) 0 dX12_gather_130 rfl rfl rfl ?_
      refine ok_getR (q := 134) (ci := 12) (k := 30) (x := F a0 30) dX12_gather_131 rfl fo_X12_50 h0 rfl ?_
      refine ok_iload_n (q := 135) 3 dX12_gather_134 rfl rfl rfl ?_
      refine ok_aload_n (q := 136) 0 dX12_gather_135 rfl rfl rfl ?_
      refine ok_aload_n (q := 137) 0 dX12_gather_136 rfl rfl rfl ?_
      refine ok_getR (q := 140) (ci := 12) (k := 16) (x := F a0 16) dX12_gather_137 rfl fo_X12_26 h0 rfl ?_
      refine ok_iconst (q := 141) (x := 1) dX12_gather_140 rfl rfl (by decide) ?_
      refine ok_iload (q := 143) 5 dX12_gather_141 rfl rfl ?_
      refine fi_chk (fun h_7 => ?_)
      refine ok_isub (q := 144) dX12_gather_143 rfl h_7 ?_
      refine fi_callV2P (q := 147) (as := [qr (F a0 16), qi (1 - x5)]) (st := [qi x3, qr (F a0 30)]) dX12_gather_144 rfl mo_X12_209 h0 rfl (Nat.le_of_ble_eq_true rfl) rfl rfl (Nat.le_of_ble_eq_true rfl) (Nat.le_of_ble_eq_true rfl) (Nat.le_of_ble_eq_true rfl) (Nat.zero_le _) (Nat.zero_le _) (fun _ hr => ct_X12_placeOf (N := N) h0 hr) (fun v_8 => ?_)
      refine fi_chk (fun h_9 => ?_)
      refine ok_l2i (q := 148) dX12_gather_147 rfl h_9 ?_
      refine fi_chk (fun h_10 => ?_)
      refine fi_chk (fun h_11 => ?_)
      refine fi_chk (fun h_12 => ?_)
      refine ok_iastore (q := 149) dX12_gather_148 rfl h_10 h_11 h_12.1 h_12.2 (fun I_13 => ?_)
      refine ok_aload_n (q := 150) 0 dX12_gather_149 rfl rfl rfl ?_
      refine ok_getR (q := 153) (ci := 12) (k := 31) (x := F a0 31) dX12_gather_150 rfl fo_X12_53 h0 rfl ?_
      refine ok_iload_n (q := 154) 3 dX12_gather_153 rfl rfl rfl ?_
      refine ok_aload_n (q := 155) 0 dX12_gather_154 rfl rfl rfl ?_
      refine ok_getI (q := 158) (ci := 12) (k := 17) (x := I_13 a0 17) dX12_gather_155 rfl fo_X12_148 h0 rfl ?_
      refine fi_chk (fun h_14 => ?_)
      refine fi_chk (fun h_15 => ?_)
      refine fi_chk (fun h_16 => ?_)
      refine ok_iastore (q := 159) dX12_gather_158 rfl h_14 h_15 h_16.1 h_16.2 (fun I_17 => ?_)
      refine fi_chk (fun h_18 => ?_)
      refine ok_iincL (q := 162) (fun x3_19 => [(3, qi x3_19), (0, qr a0), (1, qi x1), (2, qi x2), (4, qi x4), (5, qi x5), (6, qi x6)]) 3 dX12_gather_159 rfl rfl h_18 (Nat.le_of_ble_eq_true rfl) (fun _ => rfl) (fun x3_19 => ?_)
      exact fun g => ok_pick [1, 2, 3, 0, 4, 5, 6] rfl (w_X12_gather_b162 (N := N) h0 H5 H96 g)
    · skip
      refine ok_goto (q := 162) dX12_gather_115 rfl ?_
      exact fun g => ok_pick [0, 1, 2, 3, 4, 5, 6] rfl (w_X12_gather_b162 (N := N) h0 H5 H96 g)
def X12_gather_h96 (N : Nat) (K : am_K) (F : am_F) (a0 : Nat) (k5 : am_I → Int → Int → Int → Int → Option (Int × am_I)) : Nat → am_I → Int → Int → Int → Int → Int → Int → Option (Int × am_I) := am_it (fun kh => X12_gather_s96 N K F a0 k5 kh) (fun _ _ _ _ _ _ _ => none)
theorem w_X12_gather_h96 {η : am_E} {l : Launch} {N : Nat} {n : Nat} {K : am_K} {F : am_F} {a0 : Nat} {r0 : Int × am_I} {k5 : am_I → Int → Int → Int → Int → Option (Int × am_I)} (h0 : (K a0).1 = 12) (H5 : ∀ (I : am_I) (x1 : Int) (x2 : Int) (x3 : Int) (x4 : Int), k5 I x1 x2 x3 x4 = some r0 → Ok η l M_X12_gather (am_qm η (am_pS 0 r0 n K F) 0 0) 5 [(0, qr a0), (1, qi x1), (2, qi x2), (3, qi x3), (4, qi x4)] [] n K I F 0 0) (f : Nat) : ∀ (I : am_I) (x1 : Int) (x2 : Int) (x3 : Int) (x4 : Int) (x5 : Int) (x6 : Int), X12_gather_h96 N K F a0 k5 f I x1 x2 x3 x4 x5 x6 = some r0 → Ok η l M_X12_gather (am_qm η (am_pS 0 r0 n K F) 0 0) 96 [(0, qr a0), (1, qi x1), (2, qi x2), (3, qi x3), (4, qi x4), (5, qi x5), (6, qi x6)] [] n K I F 0 0 := by
  induction f with
  | zero => intro I x1 x2 x3 x4 x5 x6 g; exact fi_none g
  | succ f ih => intro I x1 x2 x3 x4 x5 x6 g; exact w_X12_gather_s96 (N := N) h0 H5 ih g
def X12_gather_b93 (N : Nat) (K : am_K) (F : am_F) (a0 : Nat) (k5 : am_I → Int → Int → Int → Int → Option (Int × am_I)) (I : am_I) (x1 : Int) (x2 : Int) (x3 : Int) (x4 : Int) (x5 : Int) : Option (Int × am_I) :=
  X12_gather_h96 N K F a0 k5 N I x1 x2 x3 x4 x5 0
theorem w_X12_gather_b93 {η : am_E} {l : Launch} {N : Nat} {n : Nat} {K : am_K} {I : am_I} {F : am_F} {a0 : Nat} {r0 : Int × am_I} {k5 : am_I → Int → Int → Int → Int → Option (Int × am_I)} {x1 : Int} {x2 : Int} {x3 : Int} {x4 : Int} {x5 : Int} (h0 : (K a0).1 = 12) (H5 : ∀ (I : am_I) (x1 : Int) (x2 : Int) (x3 : Int) (x4 : Int), k5 I x1 x2 x3 x4 = some r0 → Ok η l M_X12_gather (am_qm η (am_pS 0 r0 n K F) 0 0) 5 [(0, qr a0), (1, qi x1), (2, qi x2), (3, qi x3), (4, qi x4)] [] n K I F 0 0) : X12_gather_b93 N K F a0 k5 I x1 x2 x3 x4 x5 = some r0 → Ok η l M_X12_gather (am_qm η (am_pS 0 r0 n K F) 0 0) 93 [(0, qr a0), (1, qi x1), (2, qi x2), (3, qi x3), (4, qi x4), (5, qi x5)] [] n K I F 0 0 := by
  unfold X12_gather_b93
  refine ok_iconst (q := 94) (x := 0) dX12_gather_93 rfl rfl (by decide) ?_
  refine ok_istore (q := 96) (ls' := [(6, qi 0), (0, qr a0), (1, qi x1), (2, qi x2), (3, qi x3), (4, qi x4), (5, qi x5)]) dX12_gather_94 rfl (Nat.le_of_ble_eq_true rfl) rfl ?_
  exact fun g => ok_pick [1, 2, 3, 4, 5, 6, 0] rfl (w_X12_gather_h96 (N := N) h0 H5 N _ _ _ _ _ _ _ g)
def X12_gather_s5 (N : Nat) (K : am_K) (F : am_F) (a0 : Nat) (k5 : am_I → Int → Int → Int → Int → Option (Int × am_I)) (I : am_I) (x1 : Int) (x2 : Int) (x3 : Int) (x4 : Int) : Option (Int × am_I) :=
  if x4 < x2 then (if am_inI (x4 - x1) then if (K (F a0 29)).1 = 100 then if F a0 29 ≠ 1 then if (0 : Int) ≤ (x4 - x1) ∧ (x4 - x1) < (K (F a0 29)).2 then am_lt (am_u2 I (F a0 29) (x4 - x1) x3) (fun I_10 => am_cl (X12_layOut N K F a0 I_10 x4) (fun v_11 I_12 => if (K (F a0 32)).1 = 100 then if F a0 32 ≠ 1 then if (0 : Int) ≤ (x4 - x1) ∧ (x4 - x1) < (K (F a0 32)).2 then am_lt (am_u2 I_12 (F a0 32) (x4 - x1) 0) (fun I_16 => am_cl (X12_mayMove N K F a0 I_16 (F a0 20) v_11 (F a0 35)) (fun v_17 I_18 => if v_17 = 0 then (am_cq (X12_counts N K F I_18 a0 (F a0 20) v_11 v_11) (fun v_19 => if am_inI (1 - v_11) then am_cq (X12_counts N K F I_18 a0 (F a0 20) v_11 (1 - v_11)) (fun v_21 => if am_inI (v_19 - v_21) then am_lt (am_u2 I_18 (F a0 32) (x4 - x1) (v_19 - v_21)) (fun I_23 => X12_gather_b93 N K F a0 k5 I_23 x1 x2 x3 x4 v_11) else none) else none)) else (X12_gather_b93 N K F a0 k5 I_18 x1 x2 x3 x4 v_11))) else none else none else none)) else none else none else none else none) else (if am_inI (x2 - x1) then if (K (F a0 29)).1 = 100 then if F a0 29 ≠ 1 then if (0 : Int) ≤ (x2 - x1) ∧ (x2 - x1) < (K (F a0 29)).2 then am_lt (am_u2 I (F a0 29) (x2 - x1) x3) (fun I_5 => some (0, I_5)) else none else none else none else none)
theorem w_X12_gather_s5 {η : am_E} {l : Launch} {N : Nat} {n : Nat} {K : am_K} {I : am_I} {F : am_F} {a0 : Nat} {r0 : Int × am_I} {k5 : am_I → Int → Int → Int → Int → Option (Int × am_I)} {x1 : Int} {x2 : Int} {x3 : Int} {x4 : Int} (h0 : (K a0).1 = 12) (H5 : ∀ (I : am_I) (x1 : Int) (x2 : Int) (x3 : Int) (x4 : Int), k5 I x1 x2 x3 x4 = some r0 → Ok η l M_X12_gather (am_qm η (am_pS 0 r0 n K F) 0 0) 5 [(0, qr a0), (1, qi x1), (2, qi x2), (3, qi x3), (4, qi x4)] [] n K I F 0 0) : X12_gather_s5 N K F a0 k5 I x1 x2 x3 x4 = some r0 → Ok η l M_X12_gather (am_qm η (am_pS 0 r0 n K F) 0 0) 5 [(0, qr a0), (1, qi x1), (2, qi x2), (3, qi x3), (4, qi x4)] [] n K I F 0 0 := by
  unfold X12_gather_s5
  refine ok_iload (q := 7) 4 dX12_gather_5 rfl rfl ?_
  refine ok_iload_n (q := 8) 2 dX12_gather_7 rfl rfl rfl ?_
  refine ok_icmp_ge (q := 174) (q2 := 11) dX12_gather_8 rfl rfl ?_ ?_
  · skip
    refine ok_aload_n (q := 175) 0 dX12_gather_174 rfl rfl rfl ?_
    refine ok_getR (q := 178) (ci := 12) (k := 29) (x := F a0 29) dX12_gather_175 rfl fo_X12_46 h0 rfl ?_
    refine ok_iload_n (q := 179) 2 dX12_gather_178 rfl rfl rfl ?_
    refine ok_iload_n (q := 180) 1 dX12_gather_179 rfl rfl rfl ?_
    refine fi_chk (fun h_1 => ?_)
    refine ok_isub (q := 181) dX12_gather_180 rfl h_1 ?_
    refine ok_iload_n (q := 182) 3 dX12_gather_181 rfl rfl rfl ?_
    refine fi_chk (fun h_2 => ?_)
    refine fi_chk (fun h_3 => ?_)
    refine fi_chk (fun h_4 => ?_)
    refine ok_iastore (q := 183) dX12_gather_182 rfl h_2 h_3 h_4.1 h_4.2 (fun I_5 => ?_)
    exact fi_returnS dX12_gather_183 rfl
  · skip
    refine ok_aload_n (q := 12) 0 dX12_gather_11 rfl rfl rfl ?_
    refine ok_getR (q := 15) (ci := 12) (k := 29) (x := F a0 29) dX12_gather_12 rfl fo_X12_46 h0 rfl ?_
    refine ok_iload (q := 17) 4 dX12_gather_15 rfl rfl ?_
    refine ok_iload_n (q := 18) 1 dX12_gather_17 rfl rfl rfl ?_
    refine fi_chk (fun h_6 => ?_)
    refine ok_isub (q := 19) dX12_gather_18 rfl h_6 ?_
    refine ok_iload_n (q := 20) 3 dX12_gather_19 rfl rfl rfl ?_
    refine fi_chk (fun h_7 => ?_)
    refine fi_chk (fun h_8 => ?_)
    refine fi_chk (fun h_9 => ?_)
    refine ok_iastore (q := 21) dX12_gather_20 rfl h_7 h_8 h_9.1 h_9.2 (fun I_10 => ?_)
    refine ok_aload_n (q := 22) 0 dX12_gather_21 rfl rfl rfl ?_
    refine ok_iload (q := 24) 4 dX12_gather_22 rfl rfl ?_
    refine ok_i2l (q := 25) dX12_gather_24 rfl ?_
    refine fi_callV1S (q := 28) (as := [ql x4]) (st := []) dX12_gather_25 rfl mo_X12_197 h0 rfl (Nat.le_of_ble_eq_true rfl) rfl rfl (Nat.le_of_ble_eq_true rfl) (Nat.le_of_ble_eq_true rfl) (Nat.le_of_ble_eq_true rfl) (Nat.zero_le _) (Nat.zero_le _) (fun _ hr => ct_X12_layOut (N := N) h0 hr) (fun v_11 I_12 => ?_)
    refine ok_istore (q := 30) (ls' := [(5, qi v_11), (0, qr a0), (1, qi x1), (2, qi x2), (3, qi x3), (4, qi x4)]) dX12_gather_28 rfl (Nat.le_of_ble_eq_true rfl) rfl ?_
    refine ok_aload_n (q := 31) 1 dX12_gather_30 rfl rfl rfl ?_
    refine ok_getR (q := 34) (ci := 12) (k := 32) (x := F a0 32) dX12_gather_31 rfl fo_X12_56 h0 rfl ?_
    refine ok_iload (q := 36) 5 dX12_gather_34 rfl rfl ?_
    refine ok_iload_n (q := 37) 2 dX12_gather_36 rfl rfl rfl ?_
    refine ok_isub (q := 38) dX12_gather_37 rfl h_6 ?_
    refine ok_iconst (q := 39) (x := 0) dX12_gather_38 rfl rfl (by decide) ?_
    refine fi_chk (fun h_13 => ?_)
    refine fi_chk (fun h_14 => ?_)
    refine fi_chk (fun h_15 => ?_)
    refine ok_iastore (q := 40) dX12_gather_39 rfl h_13 h_14 h_15.1 h_15.2 (fun I_16 => ?_)
    refine ok_aload_n (q := 41) 1 dX12_gather_40 rfl rfl rfl ?_
    refine ok_aload_n (q := 42) 1 dX12_gather_41 rfl rfl rfl ?_
    refine ok_getR (q := 45) (ci := 12) (k := 20) (x := F a0 20) dX12_gather_42 rfl fo_X12_29 h0 rfl ?_
    refine ok_iload (q := 47) 0 dX12_gather_45 rfl rfl ?_
    refine ok_aload_n (q := 48) 1 dX12_gather_47 rfl rfl rfl ?_
    refine ok_getR (q := 51) (ci := 12) (k := 35) (x := F a0 35) dX12_gather_48 rfl fo_X12_65 h0 rfl ?_
    refine fi_callV1S (q := 54) (as := [qr (F a0 20), qi v_11, qr (F a0 35)]) (st := []) dX12_gather_51 rfl mo_X12_201 h0 rfl (Nat.le_of_ble_eq_true rfl) rfl rfl (Nat.le_of_ble_eq_true rfl) (Nat.le_of_ble_eq_true rfl) (Nat.le_of_ble_eq_true rfl) (Nat.zero_le _) (Nat.zero_le _) (fun _ hr => ct_X12_mayMove (N := N) h0 hr) (fun v_17 I_18 => ?_)
    refine ok_if_ne (q := 93) (q2 := 57) dX12_gather_54 rfl rfl ?_ ?_
    · skip
      exact fun g => ok_pick [1, 2, 3, 4, 5, 0] rfl (w_X12_gather_b93 (N := N) h0 H5 g)
    · skip
      refine ok_aload_n (q := 58) 1 dX12_gather_57 rfl rfl rfl ?_
      refine ok_getR (q := 61) (ci := 12) (k := 32) (x := F a0 32) dX12_gather_58 rfl fo_X12_56 h0 rfl ?_
      refine ok_iload (q := 63) 5 dX12_gather_61 rfl rfl ?_
      refine ok_iload_n (q := 64) 2 dX12_gather_63 rfl rfl rfl ?_
      refine ok_isub (q := 65) dX12_gather_64 rfl h_6 ?_
      refine ok_aload_n (q := 66) 1 dX12_gather_65 rfl rfl rfl ?_
      refine ok_aload_n (q := 67) 1 dX12_gather_66 rfl rfl rfl ?_
      refine ok_getR (q := 70) (ci := 12) (k := 20) (x := F a0 20) dX12_gather_67 rfl fo_X12_29 h0 rfl ?_
      refine ok_iload (q := 72) 0 dX12_gather_70 rfl rfl ?_
      refine ok_iload (q := 74) 0 dX12_gather_72 rfl rfl ?_
      refine fi_callV1P (q := 77) (as := [qr (F a0 20), qi v_11, qi v_11]) (st := [qi (x4 - x1), qr (F a0 32)]) dX12_gather_74 rfl mo_X12_205 h0 rfl (Nat.le_of_ble_eq_true rfl) rfl rfl (Nat.le_of_ble_eq_true rfl) (Nat.le_of_ble_eq_true rfl) (Nat.le_of_ble_eq_true rfl) (Nat.zero_le _) (Nat.zero_le _) (fun _ hr => ct_X12_counts (N := N) h0 hr) (fun v_19 => ?_)
      refine ok_aload_n (q := 78) 1 dX12_gather_77 rfl rfl rfl ?_
      refine ok_aload_n (q := 79) 1 dX12_gather_78 rfl rfl rfl ?_
      refine ok_getR (q := 82) (ci := 12) (k := 20) (x := F a0 20) dX12_gather_79 rfl fo_X12_29 h0 rfl ?_
      refine ok_iload (q := 84) 0 dX12_gather_82 rfl rfl ?_
      refine ok_iconst (q := 85) (x := 1) dX12_gather_84 rfl rfl (by decide) ?_
      refine ok_iload (q := 87) 0 dX12_gather_85 rfl rfl ?_
      refine fi_chk (fun h_20 => ?_)
      refine ok_isub (q := 88) dX12_gather_87 rfl h_20 ?_
      refine fi_callV1P (q := 91) (as := [qr (F a0 20), qi v_11, qi (1 - v_11)]) (st := [qi v_19, qi (x4 - x1), qr (F a0 32)]) dX12_gather_88 rfl mo_X12_205 h0 rfl (Nat.le_of_ble_eq_true rfl) rfl rfl (Nat.le_of_ble_eq_true rfl) (Nat.le_of_ble_eq_true rfl) (Nat.le_of_ble_eq_true rfl) (Nat.zero_le _) (Nat.zero_le _) (fun _ hr => ct_X12_counts (N := N) h0 hr) (fun v_21 => ?_)
      refine fi_chk (fun h_22 => ?_)
      refine ok_isub (q := 92) dX12_gather_91 rfl h_22 ?_
      refine ok_iastore (q := 93) dX12_gather_92 rfl h_13 h_14 h_15.1 h_15.2 (fun I_23 => ?_)
      exact fun g => ok_pick [1, 2, 3, 4, 5, 0] rfl (w_X12_gather_b93 (N := N) h0 H5 g)
def X12_gather_h5 (N : Nat) (K : am_K) (F : am_F) (a0 : Nat) : Nat → am_I → Int → Int → Int → Int → Option (Int × am_I) := am_it (fun kh => X12_gather_s5 N K F a0 kh) (fun _ _ _ _ _ => none)
theorem w_X12_gather_h5 {η : am_E} {l : Launch} {N : Nat} {n : Nat} {K : am_K} {F : am_F} {a0 : Nat} {r0 : Int × am_I} (h0 : (K a0).1 = 12) (f : Nat) : ∀ (I : am_I) (x1 : Int) (x2 : Int) (x3 : Int) (x4 : Int), X12_gather_h5 N K F a0 f I x1 x2 x3 x4 = some r0 → Ok η l M_X12_gather (am_qm η (am_pS 0 r0 n K F) 0 0) 5 [(0, qr a0), (1, qi x1), (2, qi x2), (3, qi x3), (4, qi x4)] [] n K I F 0 0 := by
  induction f with
  | zero => intro I x1 x2 x3 x4 g; exact fi_none g
  | succ f ih => intro I x1 x2 x3 x4 g; exact w_X12_gather_s5 (N := N) h0 ih g
def X12_gather (N : Nat) (K : am_K) (F : am_F) (a0 : Nat) (I : am_I) (x1 : Int) (x2 : Int) : Option (Int × am_I) :=
  X12_gather_h5 N K F a0 N I x1 x2 0 x1
theorem w_X12_gather {η : am_E} {l : Launch} {N : Nat} {n : Nat} {K : am_K} {I : am_I} {F : am_F} {a0 : Nat} {r0 : Int × am_I} {x1 : Int} {x2 : Int} (h0 : (K a0).1 = 12) : X12_gather N K F a0 I x1 x2 = some r0 → Ok η l M_X12_gather (am_qm η (am_pS 0 r0 n K F) 0 0) 0 [(0, qr a0), (1, qi x1), (2, qi x2)] [] n K I F 0 0 := by
  unfold X12_gather
  refine ok_iconst (q := 1) (x := 0) dX12_gather_0 rfl rfl (by decide) ?_
  refine ok_istore_n (q := 2) (ls' := [(3, qi 0), (0, qr a0), (1, qi x1), (2, qi x2)]) dX12_gather_1 rfl rfl (Nat.le_of_ble_eq_true rfl) rfl ?_
  refine ok_iload_n (q := 3) 2 dX12_gather_2 rfl rfl rfl ?_
  refine ok_istore (q := 5) (ls' := [(4, qi x1), (3, qi 0), (0, qr a0), (1, qi x1), (2, qi x2)]) dX12_gather_3 rfl (Nat.le_of_ble_eq_true rfl) rfl ?_
  exact fun g => ok_pick [2, 3, 4, 1, 0] rfl (w_X12_gather_h5 (N := N) h0 N _ _ _ _ _ g)
theorem ct_X12_gather {η : am_E} {l : Launch} {N : Nat} {n : Nat} {K : am_K} {I : am_I} {F : am_F} {a0 : Nat} {r0 : Int × am_I} {x1 : Int} {x2 : Int} (h0 : (K a0).1 = 12) : X12_gather N K F a0 I x1 x2 = some r0 → am_Ct η l yX12_gather cX12_gather 7 none 5 120 0 0 [qr a0, qi x1, qi x2] n K I F (am_pS 0 r0 n K F) := fun g => am_Ct.of false (by decide) (by decide) (Nat.le_of_ble_eq_true rfl) (fun _ => w_X12_gather (N := N) h0 g)
def M_X12_isEnd : am_M := (yX12_isEnd.cls, cX12_isEnd, 2, (some .boolean), am_room 0 0 0 0, false)
def X12_isEnd_b22 (N : Nat) (K : am_K) (F : am_F) (I : am_I) (a0 : Nat) (s0 : Int) : Option Int :=
  if s0 = 0 ∨ s0 = 1 then some (s0) else none
theorem w_X12_isEnd_b22 {η : am_E} {l : Launch} {N : Nat} {n : Nat} {K : am_K} {I : am_I} {F : am_F} {a0 : Nat} {r0 : Int} {s0 : Int} (h0 : (K a0).1 = 12) : X12_isEnd_b22 N K F I a0 s0 = some r0 → Ok η l M_X12_isEnd (am_qm η (am_pS 1 (r0, I) n K F) 0 0) 22 [(0, qr a0)] [qi s0] n K I F 0 0 := by
  unfold X12_isEnd_b22
  refine fi_chk (fun h_1 => ?_)
  exact fi_zreturnP dX12_isEnd_22 rfl h_1
def X12_isEnd (N : Nat) (K : am_K) (F : am_F) (I : am_I) (a0 : Nat) (x1 : Int) : Option Int :=
  if (K (F a0 29)).1 = 100 then if (0 : Int) ≤ x1 ∧ x1 < (K (F a0 29)).2 then if am_inI (x1 + 1) then if (0 : Int) ≤ (x1 + 1) ∧ (x1 + 1) < (K (F a0 29)).2 then if (I (F a0 29) x1) = (I (F a0 29) (x1 + 1)) then (X12_isEnd_b22 N K F I a0 1) else (X12_isEnd_b22 N K F I a0 0) else none else none else none else none
theorem w_X12_isEnd {η : am_E} {l : Launch} {N : Nat} {n : Nat} {K : am_K} {I : am_I} {F : am_F} {a0 : Nat} {r0 : Int} {x1 : Int} (h0 : (K a0).1 = 12) : X12_isEnd N K F I a0 x1 = some r0 → Ok η l M_X12_isEnd (am_qm η (am_pS 1 (r0, I) n K F) 0 0) 0 [(0, qr a0), (1, qi x1)] [] n K I F 0 0 := by
  unfold X12_isEnd
  refine ok_aload_n (q := 1) 0 dX12_isEnd_0 rfl rfl rfl ?_
  refine ok_getR (q := 4) (ci := 12) (k := 29) (x := F a0 29) dX12_isEnd_1 rfl fo_X12_46 h0 rfl ?_
  refine ok_iload_n (q := 5) 1 dX12_isEnd_4 rfl rfl rfl ?_
  refine fi_chk (fun h_1 => ?_)
  refine fi_chk (fun h_2 => ?_)
  refine ok_iaload (q := 6) (v := I (F a0 29) x1) dX12_isEnd_5 rfl h_1 h_2.1 h_2.2 rfl ?_
  refine ok_aload_n (q := 7) 0 dX12_isEnd_6 rfl rfl rfl ?_
  refine ok_getR (q := 10) (ci := 12) (k := 29) (x := F a0 29) dX12_isEnd_7 rfl fo_X12_46 h0 rfl ?_
  refine ok_iload_n (q := 11) 1 dX12_isEnd_10 rfl rfl rfl ?_
  refine ok_iconst (q := 12) (x := 1) dX12_isEnd_11 rfl rfl (by decide) ?_
  refine fi_chk (fun h_3 => ?_)
  refine ok_iadd (q := 13) dX12_isEnd_12 rfl h_3 ?_
  refine fi_chk (fun h_4 => ?_)
  refine ok_iaload (q := 14) (v := I (F a0 29) (x1 + 1)) dX12_isEnd_13 rfl h_1 h_4.1 h_4.2 rfl ?_
  refine ok_icmp_ne (q := 21) (q2 := 17) dX12_isEnd_14 rfl rfl ?_ ?_
  · skip
    refine ok_iconst (q := 22) (x := 0) dX12_isEnd_21 rfl rfl (by decide) ?_
    exact fun g => ok_pick [0] rfl (w_X12_isEnd_b22 (N := N) h0 g)
  · skip
    refine ok_iconst (q := 18) (x := 1) dX12_isEnd_17 rfl rfl (by decide) ?_
    refine ok_goto (q := 22) dX12_isEnd_18 rfl ?_
    exact fun g => ok_pick [0] rfl (w_X12_isEnd_b22 (N := N) h0 g)
theorem ct_X12_isEnd {η : am_E} {l : Launch} {N : Nat} {n : Nat} {K : am_K} {I : am_I} {F : am_F} {a0 : Nat} {r0 : Int} {x1 : Int} (h0 : (K a0).1 = 12) : X12_isEnd N K F I a0 x1 = some r0 → am_Ct η l yX12_isEnd cX12_isEnd 2 (some .boolean) 0 0 0 0 [qr a0, qi x1] n K I F (am_pS 1 (r0, I) n K F) := fun g => am_Ct.of false (by decide) (by decide) (Nat.le_of_ble_eq_true rfl) (fun _ => w_X12_isEnd (N := N) h0 g)
def M_X12_round (mc ms : Nat) : am_M := (yX12_round.cls, cX12_round, 7, (some .boolean), am_room 1 21 mc ms, false)
def X12_round_b158 (N : Nat) (a0 : Nat) (k5 : Nat → am_K → am_I → am_F → Nat → Nat → Int → Int → Int → Int → Option am_A) (n : Nat) (K : am_K) (I : am_I) (F : am_F) (c z : Nat) (x1 : Int) (x2 : Int) (x3 : Int) (x4 : Int) : Option am_A :=
  am_mo c z (if am_inI (x4 + 1) then am_lt (x4 + 1) (fun x4_4 => k5 n K I F c z x1 x2 x3 x4_4) else none)
theorem w_X12_round_b158 {η : am_E} {l : Launch} {N : Nat} {n : Nat} {K : am_K} {I : am_I} {F : am_F} {c z : Nat} {a0 : Nat} {r0 : am_A} {k5 : Nat → am_K → am_I → am_F → Nat → Nat → Int → Int → Int → Int → Option am_A} {x1 : Int} {x2 : Int} {x3 : Int} {x4 : Int} (H5 : ∀ (n : Nat) (K : am_K) (I : am_I) (F : am_F) (c : Nat) (z : Nat) (x1 : Int) (x2 : Int) (x3 : Int) (x4 : Int), k5 n K I F c z x1 x2 x3 x4 = some r0 → Ok η l (M_X12_round (am_ac1 r0) (am_az1 r0)) (am_qm η (am_pA 1 r0) (am_ac1 r0) (am_az1 r0)) 5 [(0, qr a0), (1, qi x1), (2, qi x2), (3, qi x3), (4, qi x4)] [] n K I F c z) : X12_round_b158 N a0 k5 n K I F c z x1 x2 x3 x4 = some r0 → Ok η l (M_X12_round (am_ac1 r0) (am_az1 r0)) (am_qm η (am_pA 1 r0) (am_ac1 r0) (am_az1 r0)) 158 [(0, qr a0), (1, qi x1), (2, qi x2), (3, qi x3), (4, qi x4)] [] n K I F c z := by
  unfold X12_round_b158
  refine fi_mo (fun hc_1 hz_2 => ?_)
  refine fi_chk (fun h_3 => ?_)
  refine ok_iincL (q := 161) (fun x4_4 => [(4, qi x4_4), (0, qr a0), (1, qi x1), (2, qi x2), (3, qi x3)]) 4 dX12_round_158 rfl rfl h_3 (Nat.le_of_ble_eq_true rfl) (fun _ => rfl) (fun x4_4 => ?_)
  refine ok_goto (q := 5) dX12_round_161 rfl ?_
  exact fun g => ok_pick [1, 2, 3, 4, 0] rfl (H5 _ _ _ _ _ _ _ _ _ _ g)
def X12_round_b157 (N : Nat) (a0 : Nat) (k5 : Nat → am_K → am_I → am_F → Nat → Nat → Int → Int → Int → Int → Option am_A) (n : Nat) (K : am_K) (I : am_I) (F : am_F) (c z : Nat) (x1 : Int) (x2 : Int) (x4 : Int) (s0 : Int) : Option am_A :=
  am_mo c z (X12_round_b158 N a0 k5 n K I F c z x1 x2 s0 x4)
theorem w_X12_round_b157 {η : am_E} {l : Launch} {N : Nat} {n : Nat} {K : am_K} {I : am_I} {F : am_F} {c z : Nat} {a0 : Nat} {r0 : am_A} {k5 : Nat → am_K → am_I → am_F → Nat → Nat → Int → Int → Int → Int → Option am_A} {x1 : Int} {x2 : Int} {x4 : Int} {s0 : Int} (H5 : ∀ (n : Nat) (K : am_K) (I : am_I) (F : am_F) (c : Nat) (z : Nat) (x1 : Int) (x2 : Int) (x3 : Int) (x4 : Int), k5 n K I F c z x1 x2 x3 x4 = some r0 → Ok η l (M_X12_round (am_ac1 r0) (am_az1 r0)) (am_qm η (am_pA 1 r0) (am_ac1 r0) (am_az1 r0)) 5 [(0, qr a0), (1, qi x1), (2, qi x2), (3, qi x3), (4, qi x4)] [] n K I F c z) : X12_round_b157 N a0 k5 n K I F c z x1 x2 x4 s0 = some r0 → Ok η l (M_X12_round (am_ac1 r0) (am_az1 r0)) (am_qm η (am_pA 1 r0) (am_ac1 r0) (am_az1 r0)) 157 [(0, qr a0), (1, qi x1), (2, qi x2), (4, qi x4)] [qi s0] n K I F c z := by
  unfold X12_round_b157
  refine fi_mo (fun hc_1 hz_2 => ?_)
  refine ok_istore_n (q := 158) (ls' := [(3, qi s0), (0, qr a0), (1, qi x1), (2, qi x2), (4, qi x4)]) dX12_round_157 rfl rfl (Nat.le_of_ble_eq_true rfl) rfl ?_
  exact fun g => ok_pick [1, 2, 3, 0, 4] rfl (w_X12_round_b158 (N := N) H5 g)
def X12_round_b152 (N : Nat) (a0 : Nat) (k5 : Nat → am_K → am_I → am_F → Nat → Nat → Int → Int → Int → Int → Option am_A) (n : Nat) (K : am_K) (I : am_I) (F : am_F) (c z : Nat) (x1 : Int) (x2 : Int) (x4 : Int) : Option am_A :=
  am_mo c z (X12_round_b157 N a0 k5 n K I F c z x1 x2 x4 1)
theorem w_X12_round_b152 {η : am_E} {l : Launch} {N : Nat} {n : Nat} {K : am_K} {I : am_I} {F : am_F} {c z : Nat} {a0 : Nat} {r0 : am_A} {k5 : Nat → am_K → am_I → am_F → Nat → Nat → Int → Int → Int → Int → Option am_A} {x1 : Int} {x2 : Int} {x4 : Int} (H5 : ∀ (n : Nat) (K : am_K) (I : am_I) (F : am_F) (c : Nat) (z : Nat) (x1 : Int) (x2 : Int) (x3 : Int) (x4 : Int), k5 n K I F c z x1 x2 x3 x4 = some r0 → Ok η l (M_X12_round (am_ac1 r0) (am_az1 r0)) (am_qm η (am_pA 1 r0) (am_ac1 r0) (am_az1 r0)) 5 [(0, qr a0), (1, qi x1), (2, qi x2), (3, qi x3), (4, qi x4)] [] n K I F c z) : X12_round_b152 N a0 k5 n K I F c z x1 x2 x4 = some r0 → Ok η l (M_X12_round (am_ac1 r0) (am_az1 r0)) (am_qm η (am_pA 1 r0) (am_ac1 r0) (am_az1 r0)) 152 [(0, qr a0), (1, qi x1), (2, qi x2), (4, qi x4)] [] n K I F c z := by
  unfold X12_round_b152
  refine fi_mo (fun hc_1 hz_2 => ?_)
  refine ok_iconst (q := 153) (x := 1) dX12_round_152 rfl rfl (by decide) ?_
  refine ok_goto (q := 157) dX12_round_153 rfl ?_
  exact fun g => ok_pick [0, 1, 2, 3] rfl (w_X12_round_b157 (N := N) H5 g)
def X12_round_b115 (N : Nat) (a0 : Nat) (k5 : Nat → am_K → am_I → am_F → Nat → Nat → Int → Int → Int → Int → Option am_A) (k52 : Nat → am_K → am_I → am_F → Nat → Nat → Int → Int → Int → Int → Int → Int → Option am_A) (n : Nat) (K : am_K) (I : am_I) (F : am_F) (c z : Nat) (x1 : Int) (x2 : Int) (x3 : Int) (x4 : Int) (x6 : Int) (s0 : Int) (s1 : Int) (s2 : Int) : Option am_A :=
  am_mo c z (if am_inI (s1 - s0) then am_lt (am_max s2 (s1 - s0)) (fun x5_4 => if am_inI (x6 + 1) then am_lt (x6 + 1) (fun x6_6 => k52 n K I F c z x1 x2 x3 x4 x5_4 x6_6) else none) else none)
theorem w_X12_round_b115 {η : am_E} {l : Launch} {N : Nat} {n : Nat} {K : am_K} {I : am_I} {F : am_F} {c z : Nat} {a0 : Nat} {r0 : am_A} {k5 : Nat → am_K → am_I → am_F → Nat → Nat → Int → Int → Int → Int → Option am_A} {k52 : Nat → am_K → am_I → am_F → Nat → Nat → Int → Int → Int → Int → Int → Int → Option am_A} {x1 : Int} {x2 : Int} {x3 : Int} {x4 : Int} {x6 : Int} {s0 : Int} {s1 : Int} {s2 : Int} (H5 : ∀ (n : Nat) (K : am_K) (I : am_I) (F : am_F) (c : Nat) (z : Nat) (x1 : Int) (x2 : Int) (x3 : Int) (x4 : Int), k5 n K I F c z x1 x2 x3 x4 = some r0 → Ok η l (M_X12_round (am_ac1 r0) (am_az1 r0)) (am_qm η (am_pA 1 r0) (am_ac1 r0) (am_az1 r0)) 5 [(0, qr a0), (1, qi x1), (2, qi x2), (3, qi x3), (4, qi x4)] [] n K I F c z) (H52 : ∀ (n : Nat) (K : am_K) (I : am_I) (F : am_F) (c : Nat) (z : Nat) (x1 : Int) (x2 : Int) (x3 : Int) (x4 : Int) (x5 : Int) (x6 : Int), k52 n K I F c z x1 x2 x3 x4 x5 x6 = some r0 → Ok η l (M_X12_round (am_ac1 r0) (am_az1 r0)) (am_qm η (am_pA 1 r0) (am_ac1 r0) (am_az1 r0)) 52 [(0, qr a0), (1, qi x1), (2, qi x2), (3, qi x3), (4, qi x4), (5, qi x5), (6, qi x6)] [] n K I F c z) : X12_round_b115 N a0 k5 k52 n K I F c z x1 x2 x3 x4 x6 s0 s1 s2 = some r0 → Ok η l (M_X12_round (am_ac1 r0) (am_az1 r0)) (am_qm η (am_pA 1 r0) (am_ac1 r0) (am_az1 r0)) 115 [(0, qr a0), (1, qi x1), (2, qi x2), (3, qi x3), (4, qi x4), (6, qi x6)] [qi s0, qi s1, qi s2] n K I F c z := by
  unfold X12_round_b115
  refine fi_mo (fun hc_1 hz_2 => ?_)
  refine fi_chk (fun h_3 => ?_)
  refine ok_isub (q := 116) dX12_round_115 rfl h_3 ?_
  refine ok_mmax (q := 119) dX12_round_116 rfl mm_X12_219 (Nat.le_of_ble_eq_true rfl) (Nat.le_of_ble_eq_true rfl) (Nat.le_of_ble_eq_true rfl) hc_1 hz_2 ?_
  refine ok_istoreL (q := 121) (fun x5_4 => [(5, qi x5_4), (0, qr a0), (1, qi x1), (2, qi x2), (3, qi x3), (4, qi x4), (6, qi x6)]) dX12_round_119 rfl (Nat.le_of_ble_eq_true rfl) (fun _ => rfl) (fun x5_4 => ?_)
  refine fi_chk (fun h_5 => ?_)
  refine ok_iincL (q := 124) (fun x6_6 => [(6, qi x6_6), (5, qi x5_4), (0, qr a0), (1, qi x1), (2, qi x2), (3, qi x3), (4, qi x4)]) 6 dX12_round_121 rfl rfl h_5 (Nat.le_of_ble_eq_true rfl) (fun _ => rfl) (fun x6_6 => ?_)
  refine ok_goto (q := 52) dX12_round_124 rfl ?_
  exact fun g => ok_pick [2, 3, 4, 5, 6, 1, 0] rfl (H52 _ _ _ _ _ _ _ _ _ _ _ _ g)
def X12_round_s52 (N : Nat) (a0 : Nat) (k5 : Nat → am_K → am_I → am_F → Nat → Nat → Int → Int → Int → Int → Option am_A) (k52 : Nat → am_K → am_I → am_F → Nat → Nat → Int → Int → Int → Int → Int → Int → Option am_A) (n : Nat) (K : am_K) (I : am_I) (F : am_F) (c z : Nat) (x1 : Int) (x2 : Int) (x3 : Int) (x4 : Int) (x5 : Int) (x6 : Int) : Option am_A :=
  am_mo c z (if (K a0).1 = 12 then if am_inI (x4 + 1) then if (K (F a0 29)).1 = 100 then if (0 : Int) ≤ (x4 + 1) ∧ (x4 + 1) < (K (F a0 29)).2 then if x6 < (I (F a0 29) (x4 + 1)) then (if (K (F a0 31)).1 = 100 then if (0 : Int) ≤ x6 ∧ x6 < (K (F a0 31)).2 then if (K (F a0 30)).1 = 100 then if (0 : Int) ≤ x6 ∧ x6 < (K (F a0 30)).2 then if x1 ≤ (I (F a0 30) x6) then (if am_inI ((I (F a0 30) x6) - x1) then if (K (F a0 33)).1 = 100 then if (0 : Int) ≤ ((I (F a0 30) x6) - x1) ∧ ((I (F a0 30) x6) - x1) < (K (F a0 33)).2 then X12_round_b115 N a0 k5 k52 n K I F c z x1 x2 x3 x4 x6 (I (F a0 33) ((I (F a0 30) x6) - x1)) (I (F a0 31) x6) x5 else none else none else none) else (if (K (F a0 25)).1 = 100 then if (0 : Int) ≤ (I (F a0 30) x6) ∧ (I (F a0 30) x6) < (K (F a0 25)).2 then X12_round_b115 N a0 k5 k52 n K I F c z x1 x2 x3 x4 x6 (I (F a0 25) (I (F a0 30) x6)) (I (F a0 31) x6) x5 else none else none) else none else none else none else none) else (if (K (F a0 34)).1 = 100 then if F a0 34 ≠ 1 then if (0 : Int) ≤ x4 ∧ x4 < (K (F a0 34)).2 then am_lt (am_u2 I (F a0 34) x4 x5) (fun I_10 => if x3 = 0 then (if (K (F a0 33)).1 = 100 then if (0 : Int) ≤ x4 ∧ x4 < (K (F a0 33)).2 then if x5 = (I_10 (F a0 33) x4) then (X12_round_b157 N a0 k5 n K I_10 F c z x1 x2 x4 0) else (X12_round_b152 N a0 k5 n K I_10 F c z x1 x2 x4) else none else none) else (X12_round_b152 N a0 k5 n K I_10 F c z x1 x2 x4)) else none else none else none) else none else none else none else none)
theorem w_X12_round_s52 {η : am_E} {l : Launch} {N : Nat} {n : Nat} {K : am_K} {I : am_I} {F : am_F} {c z : Nat} {a0 : Nat} {r0 : am_A} {k5 : Nat → am_K → am_I → am_F → Nat → Nat → Int → Int → Int → Int → Option am_A} {k52 : Nat → am_K → am_I → am_F → Nat → Nat → Int → Int → Int → Int → Int → Int → Option am_A} {x1 : Int} {x2 : Int} {x3 : Int} {x4 : Int} {x5 : Int} {x6 : Int} (H5 : ∀ (n : Nat) (K : am_K) (I : am_I) (F : am_F) (c : Nat) (z : Nat) (x1 : Int) (x2 : Int) (x3 : Int) (x4 : Int), k5 n K I F c z x1 x2 x3 x4 = some r0 → Ok η l (M_X12_round (am_ac1 r0) (am_az1 r0)) (am_qm η (am_pA 1 r0) (am_ac1 r0) (am_az1 r0)) 5 [(0, qr a0), (1, qi x1), (2, qi x2), (3, qi x3), (4, qi x4)] [] n K I F c z) (H52 : ∀ (n : Nat) (K : am_K) (I : am_I) (F : am_F) (c : Nat) (z : Nat) (x1 : Int) (x2 : Int) (x3 : Int) (x4 : Int) (x5 : Int) (x6 : Int), k52 n K I F c z x1 x2 x3 x4 x5 x6 = some r0 → Ok η l (M_X12_round (am_ac1 r0) (am_az1 r0)) (am_qm η (am_pA 1 r0) (am_ac1 r0) (am_az1 r0)) 52 [(0, qr a0), (1, qi x1), (2, qi x2), (3, qi x3), (4, qi x4), (5, qi x5), (6, qi x6)] [] n K I F c z) : X12_round_s52 N a0 k5 k52 n K I F c z x1 x2 x3 x4 x5 x6 = some r0 → Ok η l (M_X12_round (am_ac1 r0) (am_az1 r0)) (am_qm η (am_pA 1 r0) (am_ac1 r0) (am_az1 r0)) 52 [(0, qr a0), (1, qi x1), (2, qi x2), (3, qi x3), (4, qi x4), (5, qi x5), (6, qi x6)] [] n K I F c z := by
  unfold X12_round_s52
  refine fi_mo (fun hc_1 hz_2 => ?_)
  refine ok_iload (q := 54) 6 dX12_round_52 rfl rfl ?_
  refine ok_aload_n (q := 55) 0 dX12_round_54 rfl rfl rfl ?_
  refine fi_chk (fun h_3 => ?_)
  refine ok_getR (q := 58) (ci := 12) (k := 29) (x := F a0 29) dX12_round_55 rfl fo_X12_46 h_3 rfl ?_
  refine ok_iload (q := 60) 4 dX12_round_58 rfl rfl ?_
  refine ok_iconst (q := 61) (x := 1) dX12_round_60 rfl rfl (by decide) ?_
  refine fi_chk (fun h_4 => ?_)
  refine ok_iadd (q := 62) dX12_round_61 rfl h_4 ?_
  refine fi_chk (fun h_5 => ?_)
  refine fi_chk (fun h_6 => ?_)
  refine ok_iaload (q := 63) (v := I (F a0 29) (x4 + 1)) dX12_round_62 rfl h_5 h_6.1 h_6.2 rfl ?_
  refine ok_icmp_ge (q := 127) (q2 := 66) dX12_round_63 rfl rfl ?_ ?_
  · skip
    refine ok_aload_n (q := 128) 0 dX12_round_127 rfl rfl rfl ?_
    refine ok_getR (q := 131) (ci := 12) (k := 34) (x := F a0 34) dX12_round_128 rfl fo_X12_62 h_3 rfl ?_
    refine ok_iload (q := 133) 4 dX12_round_131 rfl rfl ?_
    refine ok_iload (q := 135) 5 dX12_round_133 rfl rfl ?_
    refine fi_chk (fun h_7 => ?_)
    refine fi_chk (fun h_8 => ?_)
    refine fi_chk (fun h_9 => ?_)
    refine ok_iastore (q := 136) dX12_round_135 rfl h_7 h_8 h_9.1 h_9.2 (fun I_10 => ?_)
    refine ok_iload_n (q := 137) 3 dX12_round_136 rfl rfl rfl ?_
    refine ok_if_ne (q := 152) (q2 := 140) dX12_round_137 rfl rfl ?_ ?_
    · skip
      exact fun g => ok_pick [0, 1, 2, 4] rfl (w_X12_round_b152 (N := N) H5 g)
    · skip
      refine ok_iload (q := 142) 5 dX12_round_140 rfl rfl ?_
      refine ok_aload_n (q := 143) 0 dX12_round_142 rfl rfl rfl ?_
      refine ok_getR (q := 146) (ci := 12) (k := 33) (x := F a0 33) dX12_round_143 rfl fo_X12_59 h_3 rfl ?_
      refine ok_iload (q := 148) 4 dX12_round_146 rfl rfl ?_
      refine fi_chk (fun h_11 => ?_)
      refine fi_chk (fun h_12 => ?_)
      refine ok_iaload (q := 149) (v := I_10 (F a0 33) x4) dX12_round_148 rfl h_11 h_12.1 h_12.2 rfl ?_
      refine ok_icmp_eq (q := 156) (q2 := 152) dX12_round_149 rfl rfl ?_ ?_
      · skip
        refine ok_iconst (q := 157) (x := 0) dX12_round_156 rfl rfl (by decide) ?_
        exact fun g => ok_pick [0, 1, 2, 4] rfl (w_X12_round_b157 (N := N) H5 g)
      · skip
        exact fun g => ok_pick [0, 1, 2, 4] rfl (w_X12_round_b152 (N := N) H5 g)
  · skip
    refine ok_iload (q := 68) 5 dX12_round_66 rfl rfl ?_
    refine ok_aload_n (q := 69) 0 dX12_round_68 rfl rfl rfl ?_
    refine ok_getR (q := 72) (ci := 12) (k := 31) (x := F a0 31) dX12_round_69 rfl fo_X12_53 h_3 rfl ?_
    refine ok_iload (q := 74) 6 dX12_round_72 rfl rfl ?_
    refine fi_chk (fun h_13 => ?_)
    refine fi_chk (fun h_14 => ?_)
    refine ok_iaload (q := 75) (v := I (F a0 31) x6) dX12_round_74 rfl h_13 h_14.1 h_14.2 rfl ?_
    refine ok_aload_n (q := 76) 0 dX12_round_75 rfl rfl rfl ?_
    refine ok_getR (q := 79) (ci := 12) (k := 30) (x := F a0 30) dX12_round_76 rfl fo_X12_50 h_3 rfl ?_
    refine ok_iload (q := 81) 6 dX12_round_79 rfl rfl ?_
    refine fi_chk (fun h_15 => ?_)
    refine fi_chk (fun h_16 => ?_)
    refine ok_iaload (q := 82) (v := I (F a0 30) x6) dX12_round_81 rfl h_15 h_16.1 h_16.2 rfl ?_
    refine ok_iload_n (q := 83) 1 dX12_round_82 rfl rfl rfl ?_
    refine ok_icmp_lt (q := 103) (q2 := 86) dX12_round_83 rfl rfl ?_ ?_
    · skip
      refine ok_aload_n (q := 104) 0 dX12_round_103 rfl rfl rfl ?_
      refine ok_getR (q := 107) (ci := 12) (k := 25) (x := F a0 25) dX12_round_104 rfl fo_X12_33 h_3 rfl ?_
      refine ok_aload_n (q := 108) 0 dX12_round_107 rfl rfl rfl ?_
      refine ok_getR (q := 111) (ci := 12) (k := 30) (x := F a0 30) dX12_round_108 rfl fo_X12_50 h_3 rfl ?_
      refine ok_iload (q := 113) 6 dX12_round_111 rfl rfl ?_
      refine ok_iaload (q := 114) (v := I (F a0 30) x6) dX12_round_113 rfl h_15 h_16.1 h_16.2 rfl ?_
      refine fi_chk (fun h_17 => ?_)
      refine fi_chk (fun h_18 => ?_)
      refine ok_iaload (q := 115) (v := I (F a0 25) (I (F a0 30) x6)) dX12_round_114 rfl h_17 h_18.1 h_18.2 rfl ?_
      exact fun g => ok_pick [0, 1, 2, 3, 4, 6] rfl (w_X12_round_b115 (N := N) H5 H52 g)
    · skip
      refine ok_aload_n (q := 87) 0 dX12_round_86 rfl rfl rfl ?_
      refine ok_getR (q := 90) (ci := 12) (k := 33) (x := F a0 33) dX12_round_87 rfl fo_X12_59 h_3 rfl ?_
      refine ok_aload_n (q := 91) 0 dX12_round_90 rfl rfl rfl ?_
      refine ok_getR (q := 94) (ci := 12) (k := 30) (x := F a0 30) dX12_round_91 rfl fo_X12_50 h_3 rfl ?_
      refine ok_iload (q := 96) 6 dX12_round_94 rfl rfl ?_
      refine ok_iaload (q := 97) (v := I (F a0 30) x6) dX12_round_96 rfl h_15 h_16.1 h_16.2 rfl ?_
      refine ok_iload_n (q := 98) 1 dX12_round_97 rfl rfl rfl ?_
      refine fi_chk (fun h_19 => ?_)
      refine ok_isub (q := 99) dX12_round_98 rfl h_19 ?_
      refine fi_chk (fun h_20 => ?_)
      refine fi_chk (fun h_21 => ?_)
      refine ok_iaload (q := 100) (v := I (F a0 33) ((I (F a0 30) x6) - x1)) dX12_round_99 rfl h_20 h_21.1 h_21.2 rfl ?_
      refine ok_goto (q := 115) dX12_round_100 rfl ?_
      exact fun g => ok_pick [0, 1, 2, 3, 4, 6] rfl (w_X12_round_b115 (N := N) H5 H52 g)
def X12_round_h52 (N : Nat) (a0 : Nat) (k5 : Nat → am_K → am_I → am_F → Nat → Nat → Int → Int → Int → Int → Option am_A) : Nat → Nat → am_K → am_I → am_F → Nat → Nat → Int → Int → Int → Int → Int → Int → Option am_A := am_it (fun kh => X12_round_s52 N a0 k5 kh) (fun _ _ _ _ _ _ _ _ _ _ _ _ => none)
theorem w_X12_round_h52 {η : am_E} {l : Launch} {N : Nat}  {a0 : Nat} {r0 : am_A} {k5 : Nat → am_K → am_I → am_F → Nat → Nat → Int → Int → Int → Int → Option am_A} (H5 : ∀ (n : Nat) (K : am_K) (I : am_I) (F : am_F) (c : Nat) (z : Nat) (x1 : Int) (x2 : Int) (x3 : Int) (x4 : Int), k5 n K I F c z x1 x2 x3 x4 = some r0 → Ok η l (M_X12_round (am_ac1 r0) (am_az1 r0)) (am_qm η (am_pA 1 r0) (am_ac1 r0) (am_az1 r0)) 5 [(0, qr a0), (1, qi x1), (2, qi x2), (3, qi x3), (4, qi x4)] [] n K I F c z) (f : Nat) : ∀ (n : Nat) (K : am_K) (I : am_I) (F : am_F) (c : Nat) (z : Nat) (x1 : Int) (x2 : Int) (x3 : Int) (x4 : Int) (x5 : Int) (x6 : Int), X12_round_h52 N a0 k5 f n K I F c z x1 x2 x3 x4 x5 x6 = some r0 → Ok η l (M_X12_round (am_ac1 r0) (am_az1 r0)) (am_qm η (am_pA 1 r0) (am_ac1 r0) (am_az1 r0)) 52 [(0, qr a0), (1, qi x1), (2, qi x2), (3, qi x3), (4, qi x4), (5, qi x5), (6, qi x6)] [] n K I F c z := by
  induction f with
  | zero => intro n K I F c z x1 x2 x3 x4 x5 x6 g; exact fi_none g
  | succ f ih => intro n K I F c z x1 x2 x3 x4 x5 x6 g; exact w_X12_round_s52 (N := N) H5 ih g
def X12_round_s5 (N : Nat) (a0 : Nat) (k5 : Nat → am_K → am_I → am_F → Nat → Nat → Int → Int → Int → Int → Option am_A) (n : Nat) (K : am_K) (I : am_I) (F : am_F) (c z : Nat) (x1 : Int) (x2 : Int) (x3 : Int) (x4 : Int) : Option am_A :=
  am_mo c z (if am_inI (x2 - x1) then if x4 < (x2 - x1) then (if (K a0).1 = 12 then if (K (F a0 33)).1 = 100 then if (0 : Int) ≤ x4 ∧ x4 < (K (F a0 33)).2 then if (K (F a0 34)).1 = 100 then if F a0 34 ≠ 1 then if (0 : Int) ≤ x4 ∧ x4 < (K (F a0 34)).2 then am_lt (am_u2 I (F a0 34) x4 (I (F a0 33) x4)) (fun I_15 => am_cq (X12_isEnd N K F I_15 a0 x4) (fun v_16 => if v_16 = 0 then (if (K (F a0 29)).1 = 100 then if (0 : Int) ≤ x4 ∧ x4 < (K (F a0 29)).2 then am_lt (I_15 (F a0 29) x4) (fun x6_19 => X12_round_h52 N a0 k5 N n K I_15 F c z x1 x2 x3 x4 (-2147483648) x6_19) else none else none) else (X12_round_b158 N a0 k5 n K I_15 F c z x1 x2 x3 x4))) else none else none else none else none else none else none) else (if (K a0).1 = 12 then am_lt (F a0 33) (fun a4_5 => am_lt (am_u2 F a0 33 (F a0 34)) (fun F_6 => am_lt (am_u2 F_6 a0 34 a4_5) (fun F_7 => if x3 = 0 ∨ x3 = 1 then some (x3, n, K, I, F_7, c, z) else none))) else none) else none)
theorem w_X12_round_s5 {η : am_E} {l : Launch} {N : Nat} {n : Nat} {K : am_K} {I : am_I} {F : am_F} {c z : Nat} {a0 : Nat} {r0 : am_A} {k5 : Nat → am_K → am_I → am_F → Nat → Nat → Int → Int → Int → Int → Option am_A} {x1 : Int} {x2 : Int} {x3 : Int} {x4 : Int} (H5 : ∀ (n : Nat) (K : am_K) (I : am_I) (F : am_F) (c : Nat) (z : Nat) (x1 : Int) (x2 : Int) (x3 : Int) (x4 : Int), k5 n K I F c z x1 x2 x3 x4 = some r0 → Ok η l (M_X12_round (am_ac1 r0) (am_az1 r0)) (am_qm η (am_pA 1 r0) (am_ac1 r0) (am_az1 r0)) 5 [(0, qr a0), (1, qi x1), (2, qi x2), (3, qi x3), (4, qi x4)] [] n K I F c z) : X12_round_s5 N a0 k5 n K I F c z x1 x2 x3 x4 = some r0 → Ok η l (M_X12_round (am_ac1 r0) (am_az1 r0)) (am_qm η (am_pA 1 r0) (am_ac1 r0) (am_az1 r0)) 5 [(0, qr a0), (1, qi x1), (2, qi x2), (3, qi x3), (4, qi x4)] [] n K I F c z := by
  unfold X12_round_s5
  refine fi_mo (fun hc_1 hz_2 => ?_)
  refine ok_iload (q := 7) 4 dX12_round_5 rfl rfl ?_
  refine ok_iload_n (q := 8) 2 dX12_round_7 rfl rfl rfl ?_
  refine ok_iload_n (q := 9) 1 dX12_round_8 rfl rfl rfl ?_
  refine fi_chk (fun h_3 => ?_)
  refine ok_isub (q := 10) dX12_round_9 rfl h_3 ?_
  refine ok_icmp_ge (q := 164) (q2 := 13) dX12_round_10 rfl rfl ?_ ?_
  · skip
    refine ok_aload_n (q := 165) 0 dX12_round_164 rfl rfl rfl ?_
    refine fi_chk (fun h_4 => ?_)
    refine ok_getR (q := 168) (ci := 12) (k := 33) (x := F a0 33) dX12_round_165 rfl fo_X12_59 h_4 rfl ?_
    refine ok_astoreL (q := 170) (fun a4_5 => [(4, qr a4_5), (0, qr a0), (1, qi x1), (2, qi x2), (3, qi x3)]) dX12_round_168 rfl (Nat.le_of_ble_eq_true rfl) (fun _ => rfl) (fun a4_5 => ?_)
    refine ok_aload_n (q := 171) 1 dX12_round_170 rfl rfl rfl ?_
    refine ok_aload_n (q := 172) 1 dX12_round_171 rfl rfl rfl ?_
    refine ok_getR (q := 175) (ci := 12) (k := 34) (x := F a0 34) dX12_round_172 rfl fo_X12_62 h_4 rfl ?_
    refine ok_putR (q := 178) (ci := 12) (k := 33) dX12_round_175 rfl fo_X12_59 h_4 ft_12_33 rfl ff_12_33 (fun F_6 => ?_)
    refine ok_aload_n (q := 179) 1 dX12_round_178 rfl rfl rfl ?_
    refine ok_aload (q := 181) 0 dX12_round_179 rfl rfl ?_
    refine ok_putR (q := 184) (ci := 12) (k := 34) dX12_round_181 rfl fo_X12_62 h_4 ft_12_34 rfl ff_12_34 (fun F_7 => ?_)
    refine ok_iload_n (q := 185) 4 dX12_round_184 rfl rfl rfl ?_
    refine fi_chk (fun h_8 => ?_)
    exact fi_zreturnA dX12_round_185 rfl h_8
  · skip
    refine ok_aload_n (q := 14) 0 dX12_round_13 rfl rfl rfl ?_
    refine fi_chk (fun h_9 => ?_)
    refine ok_getR (q := 17) (ci := 12) (k := 34) (x := F a0 34) dX12_round_14 rfl fo_X12_62 h_9 rfl ?_
    refine ok_iload (q := 19) 4 dX12_round_17 rfl rfl ?_
    refine ok_aload_n (q := 20) 0 dX12_round_19 rfl rfl rfl ?_
    refine ok_getR (q := 23) (ci := 12) (k := 33) (x := F a0 33) dX12_round_20 rfl fo_X12_59 h_9 rfl ?_
    refine ok_iload (q := 25) 4 dX12_round_23 rfl rfl ?_
    refine fi_chk (fun h_10 => ?_)
    refine fi_chk (fun h_11 => ?_)
    refine ok_iaload (q := 26) (v := I (F a0 33) x4) dX12_round_25 rfl h_10 h_11.1 h_11.2 rfl ?_
    refine fi_chk (fun h_12 => ?_)
    refine fi_chk (fun h_13 => ?_)
    refine fi_chk (fun h_14 => ?_)
    refine ok_iastore (q := 27) dX12_round_26 rfl h_12 h_13 h_14.1 h_14.2 (fun I_15 => ?_)
    refine ok_aload_n (q := 28) 0 dX12_round_27 rfl rfl rfl ?_
    refine ok_iload (q := 30) 4 dX12_round_28 rfl rfl ?_
    refine fi_callV1P (q := 33) (as := [qi x4]) (st := []) dX12_round_30 rfl mo_X12_213 h_9 rfl (Nat.le_of_ble_eq_true rfl) rfl rfl (Nat.le_of_ble_eq_true rfl) (Nat.le_of_ble_eq_true rfl) (Nat.le_of_ble_eq_true rfl) hc_1 hz_2 (fun _ hr => ct_X12_isEnd (N := N) h_9 hr) (fun v_16 => ?_)
    refine ok_if_eq (q := 39) (q2 := 36) dX12_round_33 rfl rfl ?_ ?_
    · skip
      refine ok_ldc (q := 41) (x := -2147483648) (v := -2147483648) dX12_round_39 rfl kc_X12_218 rfl (by decide) ?_
      refine ok_istore (q := 43) (ls' := [(5, qi (-2147483648)), (0, qr a0), (1, qi x1), (2, qi x2), (3, qi x3), (4, qi x4)]) dX12_round_41 rfl (Nat.le_of_ble_eq_true rfl) rfl ?_
      refine ok_aload_n (q := 44) 1 dX12_round_43 rfl rfl rfl ?_
      refine ok_getR (q := 47) (ci := 12) (k := 29) (x := F a0 29) dX12_round_44 rfl fo_X12_46 h_9 rfl ?_
      refine ok_iload (q := 49) 5 dX12_round_47 rfl rfl ?_
      refine fi_chk (fun h_17 => ?_)
      refine fi_chk (fun h_18 => ?_)
      refine ok_iaload (q := 50) (v := I_15 (F a0 29) x4) dX12_round_49 rfl h_17 h_18.1 h_18.2 rfl ?_
      refine ok_istoreL (q := 52) (fun x6_19 => [(6, qi x6_19), (5, qi (-2147483648)), (0, qr a0), (1, qi x1), (2, qi x2), (3, qi x3), (4, qi x4)]) dX12_round_50 rfl (Nat.le_of_ble_eq_true rfl) (fun _ => rfl) (fun x6_19 => ?_)
      exact fun g => ok_pick [2, 3, 4, 5, 6, 1, 0] rfl (w_X12_round_h52 (N := N) H5 N _ _ _ _ _ _ _ _ _ _ _ _ g)
    · skip
      refine ok_goto (q := 158) dX12_round_36 rfl ?_
      exact fun g => ok_pick [0, 1, 2, 3, 4] rfl (w_X12_round_b158 (N := N) H5 g)
def X12_round_h5 (N : Nat) (a0 : Nat) : Nat → Nat → am_K → am_I → am_F → Nat → Nat → Int → Int → Int → Int → Option am_A := am_it (fun kh => X12_round_s5 N a0 kh) (fun _ _ _ _ _ _ _ _ _ _ => none)
theorem w_X12_round_h5 {η : am_E} {l : Launch} {N : Nat}  {a0 : Nat} {r0 : am_A} (f : Nat) : ∀ (n : Nat) (K : am_K) (I : am_I) (F : am_F) (c : Nat) (z : Nat) (x1 : Int) (x2 : Int) (x3 : Int) (x4 : Int), X12_round_h5 N a0 f n K I F c z x1 x2 x3 x4 = some r0 → Ok η l (M_X12_round (am_ac1 r0) (am_az1 r0)) (am_qm η (am_pA 1 r0) (am_ac1 r0) (am_az1 r0)) 5 [(0, qr a0), (1, qi x1), (2, qi x2), (3, qi x3), (4, qi x4)] [] n K I F c z := by
  induction f with
  | zero => intro n K I F c z x1 x2 x3 x4 g; exact fi_none g
  | succ f ih => intro n K I F c z x1 x2 x3 x4 g; exact w_X12_round_s5 (N := N) ih g
def X12_round (N : Nat) (a0 : Nat) (n : Nat) (K : am_K) (I : am_I) (F : am_F) (x1 : Int) (x2 : Int) : Option am_A :=
  X12_round_h5 N a0 N n K I F 0 0 x1 x2 0 0
theorem w_X12_round {η : am_E} {l : Launch} {N : Nat} {n : Nat} {K : am_K} {I : am_I} {F : am_F} {a0 : Nat} {r0 : am_A} {x1 : Int} {x2 : Int} (h0 : (K a0).1 = 12) : X12_round N a0 n K I F x1 x2 = some r0 → Ok η l (M_X12_round (am_ac1 r0) (am_az1 r0)) (am_qm η (am_pA 1 r0) (am_ac1 r0) (am_az1 r0)) 0 [(0, qr a0), (1, qi x1), (2, qi x2)] [] n K I F 0 0 := by
  unfold X12_round
  refine ok_iconst (q := 1) (x := 0) dX12_round_0 rfl rfl (by decide) ?_
  refine ok_istore_n (q := 2) (ls' := [(3, qi 0), (0, qr a0), (1, qi x1), (2, qi x2)]) dX12_round_1 rfl rfl (Nat.le_of_ble_eq_true rfl) rfl ?_
  refine ok_iconst (q := 3) (x := 0) dX12_round_2 rfl rfl (by decide) ?_
  refine ok_istore (q := 5) (ls' := [(4, qi 0), (3, qi 0), (0, qr a0), (1, qi x1), (2, qi x2)]) dX12_round_3 rfl (Nat.le_of_ble_eq_true rfl) rfl ?_
  exact fun g => ok_pick [2, 3, 4, 1, 0] rfl (w_X12_round_h5 (N := N) N _ _ _ _ _ _ _ _ _ _ g)
theorem ct_X12_round {η : am_E} {l : Launch} {N : Nat} {n : Nat} {K : am_K} {I : am_I} {F : am_F} {a0 : Nat} {r0 : am_A} {x1 : Int} {x2 : Int} (h0 : (K a0).1 = 12) : X12_round N a0 n K I F x1 x2 = some r0 → am_Ct η l yX12_round cX12_round 7 (some .boolean) 1 21 (am_ac1 r0) (am_az1 r0) [qr a0, qi x1, qi x2] n K I F (am_pA 1 r0) := fun g => am_Ct.of false (by decide) (by decide) (Nat.le_of_ble_eq_true rfl) (fun _ => w_X12_round (N := N) h0 g)
def M_X12_start : am_M := (yX12_start.cls, cX12_start, 3, none, am_room 1 21 0 0, false)
def X12_start_b30 (N : Nat) (K : am_K) (F : am_F) (a0 : Nat) (k2 : am_I → Int → Int → Option (Int × am_I)) (I : am_I) (x1 : Int) (x2 : Int) (s0 : Int) (s1 : Int) (t2 : Nat) : Option (Int × am_I) :=
  if (K t2).1 = 100 then if t2 ≠ 1 then if (0 : Int) ≤ s1 ∧ s1 < (K t2).2 then am_lt (am_u2 I t2 s1 s0) (fun I_4 => if am_inI (x2 + 1) then am_lt (x2 + 1) (fun x2_6 => k2 I_4 x1 x2_6) else none) else none else none else none
theorem w_X12_start_b30 {η : am_E} {l : Launch} {N : Nat} {n : Nat} {K : am_K} {I : am_I} {F : am_F} {a0 : Nat} {r0 : Int × am_I} {k2 : am_I → Int → Int → Option (Int × am_I)} {x1 : Int} {x2 : Int} {s0 : Int} {s1 : Int} {t2 : Nat} (h0 : (K a0).1 = 12) (H2 : ∀ (I : am_I) (x1 : Int) (x2 : Int), k2 I x1 x2 = some r0 → Ok η l M_X12_start (am_qm η (am_pS 0 r0 n K F) 0 0) 2 [(0, qr a0), (1, qi x1), (2, qi x2)] [] n K I F 0 0) : X12_start_b30 N K F a0 k2 I x1 x2 s0 s1 t2 = some r0 → Ok η l M_X12_start (am_qm η (am_pS 0 r0 n K F) 0 0) 30 [(0, qr a0), (1, qi x1), (2, qi x2)] [qi s0, qi s1, qr t2] n K I F 0 0 := by
  unfold X12_start_b30
  refine fi_chk (fun h_1 => ?_)
  refine fi_chk (fun h_2 => ?_)
  refine fi_chk (fun h_3 => ?_)
  refine ok_iastore (q := 31) dX12_start_30 rfl h_1 h_2 h_3.1 h_3.2 (fun I_4 => ?_)
  refine fi_chk (fun h_5 => ?_)
  refine ok_iincL (q := 34) (fun x2_6 => [(2, qi x2_6), (0, qr a0), (1, qi x1)]) 2 dX12_start_31 rfl rfl h_5 (Nat.le_of_ble_eq_true rfl) (fun _ => rfl) (fun x2_6 => ?_)
  refine ok_goto (q := 2) dX12_start_34 rfl ?_
  exact fun g => ok_pick [1, 2, 0] rfl (H2 _ _ _ g)
def X12_start_s2 (N : Nat) (K : am_K) (F : am_F) (a0 : Nat) (k2 : am_I → Int → Int → Option (Int × am_I)) (I : am_I) (x1 : Int) (x2 : Int) : Option (Int × am_I) :=
  if x2 < x1 then (am_cq (X12_isEnd N K F I a0 x2) (fun v_1 => if v_1 = 0 then (X12_start_b30 N K F a0 k2 I x1 x2 0 x2 (F a0 33)) else (if (K (F a0 32)).1 = 100 then if (0 : Int) ≤ x2 ∧ x2 < (K (F a0 32)).2 then X12_start_b30 N K F a0 k2 I x1 x2 (I (F a0 32) x2) x2 (F a0 33) else none else none))) else (some (0, I))
theorem w_X12_start_s2 {η : am_E} {l : Launch} {N : Nat} {n : Nat} {K : am_K} {I : am_I} {F : am_F} {a0 : Nat} {r0 : Int × am_I} {k2 : am_I → Int → Int → Option (Int × am_I)} {x1 : Int} {x2 : Int} (h0 : (K a0).1 = 12) (H2 : ∀ (I : am_I) (x1 : Int) (x2 : Int), k2 I x1 x2 = some r0 → Ok η l M_X12_start (am_qm η (am_pS 0 r0 n K F) 0 0) 2 [(0, qr a0), (1, qi x1), (2, qi x2)] [] n K I F 0 0) : X12_start_s2 N K F a0 k2 I x1 x2 = some r0 → Ok η l M_X12_start (am_qm η (am_pS 0 r0 n K F) 0 0) 2 [(0, qr a0), (1, qi x1), (2, qi x2)] [] n K I F 0 0 := by
  unfold X12_start_s2
  refine ok_iload_n (q := 3) 2 dX12_start_2 rfl rfl rfl ?_
  refine ok_iload_n (q := 4) 1 dX12_start_3 rfl rfl rfl ?_
  refine ok_icmp_ge (q := 37) (q2 := 7) dX12_start_4 rfl rfl ?_ ?_
  · skip
    exact fi_returnS dX12_start_37 rfl
  · skip
    refine ok_aload_n (q := 8) 0 dX12_start_7 rfl rfl rfl ?_
    refine ok_getR (q := 11) (ci := 12) (k := 33) (x := F a0 33) dX12_start_8 rfl fo_X12_59 h0 rfl ?_
    refine ok_iload_n (q := 12) 2 dX12_start_11 rfl rfl rfl ?_
    refine ok_aload_n (q := 13) 0 dX12_start_12 rfl rfl rfl ?_
    refine ok_iload_n (q := 14) 2 dX12_start_13 rfl rfl rfl ?_
    refine fi_callV1P (q := 17) (as := [qi x2]) (st := [qi x2, qr (F a0 33)]) dX12_start_14 rfl mo_X12_213 h0 rfl (Nat.le_of_ble_eq_true rfl) rfl rfl (Nat.le_of_ble_eq_true rfl) (Nat.le_of_ble_eq_true rfl) (Nat.le_of_ble_eq_true rfl) (Nat.zero_le _) (Nat.zero_le _) (fun _ hr => ct_X12_isEnd (N := N) h0 hr) (fun v_1 => ?_)
    refine ok_if_eq (q := 29) (q2 := 20) dX12_start_17 rfl rfl ?_ ?_
    · skip
      refine ok_iconst (q := 30) (x := 0) dX12_start_29 rfl rfl (by decide) ?_
      exact fun g => ok_pick [0, 1, 2] rfl (w_X12_start_b30 (N := N) h0 H2 g)
    · skip
      refine ok_aload_n (q := 21) 0 dX12_start_20 rfl rfl rfl ?_
      refine ok_getR (q := 24) (ci := 12) (k := 32) (x := F a0 32) dX12_start_21 rfl fo_X12_56 h0 rfl ?_
      refine ok_iload_n (q := 25) 2 dX12_start_24 rfl rfl rfl ?_
      refine fi_chk (fun h_2 => ?_)
      refine fi_chk (fun h_3 => ?_)
      refine ok_iaload (q := 26) (v := I (F a0 32) x2) dX12_start_25 rfl h_2 h_3.1 h_3.2 rfl ?_
      refine ok_goto (q := 30) dX12_start_26 rfl ?_
      exact fun g => ok_pick [0, 1, 2] rfl (w_X12_start_b30 (N := N) h0 H2 g)
def X12_start_h2 (N : Nat) (K : am_K) (F : am_F) (a0 : Nat) : Nat → am_I → Int → Int → Option (Int × am_I) := am_it (fun kh => X12_start_s2 N K F a0 kh) (fun _ _ _ => none)
theorem w_X12_start_h2 {η : am_E} {l : Launch} {N : Nat} {n : Nat} {K : am_K} {F : am_F} {a0 : Nat} {r0 : Int × am_I} (h0 : (K a0).1 = 12) (f : Nat) : ∀ (I : am_I) (x1 : Int) (x2 : Int), X12_start_h2 N K F a0 f I x1 x2 = some r0 → Ok η l M_X12_start (am_qm η (am_pS 0 r0 n K F) 0 0) 2 [(0, qr a0), (1, qi x1), (2, qi x2)] [] n K I F 0 0 := by
  induction f with
  | zero => intro I x1 x2 g; exact fi_none g
  | succ f ih => intro I x1 x2 g; exact w_X12_start_s2 (N := N) h0 ih g
def X12_start (N : Nat) (K : am_K) (F : am_F) (a0 : Nat) (I : am_I) (x1 : Int) : Option (Int × am_I) :=
  X12_start_h2 N K F a0 N I x1 0
theorem w_X12_start {η : am_E} {l : Launch} {N : Nat} {n : Nat} {K : am_K} {I : am_I} {F : am_F} {a0 : Nat} {r0 : Int × am_I} {x1 : Int} (h0 : (K a0).1 = 12) : X12_start N K F a0 I x1 = some r0 → Ok η l M_X12_start (am_qm η (am_pS 0 r0 n K F) 0 0) 0 [(0, qr a0), (1, qi x1)] [] n K I F 0 0 := by
  unfold X12_start
  refine ok_iconst (q := 1) (x := 0) dX12_start_0 rfl rfl (by decide) ?_
  refine ok_istore_n (q := 2) (ls' := [(2, qi 0), (0, qr a0), (1, qi x1)]) dX12_start_1 rfl rfl (Nat.le_of_ble_eq_true rfl) rfl ?_
  exact fun g => ok_pick [1, 2, 0] rfl (w_X12_start_h2 (N := N) h0 N _ _ _ g)
theorem ct_X12_start {η : am_E} {l : Launch} {N : Nat} {n : Nat} {K : am_K} {I : am_I} {F : am_F} {a0 : Nat} {r0 : Int × am_I} {x1 : Int} (h0 : (K a0).1 = 12) : X12_start N K F a0 I x1 = some r0 → am_Ct η l yX12_start cX12_start 3 none 1 21 0 0 [qr a0, qi x1] n K I F (am_pS 0 r0 n K F) := fun g => am_Ct.of false (by decide) (by decide) (Nat.le_of_ble_eq_true rfl) (fun _ => w_X12_start (N := N) h0 g)
def M_X12_solveLayer (mc ms : Nat) : am_M := (yX12_solveLayer.cls, cX12_solveLayer, 8, none, am_room 6 146 mc ms, false)
def X12_solveLayer_b252 (N : Nat) (a0 : Nat) (k180 : Nat → am_K → am_I → am_F → Nat → Nat → Int → Int → Int → Int → Option am_A) (k196 : Nat → am_K → am_I → am_F → Nat → Nat → Int → Int → Int → Int → Int → Option am_A) (n : Nat) (K : am_K) (I : am_I) (F : am_F) (c z : Nat) (x1 : Int) (x2 : Int) (x4 : Int) (x5 : Int) (x7 : Int) : Option am_A :=
  am_mo c z (if am_inI (x7 + 1) then am_lt (x7 + 1) (fun x7_4 => k196 n K I F c z x1 x2 x4 x5 x7_4) else none)
theorem w_X12_solveLayer_b252 {η : am_E} {l : Launch} {N : Nat} {n : Nat} {K : am_K} {I : am_I} {F : am_F} {c z : Nat} {a0 : Nat} {r0 : am_A} {k180 : Nat → am_K → am_I → am_F → Nat → Nat → Int → Int → Int → Int → Option am_A} {k196 : Nat → am_K → am_I → am_F → Nat → Nat → Int → Int → Int → Int → Int → Option am_A} {x1 : Int} {x2 : Int} {x4 : Int} {x5 : Int} {x7 : Int} (H180 : ∀ (n : Nat) (K : am_K) (I : am_I) (F : am_F) (c : Nat) (z : Nat) (x1 : Int) (x2 : Int) (x4 : Int) (x5 : Int), k180 n K I F c z x1 x2 x4 x5 = some r0 → Ok η l (M_X12_solveLayer (am_ac1 r0) (am_az1 r0)) (am_qm η (am_pA 0 r0) (am_ac1 r0) (am_az1 r0)) 180 [(0, qr a0), (1, qi x1), (2, qi x2), (4, qi x4), (5, qi x5)] [] n K I F c z) (H196 : ∀ (n : Nat) (K : am_K) (I : am_I) (F : am_F) (c : Nat) (z : Nat) (x1 : Int) (x2 : Int) (x4 : Int) (x5 : Int) (x7 : Int), k196 n K I F c z x1 x2 x4 x5 x7 = some r0 → Ok η l (M_X12_solveLayer (am_ac1 r0) (am_az1 r0)) (am_qm η (am_pA 0 r0) (am_ac1 r0) (am_az1 r0)) 196 [(0, qr a0), (1, qi x1), (2, qi x2), (4, qi x4), (5, qi x5), (7, qi x7)] [] n K I F c z) : X12_solveLayer_b252 N a0 k180 k196 n K I F c z x1 x2 x4 x5 x7 = some r0 → Ok η l (M_X12_solveLayer (am_ac1 r0) (am_az1 r0)) (am_qm η (am_pA 0 r0) (am_ac1 r0) (am_az1 r0)) 252 [(0, qr a0), (1, qi x1), (2, qi x2), (4, qi x4), (5, qi x5), (7, qi x7)] [] n K I F c z := by
  unfold X12_solveLayer_b252
  refine fi_mo (fun hc_1 hz_2 => ?_)
  refine fi_chk (fun h_3 => ?_)
  refine ok_iincL (q := 255) (fun x7_4 => [(7, qi x7_4), (0, qr a0), (1, qi x1), (2, qi x2), (4, qi x4), (5, qi x5)]) 5 dX12_solveLayer_252 rfl rfl h_3 (Nat.le_of_ble_eq_true rfl) (fun _ => rfl) (fun x7_4 => ?_)
  refine ok_goto (q := 196) dX12_solveLayer_255 rfl ?_
  exact fun g => ok_pick [1, 2, 3, 4, 5, 0] rfl (H196 _ _ _ _ _ _ _ _ _ _ _ g)
def X12_solveLayer_s196 (N : Nat) (a0 : Nat) (k180 : Nat → am_K → am_I → am_F → Nat → Nat → Int → Int → Int → Int → Option am_A) (k196 : Nat → am_K → am_I → am_F → Nat → Nat → Int → Int → Int → Int → Int → Option am_A) (n : Nat) (K : am_K) (I : am_I) (F : am_F) (c z : Nat) (x1 : Int) (x2 : Int) (x4 : Int) (x5 : Int) (x7 : Int) : Option am_A :=
  am_mo c z (if am_inI (x2 - x1) then if x7 < (x2 - x1) then (if (K a0).1 = 12 then if am_inI (x1 + x7) then if (K (F a0 26)).1 = 100 then if (0 : Int) ≤ (x1 + x7) ∧ (x1 + x7) < (K (F a0 26)).2 then if (I (F a0 26) (x1 + x7)) < 0 then (if (K (F a0 33)).1 = 100 then if (0 : Int) ≤ x7 ∧ x7 < (K (F a0 33)).2 then if (K (F a0 25)).1 = 100 then if (0 : Int) ≤ (x1 + x7) ∧ (x1 + x7) < (K (F a0 25)).2 then if (I (F a0 33) x7) = (I (F a0 25) (x1 + x7)) then (if F a0 26 ≠ 1 then am_lt (am_u2 I (F a0 26) (x1 + x7) x5) (fun I_15 => if am_inI (x4 + (-1)) then am_lt (x4 + (-1)) (fun x4_17 => X12_solveLayer_b252 N a0 k180 k196 n K I_15 F c z x1 x2 x4_17 x5 x7) else none) else none) else (X12_solveLayer_b252 N a0 k180 k196 n K I F c z x1 x2 x4 x5 x7) else none else none else none else none) else (X12_solveLayer_b252 N a0 k180 k196 n K I F c z x1 x2 x4 x5 x7) else none else none else none else none) else (if am_inI (x5 + 1) then am_lt (x5 + 1) (fun x5_5 => k180 n K I F c z x1 x2 x4 x5_5) else none) else none)
theorem w_X12_solveLayer_s196 {η : am_E} {l : Launch} {N : Nat} {n : Nat} {K : am_K} {I : am_I} {F : am_F} {c z : Nat} {a0 : Nat} {r0 : am_A} {k180 : Nat → am_K → am_I → am_F → Nat → Nat → Int → Int → Int → Int → Option am_A} {k196 : Nat → am_K → am_I → am_F → Nat → Nat → Int → Int → Int → Int → Int → Option am_A} {x1 : Int} {x2 : Int} {x4 : Int} {x5 : Int} {x7 : Int} (H180 : ∀ (n : Nat) (K : am_K) (I : am_I) (F : am_F) (c : Nat) (z : Nat) (x1 : Int) (x2 : Int) (x4 : Int) (x5 : Int), k180 n K I F c z x1 x2 x4 x5 = some r0 → Ok η l (M_X12_solveLayer (am_ac1 r0) (am_az1 r0)) (am_qm η (am_pA 0 r0) (am_ac1 r0) (am_az1 r0)) 180 [(0, qr a0), (1, qi x1), (2, qi x2), (4, qi x4), (5, qi x5)] [] n K I F c z) (H196 : ∀ (n : Nat) (K : am_K) (I : am_I) (F : am_F) (c : Nat) (z : Nat) (x1 : Int) (x2 : Int) (x4 : Int) (x5 : Int) (x7 : Int), k196 n K I F c z x1 x2 x4 x5 x7 = some r0 → Ok η l (M_X12_solveLayer (am_ac1 r0) (am_az1 r0)) (am_qm η (am_pA 0 r0) (am_ac1 r0) (am_az1 r0)) 196 [(0, qr a0), (1, qi x1), (2, qi x2), (4, qi x4), (5, qi x5), (7, qi x7)] [] n K I F c z) : X12_solveLayer_s196 N a0 k180 k196 n K I F c z x1 x2 x4 x5 x7 = some r0 → Ok η l (M_X12_solveLayer (am_ac1 r0) (am_az1 r0)) (am_qm η (am_pA 0 r0) (am_ac1 r0) (am_az1 r0)) 196 [(0, qr a0), (1, qi x1), (2, qi x2), (4, qi x4), (5, qi x5), (7, qi x7)] [] n K I F c z := by
  unfold X12_solveLayer_s196
  refine fi_mo (fun hc_1 hz_2 => ?_)
  refine ok_iload (q := 198) 5 dX12_solveLayer_196 rfl rfl ?_
  refine ok_iload_n (q := 199) 2 dX12_solveLayer_198 rfl rfl rfl ?_
  refine ok_iload_n (q := 200) 1 dX12_solveLayer_199 rfl rfl rfl ?_
  refine fi_chk (fun h_3 => ?_)
  refine ok_isub (q := 201) dX12_solveLayer_200 rfl h_3 ?_
  refine ok_icmp_ge (q := 258) (q2 := 204) dX12_solveLayer_201 rfl rfl ?_ ?_
  · skip
    refine fi_chk (fun h_4 => ?_)
    refine ok_iincL (q := 261) (fun x5_5 => [(5, qi x5_5), (0, qr a0), (1, qi x1), (2, qi x2), (4, qi x4), (7, qi x7)]) 4 dX12_solveLayer_258 rfl rfl h_4 (Nat.le_of_ble_eq_true rfl) (fun _ => rfl) (fun x5_5 => ?_)
    refine ok_goto (q := 180) dX12_solveLayer_261 rfl ?_
    exact fun g => ok_pick [1, 2, 3, 4, 0] rfl (H180 _ _ _ _ _ _ _ _ _ _ g)
  · skip
    refine ok_aload_n (q := 205) 0 dX12_solveLayer_204 rfl rfl rfl ?_
    refine fi_chk (fun h_6 => ?_)
    refine ok_getR (q := 208) (ci := 12) (k := 26) (x := F a0 26) dX12_solveLayer_205 rfl fo_X12_36 h_6 rfl ?_
    refine ok_iload_n (q := 209) 1 dX12_solveLayer_208 rfl rfl rfl ?_
    refine ok_iload (q := 211) 5 dX12_solveLayer_209 rfl rfl ?_
    refine fi_chk (fun h_7 => ?_)
    refine ok_iadd (q := 212) dX12_solveLayer_211 rfl h_7 ?_
    refine fi_chk (fun h_8 => ?_)
    refine fi_chk (fun h_9 => ?_)
    refine ok_iaload (q := 213) (v := I (F a0 26) (x1 + x7)) dX12_solveLayer_212 rfl h_8 h_9.1 h_9.2 rfl ?_
    refine ok_if_ge (q := 252) (q2 := 216) dX12_solveLayer_213 rfl rfl ?_ ?_
    · skip
      exact fun g => ok_pick [0, 1, 2, 3, 4, 5] rfl (w_X12_solveLayer_b252 (N := N) H180 H196 g)
    · skip
      refine ok_aload_n (q := 217) 0 dX12_solveLayer_216 rfl rfl rfl ?_
      refine ok_getR (q := 220) (ci := 12) (k := 33) (x := F a0 33) dX12_solveLayer_217 rfl fo_X12_59 h_6 rfl ?_
      refine ok_iload (q := 222) 5 dX12_solveLayer_220 rfl rfl ?_
      refine fi_chk (fun h_10 => ?_)
      refine fi_chk (fun h_11 => ?_)
      refine ok_iaload (q := 223) (v := I (F a0 33) x7) dX12_solveLayer_222 rfl h_10 h_11.1 h_11.2 rfl ?_
      refine ok_aload_n (q := 224) 0 dX12_solveLayer_223 rfl rfl rfl ?_
      refine ok_getR (q := 227) (ci := 12) (k := 25) (x := F a0 25) dX12_solveLayer_224 rfl fo_X12_33 h_6 rfl ?_
      refine ok_iload_n (q := 228) 1 dX12_solveLayer_227 rfl rfl rfl ?_
      refine ok_iload (q := 230) 5 dX12_solveLayer_228 rfl rfl ?_
      refine ok_iadd (q := 231) dX12_solveLayer_230 rfl h_7 ?_
      refine fi_chk (fun h_12 => ?_)
      refine fi_chk (fun h_13 => ?_)
      refine ok_iaload (q := 232) (v := I (F a0 25) (x1 + x7)) dX12_solveLayer_231 rfl h_12 h_13.1 h_13.2 rfl ?_
      refine ok_icmp_eq (q := 238) (q2 := 235) dX12_solveLayer_232 rfl rfl ?_ ?_
      · skip
        refine ok_aload_n (q := 239) 0 dX12_solveLayer_238 rfl rfl rfl ?_
        refine ok_getR (q := 242) (ci := 12) (k := 26) (x := F a0 26) dX12_solveLayer_239 rfl fo_X12_36 h_6 rfl ?_
        refine ok_iload_n (q := 243) 1 dX12_solveLayer_242 rfl rfl rfl ?_
        refine ok_iload (q := 245) 5 dX12_solveLayer_243 rfl rfl ?_
        refine ok_iadd (q := 246) dX12_solveLayer_245 rfl h_7 ?_
        refine ok_iload (q := 248) 4 dX12_solveLayer_246 rfl rfl ?_
        refine fi_chk (fun h_14 => ?_)
        refine ok_iastore (q := 249) dX12_solveLayer_248 rfl h_8 h_14 h_9.1 h_9.2 (fun I_15 => ?_)
        refine fi_chk (fun h_16 => ?_)
        refine ok_iincL (q := 252) (fun x4_17 => [(4, qi x4_17), (0, qr a0), (1, qi x1), (2, qi x2), (5, qi x5), (7, qi x7)]) 3 dX12_solveLayer_249 rfl rfl h_16 (Nat.le_of_ble_eq_true rfl) (fun _ => rfl) (fun x4_17 => ?_)
        exact fun g => ok_pick [1, 2, 3, 0, 4, 5] rfl (w_X12_solveLayer_b252 (N := N) H180 H196 g)
      · skip
        refine ok_goto (q := 252) dX12_solveLayer_235 rfl ?_
        exact fun g => ok_pick [0, 1, 2, 3, 4, 5] rfl (w_X12_solveLayer_b252 (N := N) H180 H196 g)
def X12_solveLayer_h196 (N : Nat) (a0 : Nat) (k180 : Nat → am_K → am_I → am_F → Nat → Nat → Int → Int → Int → Int → Option am_A) : Nat → Nat → am_K → am_I → am_F → Nat → Nat → Int → Int → Int → Int → Int → Option am_A := am_it (fun kh => X12_solveLayer_s196 N a0 k180 kh) (fun _ _ _ _ _ _ _ _ _ _ _ => none)
theorem w_X12_solveLayer_h196 {η : am_E} {l : Launch} {N : Nat}  {a0 : Nat} {r0 : am_A} {k180 : Nat → am_K → am_I → am_F → Nat → Nat → Int → Int → Int → Int → Option am_A} (H180 : ∀ (n : Nat) (K : am_K) (I : am_I) (F : am_F) (c : Nat) (z : Nat) (x1 : Int) (x2 : Int) (x4 : Int) (x5 : Int), k180 n K I F c z x1 x2 x4 x5 = some r0 → Ok η l (M_X12_solveLayer (am_ac1 r0) (am_az1 r0)) (am_qm η (am_pA 0 r0) (am_ac1 r0) (am_az1 r0)) 180 [(0, qr a0), (1, qi x1), (2, qi x2), (4, qi x4), (5, qi x5)] [] n K I F c z) (f : Nat) : ∀ (n : Nat) (K : am_K) (I : am_I) (F : am_F) (c : Nat) (z : Nat) (x1 : Int) (x2 : Int) (x4 : Int) (x5 : Int) (x7 : Int), X12_solveLayer_h196 N a0 k180 f n K I F c z x1 x2 x4 x5 x7 = some r0 → Ok η l (M_X12_solveLayer (am_ac1 r0) (am_az1 r0)) (am_qm η (am_pA 0 r0) (am_ac1 r0) (am_az1 r0)) 196 [(0, qr a0), (1, qi x1), (2, qi x2), (4, qi x4), (5, qi x5), (7, qi x7)] [] n K I F c z := by
  induction f with
  | zero => intro n K I F c z x1 x2 x4 x5 x7 g; exact fi_none g
  | succ f ih => intro n K I F c z x1 x2 x4 x5 x7 g; exact w_X12_solveLayer_s196 (N := N) H180 ih g
def X12_solveLayer_s180 (N : Nat) (a0 : Nat) (k180 : Nat → am_K → am_I → am_F → Nat → Nat → Int → Int → Int → Int → Option am_A) (n : Nat) (K : am_K) (I : am_I) (F : am_F) (c z : Nat) (x1 : Int) (x2 : Int) (x4 : Int) (x5 : Int) : Option am_A :=
  am_mo c z (if 0 < x4 then (if (K a0).1 = 12 then am_ca (X12_round N a0 n K I F x1 x2) (fun v_8 n_9 K_10 I_11 F_12 c_13 z_14 => am_mo (c + c_13) (z + z_14) (X12_solveLayer_h196 N a0 k180 N n_9 K_10 I_11 F_12 (c + c_13) (z + z_14) x1 x2 x4 x5 0)) else none) else (if (K a0).1 = 12 then if am_inI ((I a0 23) + 1) then am_lt (am_u2 I a0 23 ((I a0 23) + 1)) (fun I_5 => am_lt (am_u2 I_5 a0 24 x2) (fun I_6 => some (0, n, K, I_6, F, c, z))) else none else none))
theorem w_X12_solveLayer_s180 {η : am_E} {l : Launch} {N : Nat} {n : Nat} {K : am_K} {I : am_I} {F : am_F} {c z : Nat} {a0 : Nat} {r0 : am_A} {k180 : Nat → am_K → am_I → am_F → Nat → Nat → Int → Int → Int → Int → Option am_A} {x1 : Int} {x2 : Int} {x4 : Int} {x5 : Int} (H180 : ∀ (n : Nat) (K : am_K) (I : am_I) (F : am_F) (c : Nat) (z : Nat) (x1 : Int) (x2 : Int) (x4 : Int) (x5 : Int), k180 n K I F c z x1 x2 x4 x5 = some r0 → Ok η l (M_X12_solveLayer (am_ac1 r0) (am_az1 r0)) (am_qm η (am_pA 0 r0) (am_ac1 r0) (am_az1 r0)) 180 [(0, qr a0), (1, qi x1), (2, qi x2), (4, qi x4), (5, qi x5)] [] n K I F c z) : X12_solveLayer_s180 N a0 k180 n K I F c z x1 x2 x4 x5 = some r0 → Ok η l (M_X12_solveLayer (am_ac1 r0) (am_az1 r0)) (am_qm η (am_pA 0 r0) (am_ac1 r0) (am_az1 r0)) 180 [(0, qr a0), (1, qi x1), (2, qi x2), (4, qi x4), (5, qi x5)] [] n K I F c z := by
  unfold X12_solveLayer_s180
  refine fi_mo (fun hc_1 hz_2 => ?_)
  refine ok_iload (q := 182) 3 dX12_solveLayer_180 rfl rfl ?_
  refine ok_if_le (q := 264) (q2 := 185) dX12_solveLayer_182 rfl rfl ?_ ?_
  · skip
    refine ok_aload_n (q := 265) 0 dX12_solveLayer_264 rfl rfl rfl ?_
    refine ok_dup (q := 266) dX12_solveLayer_265 rfl rfl ?_
    refine fi_chk (fun h_3 => ?_)
    refine ok_getI (q := 269) (ci := 12) (k := 23) (x := I a0 23) dX12_solveLayer_266 rfl fo_X12_225 h_3 rfl ?_
    refine ok_iconst (q := 270) (x := 1) dX12_solveLayer_269 rfl rfl (by decide) ?_
    refine fi_chk (fun h_4 => ?_)
    refine ok_iadd (q := 271) dX12_solveLayer_270 rfl h_4 ?_
    refine ok_putI (q := 274) (ci := 12) (k := 23) dX12_solveLayer_271 rfl fo_X12_225 h_3 ft_12_23 ff_12_23 (fun I_5 => ?_)
    refine ok_aload_n (q := 275) 0 dX12_solveLayer_274 rfl rfl rfl ?_
    refine ok_iload_n (q := 276) 2 dX12_solveLayer_275 rfl rfl rfl ?_
    refine ok_putI (q := 279) (ci := 12) (k := 24) dX12_solveLayer_276 rfl fo_X12_238 h_3 ft_12_24 ff_12_24 (fun I_6 => ?_)
    exact fi_returnA dX12_solveLayer_279 rfl
  · skip
    refine ok_aload_n (q := 186) 0 dX12_solveLayer_185 rfl rfl rfl ?_
    refine ok_iload_n (q := 187) 1 dX12_solveLayer_186 rfl rfl rfl ?_
    refine ok_iload_n (q := 188) 2 dX12_solveLayer_187 rfl rfl rfl ?_
    refine fi_chk (fun h_7 => ?_)
    refine fi_callV1A (q := 191) (as := [qi x1, qi x2]) (st := []) dX12_solveLayer_188 rfl mo_X12_234 h_7 rfl (Nat.le_of_ble_eq_true rfl) rfl rfl (Nat.le_of_ble_eq_true rfl) (Nat.le_of_ble_eq_true rfl) (Nat.le_of_ble_eq_true rfl) (Nat.le_refl _) (Nat.le_refl _) (fun _ hr => ct_X12_round (N := N) h_7 hr) (fun v_8 n_9 K_10 I_11 F_12 c_13 z_14 hc_15 hz_16 => ?_)
    refine ok_istore (q := 193) (ls' := [(6, qi v_8), (0, qr a0), (1, qi x1), (2, qi x2), (4, qi x4), (5, qi x5)]) dX12_solveLayer_191 rfl (Nat.le_of_ble_eq_true rfl) rfl ?_
    refine ok_iconst (q := 194) (x := 0) dX12_solveLayer_193 rfl rfl (by decide) ?_
    refine ok_istore (q := 196) (ls' := [(7, qi 0), (6, qi v_8), (0, qr a0), (1, qi x1), (2, qi x2), (4, qi x4), (5, qi x5)]) dX12_solveLayer_194 rfl (Nat.le_of_ble_eq_true rfl) rfl ?_
    exact fun g => ok_pick [2, 3, 4, 5, 6, 0] rfl (w_X12_solveLayer_h196 (N := N) H180 N _ _ _ _ _ _ _ _ _ _ _ g)
def X12_solveLayer_h180 (N : Nat) (a0 : Nat) : Nat → Nat → am_K → am_I → am_F → Nat → Nat → Int → Int → Int → Int → Option am_A := am_it (fun kh => X12_solveLayer_s180 N a0 kh) (fun _ _ _ _ _ _ _ _ _ _ => none)
theorem w_X12_solveLayer_h180 {η : am_E} {l : Launch} {N : Nat}  {a0 : Nat} {r0 : am_A} (f : Nat) : ∀ (n : Nat) (K : am_K) (I : am_I) (F : am_F) (c : Nat) (z : Nat) (x1 : Int) (x2 : Int) (x4 : Int) (x5 : Int), X12_solveLayer_h180 N a0 f n K I F c z x1 x2 x4 x5 = some r0 → Ok η l (M_X12_solveLayer (am_ac1 r0) (am_az1 r0)) (am_qm η (am_pA 0 r0) (am_ac1 r0) (am_az1 r0)) 180 [(0, qr a0), (1, qi x1), (2, qi x2), (4, qi x4), (5, qi x5)] [] n K I F c z := by
  induction f with
  | zero => intro n K I F c z x1 x2 x4 x5 g; exact fi_none g
  | succ f ih => intro n K I F c z x1 x2 x4 x5 g; exact w_X12_solveLayer_s180 (N := N) ih g
def X12_solveLayer_b168 (N : Nat) (a0 : Nat) (k141 : Nat → am_K → am_I → am_F → Nat → Nat → Int → Int → Int → Int → Option am_A) (n : Nat) (K : am_K) (I : am_I) (F : am_F) (c z : Nat) (x1 : Int) (x2 : Int) (x5 : Int) (s0 : Int) (s1 : Int) : Option am_A :=
  am_mo c z (if am_inI (s1 + s0) then am_lt (s1 + s0) (fun x4_4 => if am_inI (x5 + 1) then am_lt (x5 + 1) (fun x5_6 => k141 n K I F c z x1 x2 x4_4 x5_6) else none) else none)
theorem w_X12_solveLayer_b168 {η : am_E} {l : Launch} {N : Nat} {n : Nat} {K : am_K} {I : am_I} {F : am_F} {c z : Nat} {a0 : Nat} {r0 : am_A} {k141 : Nat → am_K → am_I → am_F → Nat → Nat → Int → Int → Int → Int → Option am_A} {x1 : Int} {x2 : Int} {x5 : Int} {s0 : Int} {s1 : Int} (H141 : ∀ (n : Nat) (K : am_K) (I : am_I) (F : am_F) (c : Nat) (z : Nat) (x1 : Int) (x2 : Int) (x4 : Int) (x5 : Int), k141 n K I F c z x1 x2 x4 x5 = some r0 → Ok η l (M_X12_solveLayer (am_ac1 r0) (am_az1 r0)) (am_qm η (am_pA 0 r0) (am_ac1 r0) (am_az1 r0)) 141 [(0, qr a0), (1, qi x1), (2, qi x2), (4, qi x4), (5, qi x5)] [] n K I F c z) : X12_solveLayer_b168 N a0 k141 n K I F c z x1 x2 x5 s0 s1 = some r0 → Ok η l (M_X12_solveLayer (am_ac1 r0) (am_az1 r0)) (am_qm η (am_pA 0 r0) (am_ac1 r0) (am_az1 r0)) 168 [(0, qr a0), (1, qi x1), (2, qi x2), (5, qi x5)] [qi s0, qi s1] n K I F c z := by
  unfold X12_solveLayer_b168
  refine fi_mo (fun hc_1 hz_2 => ?_)
  refine fi_chk (fun h_3 => ?_)
  refine ok_iadd (q := 169) dX12_solveLayer_168 rfl h_3 ?_
  refine ok_istoreL (q := 171) (fun x4_4 => [(4, qi x4_4), (0, qr a0), (1, qi x1), (2, qi x2), (5, qi x5)]) dX12_solveLayer_169 rfl (Nat.le_of_ble_eq_true rfl) (fun _ => rfl) (fun x4_4 => ?_)
  refine fi_chk (fun h_5 => ?_)
  refine ok_iincL (q := 174) (fun x5_6 => [(5, qi x5_6), (4, qi x4_4), (0, qr a0), (1, qi x1), (2, qi x2)]) 4 dX12_solveLayer_171 rfl rfl h_5 (Nat.le_of_ble_eq_true rfl) (fun _ => rfl) (fun x5_6 => ?_)
  refine ok_goto (q := 141) dX12_solveLayer_174 rfl ?_
  exact fun g => ok_pick [2, 3, 4, 1, 0] rfl (H141 _ _ _ _ _ _ _ _ _ _ g)
def X12_solveLayer_s141 (N : Nat) (a0 : Nat) (k141 : Nat → am_K → am_I → am_F → Nat → Nat → Int → Int → Int → Int → Option am_A) (n : Nat) (K : am_K) (I : am_I) (F : am_F) (c z : Nat) (x1 : Int) (x2 : Int) (x4 : Int) (x5 : Int) : Option am_A :=
  am_mo c z (if am_inI (x2 - x1) then if x5 < (x2 - x1) then (if (K a0).1 = 12 then if am_inI (x1 + x5) then if (K (F a0 26)).1 = 100 then if (0 : Int) ≤ (x1 + x5) ∧ (x1 + x5) < (K (F a0 26)).2 then if (I (F a0 26) (x1 + x5)) < 0 then (X12_solveLayer_b168 N a0 k141 n K I F c z x1 x2 x5 1 x4) else (X12_solveLayer_b168 N a0 k141 n K I F c z x1 x2 x5 0 x4) else none else none else none else none) else (X12_solveLayer_h180 N a0 N n K I F c z x1 x2 x4 1) else none)
theorem w_X12_solveLayer_s141 {η : am_E} {l : Launch} {N : Nat} {n : Nat} {K : am_K} {I : am_I} {F : am_F} {c z : Nat} {a0 : Nat} {r0 : am_A} {k141 : Nat → am_K → am_I → am_F → Nat → Nat → Int → Int → Int → Int → Option am_A} {x1 : Int} {x2 : Int} {x4 : Int} {x5 : Int} (H141 : ∀ (n : Nat) (K : am_K) (I : am_I) (F : am_F) (c : Nat) (z : Nat) (x1 : Int) (x2 : Int) (x4 : Int) (x5 : Int), k141 n K I F c z x1 x2 x4 x5 = some r0 → Ok η l (M_X12_solveLayer (am_ac1 r0) (am_az1 r0)) (am_qm η (am_pA 0 r0) (am_ac1 r0) (am_az1 r0)) 141 [(0, qr a0), (1, qi x1), (2, qi x2), (4, qi x4), (5, qi x5)] [] n K I F c z) : X12_solveLayer_s141 N a0 k141 n K I F c z x1 x2 x4 x5 = some r0 → Ok η l (M_X12_solveLayer (am_ac1 r0) (am_az1 r0)) (am_qm η (am_pA 0 r0) (am_ac1 r0) (am_az1 r0)) 141 [(0, qr a0), (1, qi x1), (2, qi x2), (4, qi x4), (5, qi x5)] [] n K I F c z := by
  unfold X12_solveLayer_s141
  refine fi_mo (fun hc_1 hz_2 => ?_)
  refine ok_iload (q := 143) 4 dX12_solveLayer_141 rfl rfl ?_
  refine ok_iload_n (q := 144) 2 dX12_solveLayer_143 rfl rfl rfl ?_
  refine ok_iload_n (q := 145) 1 dX12_solveLayer_144 rfl rfl rfl ?_
  refine fi_chk (fun h_3 => ?_)
  refine ok_isub (q := 146) dX12_solveLayer_145 rfl h_3 ?_
  refine ok_icmp_ge (q := 177) (q2 := 149) dX12_solveLayer_146 rfl rfl ?_ ?_
  · skip
    refine ok_iconst (q := 178) (x := 1) dX12_solveLayer_177 rfl rfl (by decide) ?_
    refine ok_istore (q := 180) (ls' := [(5, qi 1), (0, qr a0), (1, qi x1), (2, qi x2), (4, qi x4)]) dX12_solveLayer_178 rfl (Nat.le_of_ble_eq_true rfl) rfl ?_
    exact fun g => ok_pick [1, 2, 3, 4, 0] rfl (w_X12_solveLayer_h180 (N := N) N _ _ _ _ _ _ _ _ _ _ g)
  · skip
    refine ok_iload (q := 151) 3 dX12_solveLayer_149 rfl rfl ?_
    refine ok_aload_n (q := 152) 0 dX12_solveLayer_151 rfl rfl rfl ?_
    refine fi_chk (fun h_4 => ?_)
    refine ok_getR (q := 155) (ci := 12) (k := 26) (x := F a0 26) dX12_solveLayer_152 rfl fo_X12_36 h_4 rfl ?_
    refine ok_iload_n (q := 156) 1 dX12_solveLayer_155 rfl rfl rfl ?_
    refine ok_iload (q := 158) 4 dX12_solveLayer_156 rfl rfl ?_
    refine fi_chk (fun h_5 => ?_)
    refine ok_iadd (q := 159) dX12_solveLayer_158 rfl h_5 ?_
    refine fi_chk (fun h_6 => ?_)
    refine fi_chk (fun h_7 => ?_)
    refine ok_iaload (q := 160) (v := I (F a0 26) (x1 + x5)) dX12_solveLayer_159 rfl h_6 h_7.1 h_7.2 rfl ?_
    refine ok_if_ge (q := 167) (q2 := 163) dX12_solveLayer_160 rfl rfl ?_ ?_
    · skip
      refine ok_iconst (q := 168) (x := 0) dX12_solveLayer_167 rfl rfl (by decide) ?_
      exact fun g => ok_pick [0, 1, 2, 4] rfl (w_X12_solveLayer_b168 (N := N) H141 g)
    · skip
      refine ok_iconst (q := 164) (x := 1) dX12_solveLayer_163 rfl rfl (by decide) ?_
      refine ok_goto (q := 168) dX12_solveLayer_164 rfl ?_
      exact fun g => ok_pick [0, 1, 2, 4] rfl (w_X12_solveLayer_b168 (N := N) H141 g)
def X12_solveLayer_h141 (N : Nat) (a0 : Nat) : Nat → Nat → am_K → am_I → am_F → Nat → Nat → Int → Int → Int → Int → Option am_A := am_it (fun kh => X12_solveLayer_s141 N a0 kh) (fun _ _ _ _ _ _ _ _ _ _ => none)
theorem w_X12_solveLayer_h141 {η : am_E} {l : Launch} {N : Nat}  {a0 : Nat} {r0 : am_A} (f : Nat) : ∀ (n : Nat) (K : am_K) (I : am_I) (F : am_F) (c : Nat) (z : Nat) (x1 : Int) (x2 : Int) (x4 : Int) (x5 : Int), X12_solveLayer_h141 N a0 f n K I F c z x1 x2 x4 x5 = some r0 → Ok η l (M_X12_solveLayer (am_ac1 r0) (am_az1 r0)) (am_qm η (am_pA 0 r0) (am_ac1 r0) (am_az1 r0)) 141 [(0, qr a0), (1, qi x1), (2, qi x2), (4, qi x4), (5, qi x5)] [] n K I F c z := by
  induction f with
  | zero => intro n K I F c z x1 x2 x4 x5 g; exact fi_none g
  | succ f ih => intro n K I F c z x1 x2 x4 x5 g; exact w_X12_solveLayer_s141 (N := N) ih g
def X12_solveLayer_b121 (N : Nat) (a0 : Nat) (k65 : Nat → am_K → am_I → am_F → Nat → Nat → Int → Int → Int → Option am_A) (n : Nat) (K : am_K) (I : am_I) (F : am_F) (c z : Nat) (x1 : Int) (x2 : Int) (x4 : Int) (s0 : Int) (s1 : Int) (t2 : Nat) : Option am_A :=
  am_mo c z (if (K t2).1 = 100 then if t2 ≠ 1 then if (0 : Int) ≤ s1 ∧ s1 < (K t2).2 then am_lt (am_u2 I t2 s1 s0) (fun I_6 => if am_inI (x4 + 1) then am_lt (x4 + 1) (fun x4_8 => k65 n K I_6 F c z x1 x2 x4_8) else none) else none else none else none)
theorem w_X12_solveLayer_b121 {η : am_E} {l : Launch} {N : Nat} {n : Nat} {K : am_K} {I : am_I} {F : am_F} {c z : Nat} {a0 : Nat} {r0 : am_A} {k65 : Nat → am_K → am_I → am_F → Nat → Nat → Int → Int → Int → Option am_A} {x1 : Int} {x2 : Int} {x4 : Int} {s0 : Int} {s1 : Int} {t2 : Nat} (H65 : ∀ (n : Nat) (K : am_K) (I : am_I) (F : am_F) (c : Nat) (z : Nat) (x1 : Int) (x2 : Int) (x4 : Int), k65 n K I F c z x1 x2 x4 = some r0 → Ok η l (M_X12_solveLayer (am_ac1 r0) (am_az1 r0)) (am_qm η (am_pA 0 r0) (am_ac1 r0) (am_az1 r0)) 65 [(0, qr a0), (1, qi x1), (2, qi x2), (4, qi x4)] [] n K I F c z) : X12_solveLayer_b121 N a0 k65 n K I F c z x1 x2 x4 s0 s1 t2 = some r0 → Ok η l (M_X12_solveLayer (am_ac1 r0) (am_az1 r0)) (am_qm η (am_pA 0 r0) (am_ac1 r0) (am_az1 r0)) 121 [(0, qr a0), (1, qi x1), (2, qi x2), (4, qi x4)] [qi s0, qi s1, qr t2] n K I F c z := by
  unfold X12_solveLayer_b121
  refine fi_mo (fun hc_1 hz_2 => ?_)
  refine fi_chk (fun h_3 => ?_)
  refine fi_chk (fun h_4 => ?_)
  refine fi_chk (fun h_5 => ?_)
  refine ok_iastore (q := 122) dX12_solveLayer_121 rfl h_3 h_4 h_5.1 h_5.2 (fun I_6 => ?_)
  refine fi_chk (fun h_7 => ?_)
  refine ok_iincL (q := 125) (fun x4_8 => [(4, qi x4_8), (0, qr a0), (1, qi x1), (2, qi x2)]) 3 dX12_solveLayer_122 rfl rfl h_7 (Nat.le_of_ble_eq_true rfl) (fun _ => rfl) (fun x4_8 => ?_)
  refine ok_goto (q := 65) dX12_solveLayer_125 rfl ?_
  exact fun g => ok_pick [1, 2, 3, 0] rfl (H65 _ _ _ _ _ _ _ _ _ g)
def X12_solveLayer_b116 (N : Nat) (a0 : Nat) (k65 : Nat → am_K → am_I → am_F → Nat → Nat → Int → Int → Int → Option am_A) (n : Nat) (K : am_K) (I : am_I) (F : am_F) (c z : Nat) (x1 : Int) (x2 : Int) (x4 : Int) (s0 : Int) (t1 : Nat) : Option am_A :=
  am_mo c z (X12_solveLayer_b121 N a0 k65 n K I F c z x1 x2 x4 0 s0 t1)
theorem w_X12_solveLayer_b116 {η : am_E} {l : Launch} {N : Nat} {n : Nat} {K : am_K} {I : am_I} {F : am_F} {c z : Nat} {a0 : Nat} {r0 : am_A} {k65 : Nat → am_K → am_I → am_F → Nat → Nat → Int → Int → Int → Option am_A} {x1 : Int} {x2 : Int} {x4 : Int} {s0 : Int} {t1 : Nat} (H65 : ∀ (n : Nat) (K : am_K) (I : am_I) (F : am_F) (c : Nat) (z : Nat) (x1 : Int) (x2 : Int) (x4 : Int), k65 n K I F c z x1 x2 x4 = some r0 → Ok η l (M_X12_solveLayer (am_ac1 r0) (am_az1 r0)) (am_qm η (am_pA 0 r0) (am_ac1 r0) (am_az1 r0)) 65 [(0, qr a0), (1, qi x1), (2, qi x2), (4, qi x4)] [] n K I F c z) : X12_solveLayer_b116 N a0 k65 n K I F c z x1 x2 x4 s0 t1 = some r0 → Ok η l (M_X12_solveLayer (am_ac1 r0) (am_az1 r0)) (am_qm η (am_pA 0 r0) (am_ac1 r0) (am_az1 r0)) 116 [(0, qr a0), (1, qi x1), (2, qi x2), (4, qi x4)] [qi s0, qr t1] n K I F c z := by
  unfold X12_solveLayer_b116
  refine fi_mo (fun hc_1 hz_2 => ?_)
  refine ok_iconst (q := 117) (x := 0) dX12_solveLayer_116 rfl rfl (by decide) ?_
  refine ok_goto (q := 121) dX12_solveLayer_117 rfl ?_
  exact fun g => ok_pick [0, 1, 2, 3] rfl (w_X12_solveLayer_b121 (N := N) H65 g)
def X12_solveLayer_s65 (N : Nat) (a0 : Nat) (k65 : Nat → am_K → am_I → am_F → Nat → Nat → Int → Int → Int → Option am_A) (n : Nat) (K : am_K) (I : am_I) (F : am_F) (c z : Nat) (x1 : Int) (x2 : Int) (x4 : Int) : Option am_A :=
  am_mo c z (if am_inI (x2 - x1) then if x4 < (x2 - x1) then (if (K a0).1 = 12 then if am_inI (x1 + x4) then if (K (F a0 33)).1 = 100 then if (0 : Int) ≤ x4 ∧ x4 < (K (F a0 33)).2 then if (K (F a0 25)).1 = 100 then if F a0 25 ≠ 1 then if (0 : Int) ≤ (x1 + x4) ∧ (x1 + x4) < (K (F a0 25)).2 then am_lt (am_u2 I (F a0 25) (x1 + x4) (I (F a0 33) x4)) (fun I_13 => if (I_13 (F a0 33) x4) = 0 then (X12_solveLayer_b116 N a0 k65 n K I_13 F c z x1 x2 x4 (x1 + x4) (F a0 26)) else (am_cq (X12_isEnd N K F I_13 a0 x4) (fun v_14 => if v_14 = 0 then (X12_solveLayer_b121 N a0 k65 n K I_13 F c z x1 x2 x4 (-1) (x1 + x4) (F a0 26)) else (X12_solveLayer_b116 N a0 k65 n K I_13 F c z x1 x2 x4 (x1 + x4) (F a0 26))))) else none else none else none else none else none else none else none) else (if (K a0).1 = 12 then am_cl (X12_start N K F a0 I (x2 - x1)) (fun _ I_5 => X12_solveLayer_h141 N a0 N n K I_5 F c z x1 x2 0 0) else none) else none)
theorem w_X12_solveLayer_s65 {η : am_E} {l : Launch} {N : Nat} {n : Nat} {K : am_K} {I : am_I} {F : am_F} {c z : Nat} {a0 : Nat} {r0 : am_A} {k65 : Nat → am_K → am_I → am_F → Nat → Nat → Int → Int → Int → Option am_A} {x1 : Int} {x2 : Int} {x4 : Int} (H65 : ∀ (n : Nat) (K : am_K) (I : am_I) (F : am_F) (c : Nat) (z : Nat) (x1 : Int) (x2 : Int) (x4 : Int), k65 n K I F c z x1 x2 x4 = some r0 → Ok η l (M_X12_solveLayer (am_ac1 r0) (am_az1 r0)) (am_qm η (am_pA 0 r0) (am_ac1 r0) (am_az1 r0)) 65 [(0, qr a0), (1, qi x1), (2, qi x2), (4, qi x4)] [] n K I F c z) : X12_solveLayer_s65 N a0 k65 n K I F c z x1 x2 x4 = some r0 → Ok η l (M_X12_solveLayer (am_ac1 r0) (am_az1 r0)) (am_qm η (am_pA 0 r0) (am_ac1 r0) (am_az1 r0)) 65 [(0, qr a0), (1, qi x1), (2, qi x2), (4, qi x4)] [] n K I F c z := by
  unfold X12_solveLayer_s65
  refine fi_mo (fun hc_1 hz_2 => ?_)
  refine ok_iload (q := 67) 3 dX12_solveLayer_65 rfl rfl ?_
  refine ok_iload_n (q := 68) 2 dX12_solveLayer_67 rfl rfl rfl ?_
  refine ok_iload_n (q := 69) 1 dX12_solveLayer_68 rfl rfl rfl ?_
  refine fi_chk (fun h_3 => ?_)
  refine ok_isub (q := 70) dX12_solveLayer_69 rfl h_3 ?_
  refine ok_icmp_ge (q := 128) (q2 := 73) dX12_solveLayer_70 rfl rfl ?_ ?_
  · skip
    refine ok_aload_n (q := 129) 0 dX12_solveLayer_128 rfl rfl rfl ?_
    refine ok_iload_n (q := 130) 2 dX12_solveLayer_129 rfl rfl rfl ?_
    refine ok_iload_n (q := 131) 1 dX12_solveLayer_130 rfl rfl rfl ?_
    refine ok_isub (q := 132) dX12_solveLayer_131 rfl h_3 ?_
    refine fi_chk (fun h_4 => ?_)
    refine fi_callV0S (q := 135) (as := [qi (x2 - x1)]) (st := []) dX12_solveLayer_132 rfl mo_X12_231 h_4 rfl (Nat.le_of_ble_eq_true rfl) rfl rfl (Nat.le_of_ble_eq_true rfl) (Nat.le_of_ble_eq_true rfl) (Nat.le_of_ble_eq_true rfl) hc_1 hz_2 (fun _ hr => ct_X12_start (N := N) h_4 hr) (fun _ I_5 => ?_)
    refine ok_iconst (q := 136) (x := 0) dX12_solveLayer_135 rfl rfl (by decide) ?_
    refine ok_istore (q := 138) (ls' := [(4, qi 0), (0, qr a0), (1, qi x1), (2, qi x2)]) dX12_solveLayer_136 rfl (Nat.le_of_ble_eq_true rfl) rfl ?_
    refine ok_iconst (q := 139) (x := 0) dX12_solveLayer_138 rfl rfl (by decide) ?_
    refine ok_istore (q := 141) (ls' := [(5, qi 0), (4, qi 0), (0, qr a0), (1, qi x1), (2, qi x2)]) dX12_solveLayer_139 rfl (Nat.le_of_ble_eq_true rfl) rfl ?_
    exact fun g => ok_pick [2, 3, 4, 1, 0] rfl (w_X12_solveLayer_h141 (N := N) N _ _ _ _ _ _ _ _ _ _ g)
  · skip
    refine ok_aload_n (q := 74) 0 dX12_solveLayer_73 rfl rfl rfl ?_
    refine fi_chk (fun h_6 => ?_)
    refine ok_getR (q := 77) (ci := 12) (k := 25) (x := F a0 25) dX12_solveLayer_74 rfl fo_X12_33 h_6 rfl ?_
    refine ok_iload_n (q := 78) 1 dX12_solveLayer_77 rfl rfl rfl ?_
    refine ok_iload (q := 80) 3 dX12_solveLayer_78 rfl rfl ?_
    refine fi_chk (fun h_7 => ?_)
    refine ok_iadd (q := 81) dX12_solveLayer_80 rfl h_7 ?_
    refine ok_aload_n (q := 82) 0 dX12_solveLayer_81 rfl rfl rfl ?_
    refine ok_getR (q := 85) (ci := 12) (k := 33) (x := F a0 33) dX12_solveLayer_82 rfl fo_X12_59 h_6 rfl ?_
    refine ok_iload (q := 87) 3 dX12_solveLayer_85 rfl rfl ?_
    refine fi_chk (fun h_8 => ?_)
    refine fi_chk (fun h_9 => ?_)
    refine ok_iaload (q := 88) (v := I (F a0 33) x4) dX12_solveLayer_87 rfl h_8 h_9.1 h_9.2 rfl ?_
    refine fi_chk (fun h_10 => ?_)
    refine fi_chk (fun h_11 => ?_)
    refine fi_chk (fun h_12 => ?_)
    refine ok_iastore (q := 89) dX12_solveLayer_88 rfl h_10 h_11 h_12.1 h_12.2 (fun I_13 => ?_)
    refine ok_aload_n (q := 90) 0 dX12_solveLayer_89 rfl rfl rfl ?_
    refine ok_getR (q := 93) (ci := 12) (k := 26) (x := F a0 26) dX12_solveLayer_90 rfl fo_X12_36 h_6 rfl ?_
    refine ok_iload_n (q := 94) 1 dX12_solveLayer_93 rfl rfl rfl ?_
    refine ok_iload (q := 96) 3 dX12_solveLayer_94 rfl rfl ?_
    refine ok_iadd (q := 97) dX12_solveLayer_96 rfl h_7 ?_
    refine ok_aload_n (q := 98) 0 dX12_solveLayer_97 rfl rfl rfl ?_
    refine ok_getR (q := 101) (ci := 12) (k := 33) (x := F a0 33) dX12_solveLayer_98 rfl fo_X12_59 h_6 rfl ?_
    refine ok_iload (q := 103) 3 dX12_solveLayer_101 rfl rfl ?_
    refine ok_iaload (q := 104) (v := I_13 (F a0 33) x4) dX12_solveLayer_103 rfl h_8 h_9.1 h_9.2 rfl ?_
    refine ok_if_eq (q := 116) (q2 := 107) dX12_solveLayer_104 rfl rfl ?_ ?_
    · skip
      exact fun g => ok_pick [0, 1, 2, 3] rfl (w_X12_solveLayer_b116 (N := N) H65 g)
    · skip
      refine ok_aload_n (q := 108) 0 dX12_solveLayer_107 rfl rfl rfl ?_
      refine ok_iload (q := 110) 3 dX12_solveLayer_108 rfl rfl ?_
      refine fi_callV1P (q := 113) (as := [qi x4]) (st := [qi (x1 + x4), qr (F a0 26)]) dX12_solveLayer_110 rfl mo_X12_213 h_6 rfl (Nat.le_of_ble_eq_true rfl) rfl rfl (Nat.le_of_ble_eq_true rfl) (Nat.le_of_ble_eq_true rfl) (Nat.le_of_ble_eq_true rfl) hc_1 hz_2 (fun _ hr => ct_X12_isEnd (N := N) h_6 hr) (fun v_14 => ?_)
      refine ok_if_eq (q := 120) (q2 := 116) dX12_solveLayer_113 rfl rfl ?_ ?_
      · skip
        refine ok_iconst (q := 121) (x := -1) dX12_solveLayer_120 rfl rfl (by decide) ?_
        exact fun g => ok_pick [0, 1, 2, 3] rfl (w_X12_solveLayer_b121 (N := N) H65 g)
      · skip
        exact fun g => ok_pick [0, 1, 2, 3] rfl (w_X12_solveLayer_b116 (N := N) H65 g)
def X12_solveLayer_h65 (N : Nat) (a0 : Nat) : Nat → Nat → am_K → am_I → am_F → Nat → Nat → Int → Int → Int → Option am_A := am_it (fun kh => X12_solveLayer_s65 N a0 kh) (fun _ _ _ _ _ _ _ _ _ => none)
theorem w_X12_solveLayer_h65 {η : am_E} {l : Launch} {N : Nat}  {a0 : Nat} {r0 : am_A} (f : Nat) : ∀ (n : Nat) (K : am_K) (I : am_I) (F : am_F) (c : Nat) (z : Nat) (x1 : Int) (x2 : Int) (x4 : Int), X12_solveLayer_h65 N a0 f n K I F c z x1 x2 x4 = some r0 → Ok η l (M_X12_solveLayer (am_ac1 r0) (am_az1 r0)) (am_qm η (am_pA 0 r0) (am_ac1 r0) (am_az1 r0)) 65 [(0, qr a0), (1, qi x1), (2, qi x2), (4, qi x4)] [] n K I F c z := by
  induction f with
  | zero => intro n K I F c z x1 x2 x4 g; exact fi_none g
  | succ f ih => intro n K I F c z x1 x2 x4 g; exact w_X12_solveLayer_s65 (N := N) ih g
def X12_solveLayer_s48 (N : Nat) (a0 : Nat) (k48 : Nat → am_K → am_I → am_F → Nat → Nat → Int → Int → Int → Option am_A) (n : Nat) (K : am_K) (I : am_I) (F : am_F) (c z : Nat) (x1 : Int) (x2 : Int) (x3 : Int) : Option am_A :=
  am_mo c z (if x3 = 0 then (X12_solveLayer_h65 N a0 N n K I F c z x1 x2 0) else (if (K a0).1 = 12 then am_ca (X12_round N a0 n K I F x1 x2) (fun v_4 n_5 K_6 I_7 F_8 c_9 z_10 => am_mo (c + c_9) (z + z_10) (k48 n_5 K_6 I_7 F_8 (c + c_9) (z + z_10) x1 x2 v_4)) else none))
theorem w_X12_solveLayer_s48 {η : am_E} {l : Launch} {N : Nat} {n : Nat} {K : am_K} {I : am_I} {F : am_F} {c z : Nat} {a0 : Nat} {r0 : am_A} {k48 : Nat → am_K → am_I → am_F → Nat → Nat → Int → Int → Int → Option am_A} {x1 : Int} {x2 : Int} {x3 : Int} (H48 : ∀ (n : Nat) (K : am_K) (I : am_I) (F : am_F) (c : Nat) (z : Nat) (x1 : Int) (x2 : Int) (x3 : Int), k48 n K I F c z x1 x2 x3 = some r0 → Ok η l (M_X12_solveLayer (am_ac1 r0) (am_az1 r0)) (am_qm η (am_pA 0 r0) (am_ac1 r0) (am_az1 r0)) 48 [(0, qr a0), (1, qi x1), (2, qi x2), (3, qi x3)] [] n K I F c z) : X12_solveLayer_s48 N a0 k48 n K I F c z x1 x2 x3 = some r0 → Ok η l (M_X12_solveLayer (am_ac1 r0) (am_az1 r0)) (am_qm η (am_pA 0 r0) (am_ac1 r0) (am_az1 r0)) 48 [(0, qr a0), (1, qi x1), (2, qi x2), (3, qi x3)] [] n K I F c z := by
  unfold X12_solveLayer_s48
  refine fi_mo (fun hc_1 hz_2 => ?_)
  refine ok_iload_n (q := 49) 3 dX12_solveLayer_48 rfl rfl rfl ?_
  refine ok_if_eq (q := 62) (q2 := 52) dX12_solveLayer_49 rfl rfl ?_ ?_
  · skip
    refine ok_iconst (q := 63) (x := 0) dX12_solveLayer_62 rfl rfl (by decide) ?_
    refine ok_istore (q := 65) (ls' := [(4, qi 0), (0, qr a0), (1, qi x1), (2, qi x2), (3, qi x3)]) dX12_solveLayer_63 rfl (Nat.le_of_ble_eq_true rfl) rfl ?_
    exact fun g => ok_pick [1, 2, 3, 0] rfl (w_X12_solveLayer_h65 (N := N) N _ _ _ _ _ _ _ _ _ g)
  · skip
    refine ok_aload_n (q := 53) 0 dX12_solveLayer_52 rfl rfl rfl ?_
    refine ok_iload_n (q := 54) 1 dX12_solveLayer_53 rfl rfl rfl ?_
    refine ok_iload_n (q := 55) 2 dX12_solveLayer_54 rfl rfl rfl ?_
    refine fi_chk (fun h_3 => ?_)
    refine fi_callV1A (q := 58) (as := [qi x1, qi x2]) (st := []) dX12_solveLayer_55 rfl mo_X12_234 h_3 rfl (Nat.le_of_ble_eq_true rfl) rfl rfl (Nat.le_of_ble_eq_true rfl) (Nat.le_of_ble_eq_true rfl) (Nat.le_of_ble_eq_true rfl) (Nat.le_refl _) (Nat.le_refl _) (fun _ hr => ct_X12_round (N := N) h_3 hr) (fun v_4 n_5 K_6 I_7 F_8 c_9 z_10 hc_11 hz_12 => ?_)
    refine ok_istore_n (q := 59) (ls' := [(3, qi v_4), (0, qr a0), (1, qi x1), (2, qi x2)]) dX12_solveLayer_58 rfl rfl (Nat.le_of_ble_eq_true rfl) rfl ?_
    refine ok_goto (q := 48) dX12_solveLayer_59 rfl ?_
    exact fun g => ok_pick [1, 2, 3, 0] rfl (H48 _ _ _ _ _ _ _ _ _ g)
def X12_solveLayer_h48 (N : Nat) (a0 : Nat) : Nat → Nat → am_K → am_I → am_F → Nat → Nat → Int → Int → Int → Option am_A := am_it (fun kh => X12_solveLayer_s48 N a0 kh) (fun _ _ _ _ _ _ _ _ _ => none)
theorem w_X12_solveLayer_h48 {η : am_E} {l : Launch} {N : Nat}  {a0 : Nat} {r0 : am_A} (f : Nat) : ∀ (n : Nat) (K : am_K) (I : am_I) (F : am_F) (c : Nat) (z : Nat) (x1 : Int) (x2 : Int) (x3 : Int), X12_solveLayer_h48 N a0 f n K I F c z x1 x2 x3 = some r0 → Ok η l (M_X12_solveLayer (am_ac1 r0) (am_az1 r0)) (am_qm η (am_pA 0 r0) (am_ac1 r0) (am_az1 r0)) 48 [(0, qr a0), (1, qi x1), (2, qi x2), (3, qi x3)] [] n K I F c z := by
  induction f with
  | zero => intro n K I F c z x1 x2 x3 g; exact fi_none g
  | succ f ih => intro n K I F c z x1 x2 x3 g; exact w_X12_solveLayer_s48 (N := N) ih g
def X12_solveLayer_b22 (N : Nat) (a0 : Nat) (n : Nat) (K : am_K) (I : am_I) (F : am_F) (c z : Nat) (s0 : Int) : Option am_A :=
  am_mo c z (if (K a0).1 = 12 then am_cq (X12_placesTo N K F I a0 (I a0 23)) (fun v_4 => if am_inI (v_4) then am_cl (X12_gather N K F a0 I s0 v_4) (fun _ I_6 => if am_inI (v_4 - s0) then am_cl (X12_start N K F a0 I_6 (v_4 - s0)) (fun _ I_8 => X12_solveLayer_h48 N a0 N n K I_8 F c z s0 v_4 1) else none) else none) else none)
theorem w_X12_solveLayer_b22 {η : am_E} {l : Launch} {N : Nat} {n : Nat} {K : am_K} {I : am_I} {F : am_F} {c z : Nat} {a0 : Nat} {r0 : am_A} {s0 : Int} : X12_solveLayer_b22 N a0 n K I F c z s0 = some r0 → Ok η l (M_X12_solveLayer (am_ac1 r0) (am_az1 r0)) (am_qm η (am_pA 0 r0) (am_ac1 r0) (am_az1 r0)) 22 [(0, qr a0)] [qi s0] n K I F c z := by
  unfold X12_solveLayer_b22
  refine fi_mo (fun hc_1 hz_2 => ?_)
  refine ok_istore_n (q := 23) (ls' := [(1, qi s0), (0, qr a0)]) dX12_solveLayer_22 rfl rfl (Nat.le_of_ble_eq_true rfl) rfl ?_
  refine ok_aload_n (q := 24) 1 dX12_solveLayer_23 rfl rfl rfl ?_
  refine ok_aload_n (q := 25) 1 dX12_solveLayer_24 rfl rfl rfl ?_
  refine fi_chk (fun h_3 => ?_)
  refine ok_getI (q := 28) (ci := 12) (k := 23) (x := I a0 23) dX12_solveLayer_25 rfl fo_X12_225 h_3 rfl ?_
  refine fi_callV2P (q := 31) (as := [qi (I a0 23)]) (st := []) dX12_solveLayer_28 rfl mo_X12_193 h_3 rfl (Nat.le_of_ble_eq_true rfl) rfl rfl (Nat.le_of_ble_eq_true rfl) (Nat.le_of_ble_eq_true rfl) (Nat.le_of_ble_eq_true rfl) hc_1 hz_2 (fun _ hr => ct_X12_placesTo (N := N) h_3 hr) (fun v_4 => ?_)
  refine fi_chk (fun h_5 => ?_)
  refine ok_l2i (q := 32) dX12_solveLayer_31 rfl h_5 ?_
  refine ok_istore_n (q := 33) (ls' := [(2, qi v_4), (1, qi s0), (0, qr a0)]) dX12_solveLayer_32 rfl rfl (Nat.le_of_ble_eq_true rfl) rfl ?_
  refine ok_aload_n (q := 34) 2 dX12_solveLayer_33 rfl rfl rfl ?_
  refine ok_iload_n (q := 35) 1 dX12_solveLayer_34 rfl rfl rfl ?_
  refine ok_iload_n (q := 36) 0 dX12_solveLayer_35 rfl rfl rfl ?_
  refine fi_callV0S (q := 39) (as := [qi s0, qi v_4]) (st := []) dX12_solveLayer_36 rfl mo_X12_228 h_3 rfl (Nat.le_of_ble_eq_true rfl) rfl rfl (Nat.le_of_ble_eq_true rfl) (Nat.le_of_ble_eq_true rfl) (Nat.le_of_ble_eq_true rfl) hc_1 hz_2 (fun _ hr => ct_X12_gather (N := N) h_3 hr) (fun _ I_6 => ?_)
  refine ok_aload_n (q := 40) 2 dX12_solveLayer_39 rfl rfl rfl ?_
  refine ok_iload_n (q := 41) 0 dX12_solveLayer_40 rfl rfl rfl ?_
  refine ok_iload_n (q := 42) 1 dX12_solveLayer_41 rfl rfl rfl ?_
  refine fi_chk (fun h_7 => ?_)
  refine ok_isub (q := 43) dX12_solveLayer_42 rfl h_7 ?_
  refine fi_callV0S (q := 46) (as := [qi (v_4 - s0)]) (st := []) dX12_solveLayer_43 rfl mo_X12_231 h_3 rfl (Nat.le_of_ble_eq_true rfl) rfl rfl (Nat.le_of_ble_eq_true rfl) (Nat.le_of_ble_eq_true rfl) (Nat.le_of_ble_eq_true rfl) hc_1 hz_2 (fun _ hr => ct_X12_start (N := N) h_3 hr) (fun _ I_8 => ?_)
  refine ok_iconst (q := 47) (x := 1) dX12_solveLayer_46 rfl rfl (by decide) ?_
  refine ok_istore_n (q := 48) (ls' := [(3, qi 1), (2, qi v_4), (1, qi s0), (0, qr a0)]) dX12_solveLayer_47 rfl rfl (Nat.le_of_ble_eq_true rfl) rfl ?_
  exact fun g => ok_pick [3, 2, 1, 0] rfl (w_X12_solveLayer_h48 (N := N) N _ _ _ _ _ _ _ _ _ g)
def X12_solveLayer (N : Nat) (a0 : Nat) (n : Nat) (K : am_K) (I : am_I) (F : am_F) : Option am_A :=
  if (I a0 23) = 0 then (X12_solveLayer_b22 N a0 n K I F 0 0 0) else (if am_inI ((I a0 23) - 1) then am_cq (X12_placesTo N K F I a0 ((I a0 23) - 1)) (fun v_2 => if am_inI (v_2) then X12_solveLayer_b22 N a0 n K I F 0 0 v_2 else none) else none)
theorem w_X12_solveLayer {η : am_E} {l : Launch} {N : Nat} {n : Nat} {K : am_K} {I : am_I} {F : am_F} {a0 : Nat} {r0 : am_A} (h0 : (K a0).1 = 12) : X12_solveLayer N a0 n K I F = some r0 → Ok η l (M_X12_solveLayer (am_ac1 r0) (am_az1 r0)) (am_qm η (am_pA 0 r0) (am_ac1 r0) (am_az1 r0)) 0 [(0, qr a0)] [] n K I F 0 0 := by
  unfold X12_solveLayer
  refine ok_aload_n (q := 1) 0 dX12_solveLayer_0 rfl rfl rfl ?_
  refine ok_getI (q := 4) (ci := 12) (k := 23) (x := I a0 23) dX12_solveLayer_1 rfl fo_X12_225 h0 rfl ?_
  refine ok_if_ne (q := 11) (q2 := 7) dX12_solveLayer_4 rfl rfl ?_ ?_
  · skip
    refine ok_aload_n (q := 12) 0 dX12_solveLayer_11 rfl rfl rfl ?_
    refine ok_aload_n (q := 13) 0 dX12_solveLayer_12 rfl rfl rfl ?_
    refine ok_getI (q := 16) (ci := 12) (k := 23) (x := I a0 23) dX12_solveLayer_13 rfl fo_X12_225 h0 rfl ?_
    refine ok_iconst (q := 17) (x := 1) dX12_solveLayer_16 rfl rfl (by decide) ?_
    refine fi_chk (fun h_1 => ?_)
    refine ok_isub (q := 18) dX12_solveLayer_17 rfl h_1 ?_
    refine fi_callV2P (q := 21) (as := [qi ((I a0 23) - 1)]) (st := []) dX12_solveLayer_18 rfl mo_X12_193 h0 rfl (Nat.le_of_ble_eq_true rfl) rfl rfl (Nat.le_of_ble_eq_true rfl) (Nat.le_of_ble_eq_true rfl) (Nat.le_of_ble_eq_true rfl) (Nat.zero_le _) (Nat.zero_le _) (fun _ hr => ct_X12_placesTo (N := N) h0 hr) (fun v_2 => ?_)
    refine fi_chk (fun h_3 => ?_)
    refine ok_l2i (q := 22) dX12_solveLayer_21 rfl h_3 ?_
    exact fun g => ok_pick [0] rfl (w_X12_solveLayer_b22 (N := N) g)
  · skip
    refine ok_iconst (q := 8) (x := 0) dX12_solveLayer_7 rfl rfl (by decide) ?_
    refine ok_goto (q := 22) dX12_solveLayer_8 rfl ?_
    exact fun g => ok_pick [0] rfl (w_X12_solveLayer_b22 (N := N) g)
theorem ct_X12_solveLayer {η : am_E} {l : Launch} {N : Nat} {n : Nat} {K : am_K} {I : am_I} {F : am_F} {a0 : Nat} {r0 : am_A} (h0 : (K a0).1 = 12) : X12_solveLayer N a0 n K I F = some r0 → am_Ct η l yX12_solveLayer cX12_solveLayer 8 none 6 146 (am_ac1 r0) (am_az1 r0) [qr a0] n K I F (am_pA 0 r0) := fun g => am_Ct.of false (by decide) (by decide) (Nat.le_of_ble_eq_true rfl) (fun _ => w_X12_solveLayer (N := N) h0 g)
def M_X12_reached : am_M := (yX12_reached.cls, cX12_reached, 3, (some .int), am_room 4 94 0 0, false)
def X12_reached (N : Nat) (K : am_K) (F : am_F) (I : am_I) (a0 : Nat) (x1 : Int) (a2 : Nat) : Option Int :=
  if am_inI (1 - x1) then am_cq (X12_placeOf N K F I a0 (F a0 16) (1 - x1)) (fun v_2 => if am_inI (v_2) then if (K a2).1 = 100 then if (0 : Int) ≤ v_2 ∧ v_2 < (K a2).2 then if am_inI ((I a0 17) - (I a2 v_2)) then some ((I a0 17) - (I a2 v_2)) else none else none else none else none) else none
theorem w_X12_reached {η : am_E} {l : Launch} {N : Nat} {n : Nat} {K : am_K} {I : am_I} {F : am_F} {a0 : Nat} {r0 : Int} {x1 : Int} {a2 : Nat} (h0 : (K a0).1 = 12) : X12_reached N K F I a0 x1 a2 = some r0 → Ok η l M_X12_reached (am_qm η (am_pS 1 (r0, I) n K F) 0 0) 0 [(0, qr a0), (1, qi x1), (2, qr a2)] [] n K I F 0 0 := by
  unfold X12_reached
  refine ok_aload_n (q := 1) 0 dX12_reached_0 rfl rfl rfl ?_
  refine ok_getI (q := 4) (ci := 12) (k := 17) (x := I a0 17) dX12_reached_1 rfl fo_X12_148 h0 rfl ?_
  refine ok_aload_n (q := 5) 2 dX12_reached_4 rfl rfl rfl ?_
  refine ok_aload_n (q := 6) 0 dX12_reached_5 rfl rfl rfl ?_
  refine ok_aload_n (q := 7) 0 dX12_reached_6 rfl rfl rfl ?_
  refine ok_getR (q := 10) (ci := 12) (k := 16) (x := F a0 16) dX12_reached_7 rfl fo_X12_26 h0 rfl ?_
  refine ok_iconst (q := 11) (x := 1) dX12_reached_10 rfl rfl (by decide) ?_
  refine ok_iload_n (q := 12) 1 dX12_reached_11 rfl rfl rfl ?_
  refine fi_chk (fun h_1 => ?_)
  refine ok_isub (q := 13) dX12_reached_12 rfl h_1 ?_
  refine fi_callV2P (q := 16) (as := [qr (F a0 16), qi (1 - x1)]) (st := [qr a2, qi (I a0 17)]) dX12_reached_13 rfl mo_X12_209 h0 rfl (Nat.le_of_ble_eq_true rfl) rfl rfl (Nat.le_of_ble_eq_true rfl) (Nat.le_of_ble_eq_true rfl) (Nat.le_of_ble_eq_true rfl) (Nat.zero_le _) (Nat.zero_le _) (fun _ hr => ct_X12_placeOf (N := N) h0 hr) (fun v_2 => ?_)
  refine fi_chk (fun h_3 => ?_)
  refine ok_l2i (q := 17) dX12_reached_16 rfl h_3 ?_
  refine fi_chk (fun h_4 => ?_)
  refine fi_chk (fun h_5 => ?_)
  refine ok_iaload (q := 18) (v := I a2 v_2) dX12_reached_17 rfl h_4 h_5.1 h_5.2 rfl ?_
  refine fi_chk (fun h_6 => ?_)
  refine ok_isub (q := 19) dX12_reached_18 rfl h_6 ?_
  exact fi_ireturnP dX12_reached_19 rfl
theorem ct_X12_reached {η : am_E} {l : Launch} {N : Nat} {n : Nat} {K : am_K} {I : am_I} {F : am_F} {a0 : Nat} {r0 : Int} {x1 : Int} {a2 : Nat} (h0 : (K a0).1 = 12) : X12_reached N K F I a0 x1 a2 = some r0 → am_Ct η l yX12_reached cX12_reached 3 (some .int) 4 94 0 0 [qr a0, qi x1, qr a2] n K I F (am_pS 1 (r0, I) n K F) := fun g => am_Ct.of false (by decide) (by decide) (Nat.le_of_ble_eq_true rfl) (fun _ => w_X12_reached (N := N) h0 g)
