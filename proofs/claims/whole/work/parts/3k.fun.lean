def M_X12_start : am_M := (yX12_start.cls, cX12_start, 3, none, am_room 1 21 0 0, false)
def X12_start_b30 (N : Nat) (K : am_K) (F : am_F) (a0 : Nat) (k2 : am_I → Int → Int → Option (Int × am_I)) (I : am_I) (x1 : Int) (x2 : Int) (s0 : Int) (s1 : Int) (t2 : Nat) : Option (Int × am_I) :=
  if (K t2).1 = 100 then if t2 ≠ 1 then if (0 : Int) ≤ s1 ∧ s1 < (K t2).2 then am_lt (am_u2 I t2 s1 s0) (fun I_4 => if am_inI (x2 + 1) then am_lt (x2 + 1) (fun x2_6 => k2 I_4 x1 x2_6) else none) else none else none else none
theorem w_X12_start_b30 {η : am_E} {l : Launch} {N : Nat} {n : Nat} {K : am_K} {I : am_I} {F : am_F} {a0 : Nat} {r0 : Int × am_I} {k2 : am_I → Int → Int → Option (Int × am_I)} {x1 : Int} {x2 : Int} {s0 : Int} {s1 : Int} {t2 : Nat} (h0 : (K a0).1 = 12) (H2 : ∀ (I : am_I) (x1 : Int) (x2 : Int), k2 I x1 x2 = some r0 → Ok η l M_X12_start (am_qm η (am_pS 0 r0 n K F) 0 0) 2 [(0, qr a0), (1, qi x1), (2, qi x2)] [] n K I F 0 0) : X12_start_b30 N K F a0 k2 I x1 x2 s0 s1 t2 = some r0 → Ok η l M_X12_start (am_qm η (am_pS 0 r0 n K F) 0 0) 30 [(0, qr a0), (1, qi x1), (2, qi x2)] [qi s0, qi s1, qr t2] n K I F 0 0 := by
  unfold X12_start_b30
  refine fi_chk (fun h_1 => ?_)
  refine fi_chk (fun h_2 => ?_)
  refine fi_chk (fun h_3 => ?_)
  refine ok_iastore (q := 31) dX12_start_30 rfl h_1 h_2 h_3.1 h_3.2 (fun I_4 => ?_)
  refine fi_chk (fun h_5 => ?_)
  refine ok_iincL (q := 34) (fun x2_6 => [(2, qi x2_6), (0, qr a0), (1, qi x1)]) 2 dX12_start_31 rfl rfl h_5 (Nat.le_of_ble_eq_true rfl) (fun _ => rfl) (fun x2_6 => ?_)
  refine ok_goto (q := 2) dX12_start_34 rfl ?_
  exact fun g => ok_pick [1, 2, 0] rfl (H2 _ _ _ g)
def X12_start_s2 (N : Nat) (K : am_K) (F : am_F) (a0 : Nat) (k2 : am_I → Int → Int → Option (Int × am_I)) (I : am_I) (x1 : Int) (x2 : Int) : Option (Int × am_I) :=
  if x2 < x1 then (am_cq (X12_isEnd N K F I a0 x2) (fun v_1 => if v_1 = 0 then (X12_start_b30 N K F a0 k2 I x1 x2 0 x2 (F a0 33)) else (if (K (F a0 32)).1 = 100 then if (0 : Int) ≤ x2 ∧ x2 < (K (F a0 32)).2 then X12_start_b30 N K F a0 k2 I x1 x2 (I (F a0 32) x2) x2 (F a0 33) else none else none))) else (some (0, I))
theorem w_X12_start_s2 {η : am_E} {l : Launch} {N : Nat} {n : Nat} {K : am_K} {I : am_I} {F : am_F} {a0 : Nat} {r0 : Int × am_I} {k2 : am_I → Int → Int → Option (Int × am_I)} {x1 : Int} {x2 : Int} (h0 : (K a0).1 = 12) (H2 : ∀ (I : am_I) (x1 : Int) (x2 : Int), k2 I x1 x2 = some r0 → Ok η l M_X12_start (am_qm η (am_pS 0 r0 n K F) 0 0) 2 [(0, qr a0), (1, qi x1), (2, qi x2)] [] n K I F 0 0) : X12_start_s2 N K F a0 k2 I x1 x2 = some r0 → Ok η l M_X12_start (am_qm η (am_pS 0 r0 n K F) 0 0) 2 [(0, qr a0), (1, qi x1), (2, qi x2)] [] n K I F 0 0 := by
  unfold X12_start_s2
  refine ok_iload_n (q := 3) 2 dX12_start_2 rfl rfl rfl ?_
  refine ok_iload_n (q := 4) 1 dX12_start_3 rfl rfl rfl ?_
  refine ok_icmp_ge (q := 37) (q2 := 7) dX12_start_4 rfl rfl ?_ ?_
  · skip
    exact fi_returnS dX12_start_37 rfl
  · skip
    refine ok_aload_n (q := 8) 0 dX12_start_7 rfl rfl rfl ?_
    refine ok_getR (q := 11) (ci := 12) (k := 33) (x := F a0 33) dX12_start_8 rfl fo_X12_59 h0 rfl ?_
    refine ok_iload_n (q := 12) 2 dX12_start_11 rfl rfl rfl ?_
    refine ok_aload_n (q := 13) 0 dX12_start_12 rfl rfl rfl ?_
    refine ok_iload_n (q := 14) 2 dX12_start_13 rfl rfl rfl ?_
    refine fi_callV1P (q := 17) (as := [qi x2]) (st := [qi x2, qr (F a0 33)]) dX12_start_14 rfl mo_X12_213 h0 rfl (Nat.le_of_ble_eq_true rfl) rfl rfl (Nat.le_of_ble_eq_true rfl) (Nat.le_of_ble_eq_true rfl) (Nat.le_of_ble_eq_true rfl) (Nat.zero_le _) (Nat.zero_le _) (fun _ hr => ct_X12_isEnd (N := N) h0 hr) (fun v_1 => ?_)
    refine ok_if_eq (q := 29) (q2 := 20) dX12_start_17 rfl rfl ?_ ?_
    · skip
      refine ok_iconst (q := 30) (x := 0) dX12_start_29 rfl rfl (by decide) ?_
      exact fun g => ok_pick [0, 1, 2] rfl (w_X12_start_b30 (N := N) h0 H2 g)
    · skip
      refine ok_aload_n (q := 21) 0 dX12_start_20 rfl rfl rfl ?_
      refine ok_getR (q := 24) (ci := 12) (k := 32) (x := F a0 32) dX12_start_21 rfl fo_X12_56 h0 rfl ?_
      refine ok_iload_n (q := 25) 2 dX12_start_24 rfl rfl rfl ?_
      refine fi_chk (fun h_2 => ?_)
      refine fi_chk (fun h_3 => ?_)
      refine ok_iaload (q := 26) (v := I (F a0 32) x2) dX12_start_25 rfl h_2 h_3.1 h_3.2 rfl ?_
      refine ok_goto (q := 30) dX12_start_26 rfl ?_
      exact fun g => ok_pick [0, 1, 2] rfl (w_X12_start_b30 (N := N) h0 H2 g)
def X12_start_h2 (N : Nat) (K : am_K) (F : am_F) (a0 : Nat) : Nat → am_I → Int → Int → Option (Int × am_I) := am_it (fun kh => X12_start_s2 N K F a0 kh) (fun _ _ _ => none)
theorem w_X12_start_h2 {η : am_E} {l : Launch} {N : Nat} {n : Nat} {K : am_K} {F : am_F} {a0 : Nat} {r0 : Int × am_I} (h0 : (K a0).1 = 12) (f : Nat) : ∀ (I : am_I) (x1 : Int) (x2 : Int), X12_start_h2 N K F a0 f I x1 x2 = some r0 → Ok η l M_X12_start (am_qm η (am_pS 0 r0 n K F) 0 0) 2 [(0, qr a0), (1, qi x1), (2, qi x2)] [] n K I F 0 0 := by
  induction f with
  | zero => intro I x1 x2 g; exact fi_none g
  | succ f ih => intro I x1 x2 g; exact w_X12_start_s2 (N := N) h0 ih g
def X12_start (N : Nat) (K : am_K) (F : am_F) (a0 : Nat) (I : am_I) (x1 : Int) : Option (Int × am_I) :=
  X12_start_h2 N K F a0 N I x1 0
theorem w_X12_start {η : am_E} {l : Launch} {N : Nat} {n : Nat} {K : am_K} {I : am_I} {F : am_F} {a0 : Nat} {r0 : Int × am_I} {x1 : Int} (h0 : (K a0).1 = 12) : X12_start N K F a0 I x1 = some r0 → Ok η l M_X12_start (am_qm η (am_pS 0 r0 n K F) 0 0) 0 [(0, qr a0), (1, qi x1)] [] n K I F 0 0 := by
  unfold X12_start
  refine ok_iconst (q := 1) (x := 0) dX12_start_0 rfl rfl (by decide) ?_
  refine ok_istore_n (q := 2) (ls' := [(2, qi 0), (0, qr a0), (1, qi x1)]) dX12_start_1 rfl rfl (Nat.le_of_ble_eq_true rfl) rfl ?_
  exact fun g => ok_pick [1, 2, 0] rfl (w_X12_start_h2 (N := N) h0 N _ _ _ g)
theorem ct_X12_start {η : am_E} {l : Launch} {N : Nat} {n : Nat} {K : am_K} {I : am_I} {F : am_F} {a0 : Nat} {r0 : Int × am_I} {x1 : Int} (h0 : (K a0).1 = 12) : X12_start N K F a0 I x1 = some r0 → am_Ct η l yX12_start cX12_start 3 none 1 21 0 0 [qr a0, qi x1] n K I F (am_pS 0 r0 n K F) := fun g => am_Ct.of false (by decide) (by decide) (Nat.le_of_ble_eq_true rfl) (fun _ => w_X12_start (N := N) h0 g)
def M_X12_solveLayer (mc ms : Nat) : am_M := (yX12_solveLayer.cls, cX12_solveLayer, 8, none, am_room 6 146 mc ms, false)
def X12_solveLayer_b252 (N : Nat) (a0 : Nat) (k180 : Nat → am_K → am_I → am_F → Nat → Nat → Int → Int → Int → Int → Option am_A) (k196 : Nat → am_K → am_I → am_F → Nat → Nat → Int → Int → Int → Int → Int → Option am_A) (n : Nat) (K : am_K) (I : am_I) (F : am_F) (c z : Nat) (x1 : Int) (x2 : Int) (x4 : Int) (x5 : Int) (x7 : Int) : Option am_A :=
  am_mo c z (if am_inI (x7 + 1) then am_lt (x7 + 1) (fun x7_4 => k196 n K I F c z x1 x2 x4 x5 x7_4) else none)
theorem w_X12_solveLayer_b252 {η : am_E} {l : Launch} {N : Nat} {n : Nat} {K : am_K} {I : am_I} {F : am_F} {c z : Nat} {a0 : Nat} {r0 : am_A} {k180 : Nat → am_K → am_I → am_F → Nat → Nat → Int → Int → Int → Int → Option am_A} {k196 : Nat → am_K → am_I → am_F → Nat → Nat → Int → Int → Int → Int → Int → Option am_A} {x1 : Int} {x2 : Int} {x4 : Int} {x5 : Int} {x7 : Int} (H180 : ∀ (n : Nat) (K : am_K) (I : am_I) (F : am_F) (c : Nat) (z : Nat) (x1 : Int) (x2 : Int) (x4 : Int) (x5 : Int), k180 n K I F c z x1 x2 x4 x5 = some r0 → Ok η l (M_X12_solveLayer (am_ac1 r0) (am_az1 r0)) (am_qm η (am_pA 0 r0) (am_ac1 r0) (am_az1 r0)) 180 [(0, qr a0), (1, qi x1), (2, qi x2), (4, qi x4), (5, qi x5)] [] n K I F c z) (H196 : ∀ (n : Nat) (K : am_K) (I : am_I) (F : am_F) (c : Nat) (z : Nat) (x1 : Int) (x2 : Int) (x4 : Int) (x5 : Int) (x7 : Int), k196 n K I F c z x1 x2 x4 x5 x7 = some r0 → Ok η l (M_X12_solveLayer (am_ac1 r0) (am_az1 r0)) (am_qm η (am_pA 0 r0) (am_ac1 r0) (am_az1 r0)) 196 [(0, qr a0), (1, qi x1), (2, qi x2), (4, qi x4), (5, qi x5), (7, qi x7)] [] n K I F c z) : X12_solveLayer_b252 N a0 k180 k196 n K I F c z x1 x2 x4 x5 x7 = some r0 → Ok η l (M_X12_solveLayer (am_ac1 r0) (am_az1 r0)) (am_qm η (am_pA 0 r0) (am_ac1 r0) (am_az1 r0)) 252 [(0, qr a0), (1, qi x1), (2, qi x2), (4, qi x4), (5, qi x5), (7, qi x7)] [] n K I F c z := by
  unfold X12_solveLayer_b252
  refine fi_mo (fun hc_1 hz_2 => ?_)
  refine fi_chk (fun h_3 => ?_)
  refine ok_iincL (q := 255) (fun x7_4 => [(7, qi x7_4), (0, qr a0), (1, qi x1), (2, qi x2), (4, qi x4), (5, qi x5)]) 5 dX12_solveLayer_252 rfl rfl h_3 (Nat.le_of_ble_eq_true rfl) (fun _ => rfl) (fun x7_4 => ?_)
  refine ok_goto (q := 196) dX12_solveLayer_255 rfl ?_
  exact fun g => ok_pick [1, 2, 3, 4, 5, 0] rfl (H196 _ _ _ _ _ _ _ _ _ _ _ g)
def X12_solveLayer_s196 (N : Nat) (a0 : Nat) (k180 : Nat → am_K → am_I → am_F → Nat → Nat → Int → Int → Int → Int → Option am_A) (k196 : Nat → am_K → am_I → am_F → Nat → Nat → Int → Int → Int → Int → Int → Option am_A) (n : Nat) (K : am_K) (I : am_I) (F : am_F) (c z : Nat) (x1 : Int) (x2 : Int) (x4 : Int) (x5 : Int) (x7 : Int) : Option am_A :=
  am_mo c z (if am_inI (x2 - x1) then if x7 < (x2 - x1) then (if (K a0).1 = 12 then if am_inI (x1 + x7) then if (K (F a0 26)).1 = 100 then if (0 : Int) ≤ (x1 + x7) ∧ (x1 + x7) < (K (F a0 26)).2 then if (I (F a0 26) (x1 + x7)) < 0 then (if (K (F a0 33)).1 = 100 then if (0 : Int) ≤ x7 ∧ x7 < (K (F a0 33)).2 then if (K (F a0 25)).1 = 100 then if (0 : Int) ≤ (x1 + x7) ∧ (x1 + x7) < (K (F a0 25)).2 then if (I (F a0 33) x7) = (I (F a0 25) (x1 + x7)) then (if F a0 26 ≠ 1 then am_lt (am_u2 I (F a0 26) (x1 + x7) x5) (fun I_15 => if am_inI (x4 + (-1)) then am_lt (x4 + (-1)) (fun x4_17 => X12_solveLayer_b252 N a0 k180 k196 n K I_15 F c z x1 x2 x4_17 x5 x7) else none) else none) else (X12_solveLayer_b252 N a0 k180 k196 n K I F c z x1 x2 x4 x5 x7) else none else none else none else none) else (X12_solveLayer_b252 N a0 k180 k196 n K I F c z x1 x2 x4 x5 x7) else none else none else none else none) else (if am_inI (x5 + 1) then am_lt (x5 + 1) (fun x5_5 => k180 n K I F c z x1 x2 x4 x5_5) else none) else none)
theorem w_X12_solveLayer_s196 {η : am_E} {l : Launch} {N : Nat} {n : Nat} {K : am_K} {I : am_I} {F : am_F} {c z : Nat} {a0 : Nat} {r0 : am_A} {k180 : Nat → am_K → am_I → am_F → Nat → Nat → Int → Int → Int → Int → Option am_A} {k196 : Nat → am_K → am_I → am_F → Nat → Nat → Int → Int → Int → Int → Int → Option am_A} {x1 : Int} {x2 : Int} {x4 : Int} {x5 : Int} {x7 : Int} (H180 : ∀ (n : Nat) (K : am_K) (I : am_I) (F : am_F) (c : Nat) (z : Nat) (x1 : Int) (x2 : Int) (x4 : Int) (x5 : Int), k180 n K I F c z x1 x2 x4 x5 = some r0 → Ok η l (M_X12_solveLayer (am_ac1 r0) (am_az1 r0)) (am_qm η (am_pA 0 r0) (am_ac1 r0) (am_az1 r0)) 180 [(0, qr a0), (1, qi x1), (2, qi x2), (4, qi x4), (5, qi x5)] [] n K I F c z) (H196 : ∀ (n : Nat) (K : am_K) (I : am_I) (F : am_F) (c : Nat) (z : Nat) (x1 : Int) (x2 : Int) (x4 : Int) (x5 : Int) (x7 : Int), k196 n K I F c z x1 x2 x4 x5 x7 = some r0 → Ok η l (M_X12_solveLayer (am_ac1 r0) (am_az1 r0)) (am_qm η (am_pA 0 r0) (am_ac1 r0) (am_az1 r0)) 196 [(0, qr a0), (1, qi x1), (2, qi x2), (4, qi x4), (5, qi x5), (7, qi x7)] [] n K I F c z) : X12_solveLayer_s196 N a0 k180 k196 n K I F c z x1 x2 x4 x5 x7 = some r0 → Ok η l (M_X12_solveLayer (am_ac1 r0) (am_az1 r0)) (am_qm η (am_pA 0 r0) (am_ac1 r0) (am_az1 r0)) 196 [(0, qr a0), (1, qi x1), (2, qi x2), (4, qi x4), (5, qi x5), (7, qi x7)] [] n K I F c z := by
  unfold X12_solveLayer_s196
  refine fi_mo (fun hc_1 hz_2 => ?_)
  refine ok_iload (q := 198) 5 dX12_solveLayer_196 rfl rfl ?_
  refine ok_iload_n (q := 199) 2 dX12_solveLayer_198 rfl rfl rfl ?_
  refine ok_iload_n (q := 200) 1 dX12_solveLayer_199 rfl rfl rfl ?_
  refine fi_chk (fun h_3 => ?_)
  refine ok_isub (q := 201) dX12_solveLayer_200 rfl h_3 ?_
  refine ok_icmp_ge (q := 258) (q2 := 204) dX12_solveLayer_201 rfl rfl ?_ ?_
  · skip
    refine fi_chk (fun h_4 => ?_)
    refine ok_iincL (q := 261) (fun x5_5 => [(5, qi x5_5), (0, qr a0), (1, qi x1), (2, qi x2), (4, qi x4), (7, qi x7)]) 4 dX12_solveLayer_258 rfl rfl h_4 (Nat.le_of_ble_eq_true rfl) (fun _ => rfl) (fun x5_5 => ?_)
    refine ok_goto (q := 180) dX12_solveLayer_261 rfl ?_
    exact fun g => ok_pick [1, 2, 3, 4, 0] rfl (H180 _ _ _ _ _ _ _ _ _ _ g)
  · skip
    refine ok_aload_n (q := 205) 0 dX12_solveLayer_204 rfl rfl rfl ?_
    refine fi_chk (fun h_6 => ?_)
    refine ok_getR (q := 208) (ci := 12) (k := 26) (x := F a0 26) dX12_solveLayer_205 rfl fo_X12_36 h_6 rfl ?_
    refine ok_iload_n (q := 209) 1 dX12_solveLayer_208 rfl rfl rfl ?_
    refine ok_iload (q := 211) 5 dX12_solveLayer_209 rfl rfl ?_
    refine fi_chk (fun h_7 => ?_)
    refine ok_iadd (q := 212) dX12_solveLayer_211 rfl h_7 ?_
    refine fi_chk (fun h_8 => ?_)
    refine fi_chk (fun h_9 => ?_)
    refine ok_iaload (q := 213) (v := I (F a0 26) (x1 + x7)) dX12_solveLayer_212 rfl h_8 h_9.1 h_9.2 rfl ?_
    refine ok_if_ge (q := 252) (q2 := 216) dX12_solveLayer_213 rfl rfl ?_ ?_
    · skip
      exact fun g => ok_pick [0, 1, 2, 3, 4, 5] rfl (w_X12_solveLayer_b252 (N := N) H180 H196 g)
    · skip
      refine ok_aload_n (q := 217) 0 dX12_solveLayer_216 rfl rfl rfl ?_
      refine ok_getR (q := 220) (ci := 12) (k := 33) (x := F a0 33) dX12_solveLayer_217 rfl fo_X12_59 h_6 rfl ?_
      refine ok_iload (q := 222) 5 dX12_solveLayer_220 rfl rfl ?_
      refine fi_chk (fun h_10 => ?_)
      refine fi_chk (fun h_11 => ?_)
      refine ok_iaload (q := 223) (v := I (F a0 33) x7) dX12_solveLayer_222 rfl h_10 h_11.1 h_11.2 rfl ?_
      refine ok_aload_n (q := 224) 0 dX12_solveLayer_223 rfl rfl rfl ?_
      refine ok_getR (q := 227) (ci := 12) (k := 25) (x := F a0 25) dX12_solveLayer_224 rfl fo_X12_33 h_6 rfl ?_
      refine ok_iload_n (q := 228) 1 dX12_solveLayer_227 rfl rfl rfl ?_
      refine ok_iload (q := 230) 5 dX12_solveLayer_228 rfl rfl ?_
      refine ok_iadd (q := 231) dX12_solveLayer_230 rfl h_7 ?_
      refine fi_chk (fun h_12 => ?_)
      refine fi_chk (fun h_13 => ?_)
      refine ok_iaload (q := 232) (v := I (F a0 25) (x1 + x7)) dX12_solveLayer_231 rfl h_12 h_13.1 h_13.2 rfl ?_
      refine ok_icmp_eq (q := 238) (q2 := 235) dX12_solveLayer_232 rfl rfl ?_ ?_
      · skip
        refine ok_aload_n (q := 239) 0 dX12_solveLayer_238 rfl rfl rfl ?_
        refine ok_getR (q := 242) (ci := 12) (k := 26) (x := F a0 26) dX12_solveLayer_239 rfl fo_X12_36 h_6 rfl ?_
        refine ok_iload_n (q := 243) 1 dX12_solveLayer_242 rfl rfl rfl ?_
        refine ok_iload (q := 245) 5 dX12_solveLayer_243 rfl rfl ?_
        refine ok_iadd (q := 246) dX12_solveLayer_245 rfl h_7 ?_
        refine ok_iload (q := 248) 4 dX12_solveLayer_246 rfl rfl ?_
        refine fi_chk (fun h_14 => ?_)
        refine ok_iastore (q := 249) dX12_solveLayer_248 rfl h_8 h_14 h_9.1 h_9.2 (fun I_15 => ?_)
        refine fi_chk (fun h_16 => ?_)
        refine ok_iincL (q := 252) (fun x4_17 => [(4, qi x4_17), (0, qr a0), (1, qi x1), (2, qi x2), (5, qi x5), (7, qi x7)]) 3 dX12_solveLayer_249 rfl rfl h_16 (Nat.le_of_ble_eq_true rfl) (fun _ => rfl) (fun x4_17 => ?_)
        exact fun g => ok_pick [1, 2, 3, 0, 4, 5] rfl (w_X12_solveLayer_b252 (N := N) H180 H196 g)
      · skip
        refine ok_goto (q := 252) dX12_solveLayer_235 rfl ?_
        exact fun g => ok_pick [0, 1, 2, 3, 4, 5] rfl (w_X12_solveLayer_b252 (N := N) H180 H196 g)
def X12_solveLayer_h196 (N : Nat) (a0 : Nat) (k180 : Nat → am_K → am_I → am_F → Nat → Nat → Int → Int → Int → Int → Option am_A) : Nat → Nat → am_K → am_I → am_F → Nat → Nat → Int → Int → Int → Int → Int → Option am_A := am_it (fun kh => X12_solveLayer_s196 N a0 k180 kh) (fun _ _ _ _ _ _ _ _ _ _ _ => none)
theorem w_X12_solveLayer_h196 {η : am_E} {l : Launch} {N : Nat}  {a0 : Nat} {r0 : am_A} {k180 : Nat → am_K → am_I → am_F → Nat → Nat → Int → Int → Int → Int → Option am_A} (H180 : ∀ (n : Nat) (K : am_K) (I : am_I) (F : am_F) (c : Nat) (z : Nat) (x1 : Int) (x2 : Int) (x4 : Int) (x5 : Int), k180 n K I F c z x1 x2 x4 x5 = some r0 → Ok η l (M_X12_solveLayer (am_ac1 r0) (am_az1 r0)) (am_qm η (am_pA 0 r0) (am_ac1 r0) (am_az1 r0)) 180 [(0, qr a0), (1, qi x1), (2, qi x2), (4, qi x4), (5, qi x5)] [] n K I F c z) (f : Nat) : ∀ (n : Nat) (K : am_K) (I : am_I) (F : am_F) (c : Nat) (z : Nat) (x1 : Int) (x2 : Int) (x4 : Int) (x5 : Int) (x7 : Int), X12_solveLayer_h196 N a0 k180 f n K I F c z x1 x2 x4 x5 x7 = some r0 → Ok η l (M_X12_solveLayer (am_ac1 r0) (am_az1 r0)) (am_qm η (am_pA 0 r0) (am_ac1 r0) (am_az1 r0)) 196 [(0, qr a0), (1, qi x1), (2, qi x2), (4, qi x4), (5, qi x5), (7, qi x7)] [] n K I F c z := by
  induction f with
  | zero => intro n K I F c z x1 x2 x4 x5 x7 g; exact fi_none g
  | succ f ih => intro n K I F c z x1 x2 x4 x5 x7 g; exact w_X12_solveLayer_s196 (N := N) H180 ih g
def X12_solveLayer_s180 (N : Nat) (a0 : Nat) (k180 : Nat → am_K → am_I → am_F → Nat → Nat → Int → Int → Int → Int → Option am_A) (n : Nat) (K : am_K) (I : am_I) (F : am_F) (c z : Nat) (x1 : Int) (x2 : Int) (x4 : Int) (x5 : Int) : Option am_A :=
  am_mo c z (if 0 < x4 then (if (K a0).1 = 12 then am_ca (X12_round N a0 n K I F x1 x2) (fun v_8 n_9 K_10 I_11 F_12 c_13 z_14 => am_mo (c + c_13) (z + z_14) (X12_solveLayer_h196 N a0 k180 N n_9 K_10 I_11 F_12 (c + c_13) (z + z_14) x1 x2 x4 x5 0)) else none) else (if (K a0).1 = 12 then if am_inI ((I a0 23) + 1) then am_lt (am_u2 I a0 23 ((I a0 23) + 1)) (fun I_5 => am_lt (am_u2 I_5 a0 24 x2) (fun I_6 => some (0, n, K, I_6, F, c, z))) else none else none))
theorem w_X12_solveLayer_s180 {η : am_E} {l : Launch} {N : Nat} {n : Nat} {K : am_K} {I : am_I} {F : am_F} {c z : Nat} {a0 : Nat} {r0 : am_A} {k180 : Nat → am_K → am_I → am_F → Nat → Nat → Int → Int → Int → Int → Option am_A} {x1 : Int} {x2 : Int} {x4 : Int} {x5 : Int} (H180 : ∀ (n : Nat) (K : am_K) (I : am_I) (F : am_F) (c : Nat) (z : Nat) (x1 : Int) (x2 : Int) (x4 : Int) (x5 : Int), k180 n K I F c z x1 x2 x4 x5 = some r0 → Ok η l (M_X12_solveLayer (am_ac1 r0) (am_az1 r0)) (am_qm η (am_pA 0 r0) (am_ac1 r0) (am_az1 r0)) 180 [(0, qr a0), (1, qi x1), (2, qi x2), (4, qi x4), (5, qi x5)] [] n K I F c z) : X12_solveLayer_s180 N a0 k180 n K I F c z x1 x2 x4 x5 = some r0 → Ok η l (M_X12_solveLayer (am_ac1 r0) (am_az1 r0)) (am_qm η (am_pA 0 r0) (am_ac1 r0) (am_az1 r0)) 180 [(0, qr a0), (1, qi x1), (2, qi x2), (4, qi x4), (5, qi x5)] [] n K I F c z := by
  unfold X12_solveLayer_s180
  refine fi_mo (fun hc_1 hz_2 => ?_)
  refine ok_iload (q := 182) 3 dX12_solveLayer_180 rfl rfl ?_
  refine ok_if_le (q := 264) (q2 := 185) dX12_solveLayer_182 rfl rfl ?_ ?_
  · skip
    refine ok_aload_n (q := 265) 0 dX12_solveLayer_264 rfl rfl rfl ?_
    refine ok_dup (q := 266) dX12_solveLayer_265 rfl rfl ?_
    refine fi_chk (fun h_3 => ?_)
    refine ok_getI (q := 269) (ci := 12) (k := 23) (x := I a0 23) dX12_solveLayer_266 rfl fo_X12_225 h_3 rfl ?_
    refine ok_iconst (q := 270) (x := 1) dX12_solveLayer_269 rfl rfl (by decide) ?_
    refine fi_chk (fun h_4 => ?_)
    refine ok_iadd (q := 271) dX12_solveLayer_270 rfl h_4 ?_
    refine ok_putI (q := 274) (ci := 12) (k := 23) dX12_solveLayer_271 rfl fo_X12_225 h_3 ft_12_23 ff_12_23 (fun I_5 => ?_)
    refine ok_aload_n (q := 275) 0 dX12_solveLayer_274 rfl rfl rfl ?_
    refine ok_iload_n (q := 276) 2 dX12_solveLayer_275 rfl rfl rfl ?_
    refine ok_putI (q := 279) (ci := 12) (k := 24) dX12_solveLayer_276 rfl fo_X12_238 h_3 ft_12_24 ff_12_24 (fun I_6 => ?_)
    exact fi_returnA dX12_solveLayer_279 rfl
  · skip
    refine ok_aload_n (q := 186) 0 dX12_solveLayer_185 rfl rfl rfl ?_
    refine ok_iload_n (q := 187) 1 dX12_solveLayer_186 rfl rfl rfl ?_
    refine ok_iload_n (q := 188) 2 dX12_solveLayer_187 rfl rfl rfl ?_
    refine fi_chk (fun h_7 => ?_)
    refine fi_callV1A (q := 191) (as := [qi x1, qi x2]) (st := []) dX12_solveLayer_188 rfl mo_X12_234 h_7 rfl (Nat.le_of_ble_eq_true rfl) rfl rfl (Nat.le_of_ble_eq_true rfl) (Nat.le_of_ble_eq_true rfl) (Nat.le_of_ble_eq_true rfl) (Nat.le_refl _) (Nat.le_refl _) (fun _ hr => ct_X12_round (N := N) h_7 hr) (fun v_8 n_9 K_10 I_11 F_12 c_13 z_14 hc_15 hz_16 => ?_)
    refine ok_istore (q := 193) (ls' := [(6, qi v_8), (0, qr a0), (1, qi x1), (2, qi x2), (4, qi x4), (5, qi x5)]) dX12_solveLayer_191 rfl (Nat.le_of_ble_eq_true rfl) rfl ?_
    refine ok_iconst (q := 194) (x := 0) dX12_solveLayer_193 rfl rfl (by decide) ?_
    refine ok_istore (q := 196) (ls' := [(7, qi 0), (6, qi v_8), (0, qr a0), (1, qi x1), (2, qi x2), (4, qi x4), (5, qi x5)]) dX12_solveLayer_194 rfl (Nat.le_of_ble_eq_true rfl) rfl ?_
    exact fun g => ok_pick [2, 3, 4, 5, 6, 0] rfl (w_X12_solveLayer_h196 (N := N) H180 N _ _ _ _ _ _ _ _ _ _ _ g)
def X12_solveLayer_h180 (N : Nat) (a0 : Nat) : Nat → Nat → am_K → am_I → am_F → Nat → Nat → Int → Int → Int → Int → Option am_A := am_it (fun kh => X12_solveLayer_s180 N a0 kh) (fun _ _ _ _ _ _ _ _ _ _ => none)
theorem w_X12_solveLayer_h180 {η : am_E} {l : Launch} {N : Nat}  {a0 : Nat} {r0 : am_A} (f : Nat) : ∀ (n : Nat) (K : am_K) (I : am_I) (F : am_F) (c : Nat) (z : Nat) (x1 : Int) (x2 : Int) (x4 : Int) (x5 : Int), X12_solveLayer_h180 N a0 f n K I F c z x1 x2 x4 x5 = some r0 → Ok η l (M_X12_solveLayer (am_ac1 r0) (am_az1 r0)) (am_qm η (am_pA 0 r0) (am_ac1 r0) (am_az1 r0)) 180 [(0, qr a0), (1, qi x1), (2, qi x2), (4, qi x4), (5, qi x5)] [] n K I F c z := by
  induction f with
  | zero => intro n K I F c z x1 x2 x4 x5 g; exact fi_none g
  | succ f ih => intro n K I F c z x1 x2 x4 x5 g; exact w_X12_solveLayer_s180 (N := N) ih g
def X12_solveLayer_b168 (N : Nat) (a0 : Nat) (k141 : Nat → am_K → am_I → am_F → Nat → Nat → Int → Int → Int → Int → Option am_A) (n : Nat) (K : am_K) (I : am_I) (F : am_F) (c z : Nat) (x1 : Int) (x2 : Int) (x5 : Int) (s0 : Int) (s1 : Int) : Option am_A :=
  am_mo c z (if am_inI (s1 + s0) then am_lt (s1 + s0) (fun x4_4 => if am_inI (x5 + 1) then am_lt (x5 + 1) (fun x5_6 => k141 n K I F c z x1 x2 x4_4 x5_6) else none) else none)
theorem w_X12_solveLayer_b168 {η : am_E} {l : Launch} {N : Nat} {n : Nat} {K : am_K} {I : am_I} {F : am_F} {c z : Nat} {a0 : Nat} {r0 : am_A} {k141 : Nat → am_K → am_I → am_F → Nat → Nat → Int → Int → Int → Int → Option am_A} {x1 : Int} {x2 : Int} {x5 : Int} {s0 : Int} {s1 : Int} (H141 : ∀ (n : Nat) (K : am_K) (I : am_I) (F : am_F) (c : Nat) (z : Nat) (x1 : Int) (x2 : Int) (x4 : Int) (x5 : Int), k141 n K I F c z x1 x2 x4 x5 = some r0 → Ok η l (M_X12_solveLayer (am_ac1 r0) (am_az1 r0)) (am_qm η (am_pA 0 r0) (am_ac1 r0) (am_az1 r0)) 141 [(0, qr a0), (1, qi x1), (2, qi x2), (4, qi x4), (5, qi x5)] [] n K I F c z) : X12_solveLayer_b168 N a0 k141 n K I F c z x1 x2 x5 s0 s1 = some r0 → Ok η l (M_X12_solveLayer (am_ac1 r0) (am_az1 r0)) (am_qm η (am_pA 0 r0) (am_ac1 r0) (am_az1 r0)) 168 [(0, qr a0), (1, qi x1), (2, qi x2), (5, qi x5)] [qi s0, qi s1] n K I F c z := by
  unfold X12_solveLayer_b168
  refine fi_mo (fun hc_1 hz_2 => ?_)
  refine fi_chk (fun h_3 => ?_)
  refine ok_iadd (q := 169) dX12_solveLayer_168 rfl h_3 ?_
  refine ok_istoreL (q := 171) (fun x4_4 => [(4, qi x4_4), (0, qr a0), (1, qi x1), (2, qi x2), (5, qi x5)]) dX12_solveLayer_169 rfl (Nat.le_of_ble_eq_true rfl) (fun _ => rfl) (fun x4_4 => ?_)
  refine fi_chk (fun h_5 => ?_)
  refine ok_iincL (q := 174) (fun x5_6 => [(5, qi x5_6), (4, qi x4_4), (0, qr a0), (1, qi x1), (2, qi x2)]) 4 dX12_solveLayer_171 rfl rfl h_5 (Nat.le_of_ble_eq_true rfl) (fun _ => rfl) (fun x5_6 => ?_)
  refine ok_goto (q := 141) dX12_solveLayer_174 rfl ?_
  exact fun g => ok_pick [2, 3, 4, 1, 0] rfl (H141 _ _ _ _ _ _ _ _ _ _ g)
def X12_solveLayer_s141 (N : Nat) (a0 : Nat) (k141 : Nat → am_K → am_I → am_F → Nat → Nat → Int → Int → Int → Int → Option am_A) (n : Nat) (K : am_K) (I : am_I) (F : am_F) (c z : Nat) (x1 : Int) (x2 : Int) (x4 : Int) (x5 : Int) : Option am_A :=
  am_mo c z (if am_inI (x2 - x1) then if x5 < (x2 - x1) then (if (K a0).1 = 12 then if am_inI (x1 + x5) then if (K (F a0 26)).1 = 100 then if (0 : Int) ≤ (x1 + x5) ∧ (x1 + x5) < (K (F a0 26)).2 then if (I (F a0 26) (x1 + x5)) < 0 then (X12_solveLayer_b168 N a0 k141 n K I F c z x1 x2 x5 1 x4) else (X12_solveLayer_b168 N a0 k141 n K I F c z x1 x2 x5 0 x4) else none else none else none else none) else (X12_solveLayer_h180 N a0 N n K I F c z x1 x2 x4 1) else none)
theorem w_X12_solveLayer_s141 {η : am_E} {l : Launch} {N : Nat} {n : Nat} {K : am_K} {I : am_I} {F : am_F} {c z : Nat} {a0 : Nat} {r0 : am_A} {k141 : Nat → am_K → am_I → am_F → Nat → Nat → Int → Int → Int → Int → Option am_A} {x1 : Int} {x2 : Int} {x4 : Int} {x5 : Int} (H141 : ∀ (n : Nat) (K : am_K) (I : am_I) (F : am_F) (c : Nat) (z : Nat) (x1 : Int) (x2 : Int) (x4 : Int) (x5 : Int), k141 n K I F c z x1 x2 x4 x5 = some r0 → Ok η l (M_X12_solveLayer (am_ac1 r0) (am_az1 r0)) (am_qm η (am_pA 0 r0) (am_ac1 r0) (am_az1 r0)) 141 [(0, qr a0), (1, qi x1), (2, qi x2), (4, qi x4), (5, qi x5)] [] n K I F c z) : X12_solveLayer_s141 N a0 k141 n K I F c z x1 x2 x4 x5 = some r0 → Ok η l (M_X12_solveLayer (am_ac1 r0) (am_az1 r0)) (am_qm η (am_pA 0 r0) (am_ac1 r0) (am_az1 r0)) 141 [(0, qr a0), (1, qi x1), (2, qi x2), (4, qi x4), (5, qi x5)] [] n K I F c z := by
  unfold X12_solveLayer_s141
  refine fi_mo (fun hc_1 hz_2 => ?_)
  refine ok_iload (q := 143) 4 dX12_solveLayer_141 rfl rfl ?_
  refine ok_iload_n (q := 144) 2 dX12_solveLayer_143 rfl rfl rfl ?_
  refine ok_iload_n (q := 145) 1 dX12_solveLayer_144 rfl rfl rfl ?_
  refine fi_chk (fun h_3 => ?_)
  refine ok_isub (q := 146) dX12_solveLayer_145 rfl h_3 ?_
  refine ok_icmp_ge (q := 177) (q2 := 149) dX12_solveLayer_146 rfl rfl ?_ ?_
  · skip
    refine ok_iconst (q := 178) (x := 1) dX12_solveLayer_177 rfl rfl (by decide) ?_
    refine ok_istore (q := 180) (ls' := [(5, qi 1), (0, qr a0), (1, qi x1), (2, qi x2), (4, qi x4)]) dX12_solveLayer_178 rfl (Nat.le_of_ble_eq_true rfl) rfl ?_
    exact fun g => ok_pick [1, 2, 3, 4, 0] rfl (w_X12_solveLayer_h180 (N := N) N _ _ _ _ _ _ _ _ _ _ g)
  · skip
    refine ok_iload (q := 151) 3 dX12_solveLayer_149 rfl rfl ?_
    refine ok_aload_n (q := 152) 0 dX12_solveLayer_151 rfl rfl rfl ?_
    refine fi_chk (fun h_4 => ?_)
    refine ok_getR (q := 155) (ci := 12) (k := 26) (x := F a0 26) dX12_solveLayer_152 rfl fo_X12_36 h_4 rfl ?_
    refine ok_iload_n (q := 156) 1 dX12_solveLayer_155 rfl rfl rfl ?_
    refine ok_iload (q := 158) 4 dX12_solveLayer_156 rfl rfl ?_
    refine fi_chk (fun h_5 => ?_)
    refine ok_iadd (q := 159) dX12_solveLayer_158 rfl h_5 ?_
    refine fi_chk (fun h_6 => ?_)
    refine fi_chk (fun h_7 => ?_)
    refine ok_iaload (q := 160) (v := I (F a0 26) (x1 + x5)) dX12_solveLayer_159 rfl h_6 h_7.1 h_7.2 rfl ?_
    refine ok_if_ge (q := 167) (q2 := 163) dX12_solveLayer_160 rfl rfl ?_ ?_
    · skip
      refine ok_iconst (q := 168) (x := 0) dX12_solveLayer_167 rfl rfl (by decide) ?_
      exact fun g => ok_pick [0, 1, 2, 4] rfl (w_X12_solveLayer_b168 (N := N) H141 g)
    · skip
      refine ok_iconst (q := 164) (x := 1) dX12_solveLayer_163 rfl rfl (by decide) ?_
      refine ok_goto (q := 168) dX12_solveLayer_164 rfl ?_
      exact fun g => ok_pick [0, 1, 2, 4] rfl (w_X12_solveLayer_b168 (N := N) H141 g)
def X12_solveLayer_h141 (N : Nat) (a0 : Nat) : Nat → Nat → am_K → am_I → am_F → Nat → Nat → Int → Int → Int → Int → Option am_A := am_it (fun kh => X12_solveLayer_s141 N a0 kh) (fun _ _ _ _ _ _ _ _ _ _ => none)
theorem w_X12_solveLayer_h141 {η : am_E} {l : Launch} {N : Nat}  {a0 : Nat} {r0 : am_A} (f : Nat) : ∀ (n : Nat) (K : am_K) (I : am_I) (F : am_F) (c : Nat) (z : Nat) (x1 : Int) (x2 : Int) (x4 : Int) (x5 : Int), X12_solveLayer_h141 N a0 f n K I F c z x1 x2 x4 x5 = some r0 → Ok η l (M_X12_solveLayer (am_ac1 r0) (am_az1 r0)) (am_qm η (am_pA 0 r0) (am_ac1 r0) (am_az1 r0)) 141 [(0, qr a0), (1, qi x1), (2, qi x2), (4, qi x4), (5, qi x5)] [] n K I F c z := by
  induction f with
  | zero => intro n K I F c z x1 x2 x4 x5 g; exact fi_none g
  | succ f ih => intro n K I F c z x1 x2 x4 x5 g; exact w_X12_solveLayer_s141 (N := N) ih g
def X12_solveLayer_b121 (N : Nat) (a0 : Nat) (k65 : Nat → am_K → am_I → am_F → Nat → Nat → Int → Int → Int → Option am_A) (n : Nat) (K : am_K) (I : am_I) (F : am_F) (c z : Nat) (x1 : Int) (x2 : Int) (x4 : Int) (s0 : Int) (s1 : Int) (t2 : Nat) : Option am_A :=
  am_mo c z (if (K t2).1 = 100 then if t2 ≠ 1 then if (0 : Int) ≤ s1 ∧ s1 < (K t2).2 then am_lt (am_u2 I t2 s1 s0) (fun I_6 => if am_inI (x4 + 1) then am_lt (x4 + 1) (fun x4_8 => k65 n K I_6 F c z x1 x2 x4_8) else none) else none else none else none)
theorem w_X12_solveLayer_b121 {η : am_E} {l : Launch} {N : Nat} {n : Nat} {K : am_K} {I : am_I} {F : am_F} {c z : Nat} {a0 : Nat} {r0 : am_A} {k65 : Nat → am_K → am_I → am_F → Nat → Nat → Int → Int → Int → Option am_A} {x1 : Int} {x2 : Int} {x4 : Int} {s0 : Int} {s1 : Int} {t2 : Nat} (H65 : ∀ (n : Nat) (K : am_K) (I : am_I) (F : am_F) (c : Nat) (z : Nat) (x1 : Int) (x2 : Int) (x4 : Int), k65 n K I F c z x1 x2 x4 = some r0 → Ok η l (M_X12_solveLayer (am_ac1 r0) (am_az1 r0)) (am_qm η (am_pA 0 r0) (am_ac1 r0) (am_az1 r0)) 65 [(0, qr a0), (1, qi x1), (2, qi x2), (4, qi x4)] [] n K I F c z) : X12_solveLayer_b121 N a0 k65 n K I F c z x1 x2 x4 s0 s1 t2 = some r0 → Ok η l (M_X12_solveLayer (am_ac1 r0) (am_az1 r0)) (am_qm η (am_pA 0 r0) (am_ac1 r0) (am_az1 r0)) 121 [(0, qr a0), (1, qi x1), (2, qi x2), (4, qi x4)] [qi s0, qi s1, qr t2] n K I F c z := by
  unfold X12_solveLayer_b121
  refine fi_mo (fun hc_1 hz_2 => ?_)
  refine fi_chk (fun h_3 => ?_)
  refine fi_chk (fun h_4 => ?_)
  refine fi_chk (fun h_5 => ?_)
  refine ok_iastore (q := 122) dX12_solveLayer_121 rfl h_3 h_4 h_5.1 h_5.2 (fun I_6 => ?_)
  refine fi_chk (fun h_7 => ?_)
  refine ok_iincL (q := 125) (fun x4_8 => [(4, qi x4_8), (0, qr a0), (1, qi x1), (2, qi x2)]) 3 dX12_solveLayer_122 rfl rfl h_7 (Nat.le_of_ble_eq_true rfl) (fun _ => rfl) (fun x4_8 => ?_)
  refine ok_goto (q := 65) dX12_solveLayer_125 rfl ?_
  exact fun g => ok_pick [1, 2, 3, 0] rfl (H65 _ _ _ _ _ _ _ _ _ g)
def X12_solveLayer_b116 (N : Nat) (a0 : Nat) (k65 : Nat → am_K → am_I → am_F → Nat → Nat → Int → Int → Int → Option am_A) (n : Nat) (K : am_K) (I : am_I) (F : am_F) (c z : Nat) (x1 : Int) (x2 : Int) (x4 : Int) (s0 : Int) (t1 : Nat) : Option am_A :=
  am_mo c z (X12_solveLayer_b121 N a0 k65 n K I F c z x1 x2 x4 0 s0 t1)
theorem w_X12_solveLayer_b116 {η : am_E} {l : Launch} {N : Nat} {n : Nat} {K : am_K} {I : am_I} {F : am_F} {c z : Nat} {a0 : Nat} {r0 : am_A} {k65 : Nat → am_K → am_I → am_F → Nat → Nat → Int → Int → Int → Option am_A} {x1 : Int} {x2 : Int} {x4 : Int} {s0 : Int} {t1 : Nat} (H65 : ∀ (n : Nat) (K : am_K) (I : am_I) (F : am_F) (c : Nat) (z : Nat) (x1 : Int) (x2 : Int) (x4 : Int), k65 n K I F c z x1 x2 x4 = some r0 → Ok η l (M_X12_solveLayer (am_ac1 r0) (am_az1 r0)) (am_qm η (am_pA 0 r0) (am_ac1 r0) (am_az1 r0)) 65 [(0, qr a0), (1, qi x1), (2, qi x2), (4, qi x4)] [] n K I F c z) : X12_solveLayer_b116 N a0 k65 n K I F c z x1 x2 x4 s0 t1 = some r0 → Ok η l (M_X12_solveLayer (am_ac1 r0) (am_az1 r0)) (am_qm η (am_pA 0 r0) (am_ac1 r0) (am_az1 r0)) 116 [(0, qr a0), (1, qi x1), (2, qi x2), (4, qi x4)] [qi s0, qr t1] n K I F c z := by
  unfold X12_solveLayer_b116
  refine fi_mo (fun hc_1 hz_2 => ?_)
  refine ok_iconst (q := 117) (x := 0) dX12_solveLayer_116 rfl rfl (by decide) ?_
  refine ok_goto (q := 121) dX12_solveLayer_117 rfl ?_
  exact fun g => ok_pick [0, 1, 2, 3] rfl (w_X12_solveLayer_b121 (N := N) H65 g)
def X12_solveLayer_s65 (N : Nat) (a0 : Nat) (k65 : Nat → am_K → am_I → am_F → Nat → Nat → Int → Int → Int → Option am_A) (n : Nat) (K : am_K) (I : am_I) (F : am_F) (c z : Nat) (x1 : Int) (x2 : Int) (x4 : Int) : Option am_A :=
  am_mo c z (if am_inI (x2 - x1) then if x4 < (x2 - x1) then (if (K a0).1 = 12 then if am_inI (x1 + x4) then if (K (F a0 33)).1 = 100 then if (0 : Int) ≤ x4 ∧ x4 < (K (F a0 33)).2 then if (K (F a0 25)).1 = 100 then if F a0 25 ≠ 1 then if (0 : Int) ≤ (x1 + x4) ∧ (x1 + x4) < (K (F a0 25)).2 then am_lt (am_u2 I (F a0 25) (x1 + x4) (I (F a0 33) x4)) (fun I_13 => if (I_13 (F a0 33) x4) = 0 then (X12_solveLayer_b116 N a0 k65 n K I_13 F c z x1 x2 x4 (x1 + x4) (F a0 26)) else (am_cq (X12_isEnd N K F I_13 a0 x4) (fun v_14 => if v_14 = 0 then (X12_solveLayer_b121 N a0 k65 n K I_13 F c z x1 x2 x4 (-1) (x1 + x4) (F a0 26)) else (X12_solveLayer_b116 N a0 k65 n K I_13 F c z x1 x2 x4 (x1 + x4) (F a0 26))))) else none else none else none else none else none else none else none) else (if (K a0).1 = 12 then am_cl (X12_start N K F a0 I (x2 - x1)) (fun _ I_5 => X12_solveLayer_h141 N a0 N n K I_5 F c z x1 x2 0 0) else none) else none)
theorem w_X12_solveLayer_s65 {η : am_E} {l : Launch} {N : Nat} {n : Nat} {K : am_K} {I : am_I} {F : am_F} {c z : Nat} {a0 : Nat} {r0 : am_A} {k65 : Nat → am_K → am_I → am_F → Nat → Nat → Int → Int → Int → Option am_A} {x1 : Int} {x2 : Int} {x4 : Int} (H65 : ∀ (n : Nat) (K : am_K) (I : am_I) (F : am_F) (c : Nat) (z : Nat) (x1 : Int) (x2 : Int) (x4 : Int), k65 n K I F c z x1 x2 x4 = some r0 → Ok η l (M_X12_solveLayer (am_ac1 r0) (am_az1 r0)) (am_qm η (am_pA 0 r0) (am_ac1 r0) (am_az1 r0)) 65 [(0, qr a0), (1, qi x1), (2, qi x2), (4, qi x4)] [] n K I F c z) : X12_solveLayer_s65 N a0 k65 n K I F c z x1 x2 x4 = some r0 → Ok η l (M_X12_solveLayer (am_ac1 r0) (am_az1 r0)) (am_qm η (am_pA 0 r0) (am_ac1 r0) (am_az1 r0)) 65 [(0, qr a0), (1, qi x1), (2, qi x2), (4, qi x4)] [] n K I F c z := by
  unfold X12_solveLayer_s65
  refine fi_mo (fun hc_1 hz_2 => ?_)
  refine ok_iload (q := 67) 3 dX12_solveLayer_65 rfl rfl ?_
  refine ok_iload_n (q := 68) 2 dX12_solveLayer_67 rfl rfl rfl ?_
  refine ok_iload_n (q := 69) 1 dX12_solveLayer_68 rfl rfl rfl ?_
  refine fi_chk (fun h_3 => ?_)
  refine ok_isub (q := 70) dX12_solveLayer_69 rfl h_3 ?_
  refine ok_icmp_ge (q := 128) (q2 := 73) dX12_solveLayer_70 rfl rfl ?_ ?_
  · skip
    refine ok_aload_n (q := 129) 0 dX12_solveLayer_128 rfl rfl rfl ?_
    refine ok_iload_n (q := 130) 2 dX12_solveLayer_129 rfl rfl rfl ?_
    refine ok_iload_n (q := 131) 1 dX12_solveLayer_130 rfl rfl rfl ?_
    refine ok_isub (q := 132) dX12_solveLayer_131 rfl h_3 ?_
    refine fi_chk (fun h_4 => ?_)
    refine fi_callV0S (q := 135) (as := [qi (x2 - x1)]) (st := []) dX12_solveLayer_132 rfl mo_X12_231 h_4 rfl (Nat.le_of_ble_eq_true rfl) rfl rfl (Nat.le_of_ble_eq_true rfl) (Nat.le_of_ble_eq_true rfl) (Nat.le_of_ble_eq_true rfl) hc_1 hz_2 (fun _ hr => ct_X12_start (N := N) h_4 hr) (fun _ I_5 => ?_)
    refine ok_iconst (q := 136) (x := 0) dX12_solveLayer_135 rfl rfl (by decide) ?_
    refine ok_istore (q := 138) (ls' := [(4, qi 0), (0, qr a0), (1, qi x1), (2, qi x2)]) dX12_solveLayer_136 rfl (Nat.le_of_ble_eq_true rfl) rfl ?_
    refine ok_iconst (q := 139) (x := 0) dX12_solveLayer_138 rfl rfl (by decide) ?_
    refine ok_istore (q := 141) (ls' := [(5, qi 0), (4, qi 0), (0, qr a0), (1, qi x1), (2, qi x2)]) dX12_solveLayer_139 rfl (Nat.le_of_ble_eq_true rfl) rfl ?_
    exact fun g => ok_pick [2, 3, 4, 1, 0] rfl (w_X12_solveLayer_h141 (N := N) N _ _ _ _ _ _ _ _ _ _ g)
  · skip
    refine ok_aload_n (q := 74) 0 dX12_solveLayer_73 rfl rfl rfl ?_
    refine fi_chk (fun h_6 => ?_)
    refine ok_getR (q := 77) (ci := 12) (k := 25) (x := F a0 25) dX12_solveLayer_74 rfl fo_X12_33 h_6 rfl ?_
    refine ok_iload_n (q := 78) 1 dX12_solveLayer_77 rfl rfl rfl ?_
    refine ok_iload (q := 80) 3 dX12_solveLayer_78 rfl rfl ?_
    refine fi_chk (fun h_7 => ?_)
    refine ok_iadd (q := 81) dX12_solveLayer_80 rfl h_7 ?_
    refine ok_aload_n (q := 82) 0 dX12_solveLayer_81 rfl rfl rfl ?_
    refine ok_getR (q := 85) (ci := 12) (k := 33) (x := F a0 33) dX12_solveLayer_82 rfl fo_X12_59 h_6 rfl ?_
    refine ok_iload (q := 87) 3 dX12_solveLayer_85 rfl rfl ?_
    refine fi_chk (fun h_8 => ?_)
    refine fi_chk (fun h_9 => ?_)
    refine ok_iaload (q := 88) (v := I (F a0 33) x4) dX12_solveLayer_87 rfl h_8 h_9.1 h_9.2 rfl ?_
    refine fi_chk (fun h_10 => ?_)
    refine fi_chk (fun h_11 => ?_)
    refine fi_chk (fun h_12 => ?_)
    refine ok_iastore (q := 89) dX12_solveLayer_88 rfl h_10 h_11 h_12.1 h_12.2 (fun I_13 => ?_)
    refine ok_aload_n (q := 90) 0 dX12_solveLayer_89 rfl rfl rfl ?_
    refine ok_getR (q := 93) (ci := 12) (k := 26) (x := F a0 26) dX12_solveLayer_90 rfl fo_X12_36 h_6 rfl ?_
    refine ok_iload_n (q := 94) 1 dX12_solveLayer_93 rfl rfl rfl ?_
    refine ok_iload (q := 96) 3 dX12_solveLayer_94 rfl rfl ?_
    refine ok_iadd (q := 97) dX12_solveLayer_96 rfl h_7 ?_
    refine ok_aload_n (q := 98) 0 dX12_solveLayer_97 rfl rfl rfl ?_
    refine ok_getR (q := 101) (ci := 12) (k := 33) (x := F a0 33) dX12_solveLayer_98 rfl fo_X12_59 h_6 rfl ?_
    refine ok_iload (q := 103) 3 dX12_solveLayer_101 rfl rfl ?_
    refine ok_iaload (q := 104) (v := I_13 (F a0 33) x4) dX12_solveLayer_103 rfl h_8 h_9.1 h_9.2 rfl ?_
    refine ok_if_eq (q := 116) (q2 := 107) dX12_solveLayer_104 rfl rfl ?_ ?_
    · skip
      exact fun g => ok_pick [0, 1, 2, 3] rfl (w_X12_solveLayer_b116 (N := N) H65 g)
    · skip
      refine ok_aload_n (q := 108) 0 dX12_solveLayer_107 rfl rfl rfl ?_
      refine ok_iload (q := 110) 3 dX12_solveLayer_108 rfl rfl ?_
      refine fi_callV1P (q := 113) (as := [qi x4]) (st := [qi (x1 + x4), qr (F a0 26)]) dX12_solveLayer_110 rfl mo_X12_213 h_6 rfl (Nat.le_of_ble_eq_true rfl) rfl rfl (Nat.le_of_ble_eq_true rfl) (Nat.le_of_ble_eq_true rfl) (Nat.le_of_ble_eq_true rfl) hc_1 hz_2 (fun _ hr => ct_X12_isEnd (N := N) h_6 hr) (fun v_14 => ?_)
      refine ok_if_eq (q := 120) (q2 := 116) dX12_solveLayer_113 rfl rfl ?_ ?_
      · skip
        refine ok_iconst (q := 121) (x := -1) dX12_solveLayer_120 rfl rfl (by decide) ?_
        exact fun g => ok_pick [0, 1, 2, 3] rfl (w_X12_solveLayer_b121 (N := N) H65 g)
      · skip
        exact fun g => ok_pick [0, 1, 2, 3] rfl (w_X12_solveLayer_b116 (N := N) H65 g)
def X12_solveLayer_h65 (N : Nat) (a0 : Nat) : Nat → Nat → am_K → am_I → am_F → Nat → Nat → Int → Int → Int → Option am_A := am_it (fun kh => X12_solveLayer_s65 N a0 kh) (fun _ _ _ _ _ _ _ _ _ => none)
theorem w_X12_solveLayer_h65 {η : am_E} {l : Launch} {N : Nat}  {a0 : Nat} {r0 : am_A} (f : Nat) : ∀ (n : Nat) (K : am_K) (I : am_I) (F : am_F) (c : Nat) (z : Nat) (x1 : Int) (x2 : Int) (x4 : Int), X12_solveLayer_h65 N a0 f n K I F c z x1 x2 x4 = some r0 → Ok η l (M_X12_solveLayer (am_ac1 r0) (am_az1 r0)) (am_qm η (am_pA 0 r0) (am_ac1 r0) (am_az1 r0)) 65 [(0, qr a0), (1, qi x1), (2, qi x2), (4, qi x4)] [] n K I F c z := by
  induction f with
  | zero => intro n K I F c z x1 x2 x4 g; exact fi_none g
  | succ f ih => intro n K I F c z x1 x2 x4 g; exact w_X12_solveLayer_s65 (N := N) ih g
def X12_solveLayer_s48 (N : Nat) (a0 : Nat) (k48 : Nat → am_K → am_I → am_F → Nat → Nat → Int → Int → Int → Option am_A) (n : Nat) (K : am_K) (I : am_I) (F : am_F) (c z : Nat) (x1 : Int) (x2 : Int) (x3 : Int) : Option am_A :=
  am_mo c z (if x3 = 0 then (X12_solveLayer_h65 N a0 N n K I F c z x1 x2 0) else (if (K a0).1 = 12 then am_ca (X12_round N a0 n K I F x1 x2) (fun v_4 n_5 K_6 I_7 F_8 c_9 z_10 => am_mo (c + c_9) (z + z_10) (k48 n_5 K_6 I_7 F_8 (c + c_9) (z + z_10) x1 x2 v_4)) else none))
theorem w_X12_solveLayer_s48 {η : am_E} {l : Launch} {N : Nat} {n : Nat} {K : am_K} {I : am_I} {F : am_F} {c z : Nat} {a0 : Nat} {r0 : am_A} {k48 : Nat → am_K → am_I → am_F → Nat → Nat → Int → Int → Int → Option am_A} {x1 : Int} {x2 : Int} {x3 : Int} (H48 : ∀ (n : Nat) (K : am_K) (I : am_I) (F : am_F) (c : Nat) (z : Nat) (x1 : Int) (x2 : Int) (x3 : Int), k48 n K I F c z x1 x2 x3 = some r0 → Ok η l (M_X12_solveLayer (am_ac1 r0) (am_az1 r0)) (am_qm η (am_pA 0 r0) (am_ac1 r0) (am_az1 r0)) 48 [(0, qr a0), (1, qi x1), (2, qi x2), (3, qi x3)] [] n K I F c z) : X12_solveLayer_s48 N a0 k48 n K I F c z x1 x2 x3 = some r0 → Ok η l (M_X12_solveLayer (am_ac1 r0) (am_az1 r0)) (am_qm η (am_pA 0 r0) (am_ac1 r0) (am_az1 r0)) 48 [(0, qr a0), (1, qi x1), (2, qi x2), (3, qi x3)] [] n K I F c z := by
  unfold X12_solveLayer_s48
  refine fi_mo (fun hc_1 hz_2 => ?_)
  refine ok_iload_n (q := 49) 3 dX12_solveLayer_48 rfl rfl rfl ?_
  refine ok_if_eq (q := 62) (q2 := 52) dX12_solveLayer_49 rfl rfl ?_ ?_
  · skip
    refine ok_iconst (q := 63) (x := 0) dX12_solveLayer_62 rfl rfl (by decide) ?_
    refine ok_istore (q := 65) (ls' := [(4, qi 0), (0, qr a0), (1, qi x1), (2, qi x2), (3, qi x3)]) dX12_solveLayer_63 rfl (Nat.le_of_ble_eq_true rfl) rfl ?_
    exact fun g => ok_pick [1, 2, 3, 0] rfl (w_X12_solveLayer_h65 (N := N) N _ _ _ _ _ _ _ _ _ g)
  · skip
    refine ok_aload_n (q := 53) 0 dX12_solveLayer_52 rfl rfl rfl ?_
    refine ok_iload_n (q := 54) 1 dX12_solveLayer_53 rfl rfl rfl ?_
    refine ok_iload_n (q := 55) 2 dX12_solveLayer_54 rfl rfl rfl ?_
    refine fi_chk (fun h_3 => ?_)
    refine fi_callV1A (q := 58) (as := [qi x1, qi x2]) (st := []) dX12_solveLayer_55 rfl mo_X12_234 h_3 rfl (Nat.le_of_ble_eq_true rfl) rfl rfl (Nat.le_of_ble_eq_true rfl) (Nat.le_of_ble_eq_true rfl) (Nat.le_of_ble_eq_true rfl) (Nat.le_refl _) (Nat.le_refl _) (fun _ hr => ct_X12_round (N := N) h_3 hr) (fun v_4 n_5 K_6 I_7 F_8 c_9 z_10 hc_11 hz_12 => ?_)
    refine ok_istore_n (q := 59) (ls' := [(3, qi v_4), (0, qr a0), (1, qi x1), (2, qi x2)]) dX12_solveLayer_58 rfl rfl (Nat.le_of_ble_eq_true rfl) rfl ?_
    refine ok_goto (q := 48) dX12_solveLayer_59 rfl ?_
    exact fun g => ok_pick [1, 2, 3, 0] rfl (H48 _ _ _ _ _ _ _ _ _ g)
def X12_solveLayer_h48 (N : Nat) (a0 : Nat) : Nat → Nat → am_K → am_I → am_F → Nat → Nat → Int → Int → Int → Option am_A := am_it (fun kh => X12_solveLayer_s48 N a0 kh) (fun _ _ _ _ _ _ _ _ _ => none)
theorem w_X12_solveLayer_h48 {η : am_E} {l : Launch} {N : Nat}  {a0 : Nat} {r0 : am_A} (f : Nat) : ∀ (n : Nat) (K : am_K) (I : am_I) (F : am_F) (c : Nat) (z : Nat) (x1 : Int) (x2 : Int) (x3 : Int), X12_solveLayer_h48 N a0 f n K I F c z x1 x2 x3 = some r0 → Ok η l (M_X12_solveLayer (am_ac1 r0) (am_az1 r0)) (am_qm η (am_pA 0 r0) (am_ac1 r0) (am_az1 r0)) 48 [(0, qr a0), (1, qi x1), (2, qi x2), (3, qi x3)] [] n K I F c z := by
  induction f with
  | zero => intro n K I F c z x1 x2 x3 g; exact fi_none g
  | succ f ih => intro n K I F c z x1 x2 x3 g; exact w_X12_solveLayer_s48 (N := N) ih g
def X12_solveLayer_b22 (N : Nat) (a0 : Nat) (n : Nat) (K : am_K) (I : am_I) (F : am_F) (c z : Nat) (s0 : Int) : Option am_A :=
  am_mo c z (if (K a0).1 = 12 then am_cq (X12_placesTo N K F I a0 (I a0 23)) (fun v_4 => if am_inI (v_4) then am_cl (X12_gather N K F a0 I s0 v_4) (fun _ I_6 => if am_inI (v_4 - s0) then am_cl (X12_start N K F a0 I_6 (v_4 - s0)) (fun _ I_8 => X12_solveLayer_h48 N a0 N n K I_8 F c z s0 v_4 1) else none) else none) else none)
theorem w_X12_solveLayer_b22 {η : am_E} {l : Launch} {N : Nat} {n : Nat} {K : am_K} {I : am_I} {F : am_F} {c z : Nat} {a0 : Nat} {r0 : am_A} {s0 : Int} : X12_solveLayer_b22 N a0 n K I F c z s0 = some r0 → Ok η l (M_X12_solveLayer (am_ac1 r0) (am_az1 r0)) (am_qm η (am_pA 0 r0) (am_ac1 r0) (am_az1 r0)) 22 [(0, qr a0)] [qi s0] n K I F c z := by
  unfold X12_solveLayer_b22
  refine fi_mo (fun hc_1 hz_2 => ?_)
  refine ok_istore_n (q := 23) (ls' := [(1, qi s0), (0, qr a0)]) dX12_solveLayer_22 rfl rfl (Nat.le_of_ble_eq_true rfl) rfl ?_
  refine ok_aload_n (q := 24) 1 dX12_solveLayer_23 rfl rfl rfl ?_
  refine ok_aload_n (q := 25) 1 dX12_solveLayer_24 rfl rfl rfl ?_
  refine fi_chk (fun h_3 => ?_)
  refine ok_getI (q := 28) (ci := 12) (k := 23) (x := I a0 23) dX12_solveLayer_25 rfl fo_X12_225 h_3 rfl ?_
  refine fi_callV2P (q := 31) (as := [qi (I a0 23)]) (st := []) dX12_solveLayer_28 rfl mo_X12_193 h_3 rfl (Nat.le_of_ble_eq_true rfl) rfl rfl (Nat.le_of_ble_eq_true rfl) (Nat.le_of_ble_eq_true rfl) (Nat.le_of_ble_eq_true rfl) hc_1 hz_2 (fun _ hr => ct_X12_placesTo (N := N) h_3 hr) (fun v_4 => ?_)
  refine fi_chk (fun h_5 => ?_)
  refine ok_l2i (q := 32) dX12_solveLayer_31 rfl h_5 ?_
  refine ok_istore_n (q := 33) (ls' := [(2, qi v_4), (1, qi s0), (0, qr a0)]) dX12_solveLayer_32 rfl rfl (Nat.le_of_ble_eq_true rfl) rfl ?_
  refine ok_aload_n (q := 34) 2 dX12_solveLayer_33 rfl rfl rfl ?_
  refine ok_iload_n (q := 35) 1 dX12_solveLayer_34 rfl rfl rfl ?_
  refine ok_iload_n (q := 36) 0 dX12_solveLayer_35 rfl rfl rfl ?_
  refine fi_callV0S (q := 39) (as := [qi s0, qi v_4]) (st := []) dX12_solveLayer_36 rfl mo_X12_228 h_3 rfl (Nat.le_of_ble_eq_true rfl) rfl rfl (Nat.le_of_ble_eq_true rfl) (Nat.le_of_ble_eq_true rfl) (Nat.le_of_ble_eq_true rfl) hc_1 hz_2 (fun _ hr => ct_X12_gather (N := N) h_3 hr) (fun _ I_6 => ?_)
  refine ok_aload_n (q := 40) 2 dX12_solveLayer_39 rfl rfl rfl ?_
  refine ok_iload_n (q := 41) 0 dX12_solveLayer_40 rfl rfl rfl ?_
  refine ok_iload_n (q := 42) 1 dX12_solveLayer_41 rfl rfl rfl ?_
  refine fi_chk (fun h_7 => ?_)
  refine ok_isub (q := 43) dX12_solveLayer_42 rfl h_7 ?_
  refine fi_callV0S (q := 46) (as := [qi (v_4 - s0)]) (st := []) dX12_solveLayer_43 rfl mo_X12_231 h_3 rfl (Nat.le_of_ble_eq_true rfl) rfl rfl (Nat.le_of_ble_eq_true rfl) (Nat.le_of_ble_eq_true rfl) (Nat.le_of_ble_eq_true rfl) hc_1 hz_2 (fun _ hr => ct_X12_start (N := N) h_3 hr) (fun _ I_8 => ?_)
  refine ok_iconst (q := 47) (x := 1) dX12_solveLayer_46 rfl rfl (by decide) ?_
  refine ok_istore_n (q := 48) (ls' := [(3, qi 1), (2, qi v_4), (1, qi s0), (0, qr a0)]) dX12_solveLayer_47 rfl rfl (Nat.le_of_ble_eq_true rfl) rfl ?_
  exact fun g => ok_pick [3, 2, 1, 0] rfl (w_X12_solveLayer_h48 (N := N) N _ _ _ _ _ _ _ _ _ g)
def X12_solveLayer (N : Nat) (a0 : Nat) (n : Nat) (K : am_K) (I : am_I) (F : am_F) : Option am_A :=
  if (I a0 23) = 0 then (X12_solveLayer_b22 N a0 n K I F 0 0 0) else (if am_inI ((I a0 23) - 1) then am_cq (X12_placesTo N K F I a0 ((I a0 23) - 1)) (fun v_2 => if am_inI (v_2) then X12_solveLayer_b22 N a0 n K I F 0 0 v_2 else none) else none)
theorem w_X12_solveLayer {η : am_E} {l : Launch} {N : Nat} {n : Nat} {K : am_K} {I : am_I} {F : am_F} {a0 : Nat} {r0 : am_A} (h0 : (K a0).1 = 12) : X12_solveLayer N a0 n K I F = some r0 → Ok η l (M_X12_solveLayer (am_ac1 r0) (am_az1 r0)) (am_qm η (am_pA 0 r0) (am_ac1 r0) (am_az1 r0)) 0 [(0, qr a0)] [] n K I F 0 0 := by
  unfold X12_solveLayer
  refine ok_aload_n (q := 1) 0 dX12_solveLayer_0 rfl rfl rfl ?_
  refine ok_getI (q := 4) (ci := 12) (k := 23) (x := I a0 23) dX12_solveLayer_1 rfl fo_X12_225 h0 rfl ?_
  refine ok_if_ne (q := 11) (q2 := 7) dX12_solveLayer_4 rfl rfl ?_ ?_
  · skip
    refine ok_aload_n (q := 12) 0 dX12_solveLayer_11 rfl rfl rfl ?_
    refine ok_aload_n (q := 13) 0 dX12_solveLayer_12 rfl rfl rfl ?_
    refine ok_getI (q := 16) (ci := 12) (k := 23) (x := I a0 23) dX12_solveLayer_13 rfl fo_X12_225 h0 rfl ?_
    refine ok_iconst (q := 17) (x := 1) dX12_solveLayer_16 rfl rfl (by decide) ?_
    refine fi_chk (fun h_1 => ?_)
    refine ok_isub (q := 18) dX12_solveLayer_17 rfl h_1 ?_
    refine fi_callV2P (q := 21) (as := [qi ((I a0 23) - 1)]) (st := []) dX12_solveLayer_18 rfl mo_X12_193 h0 rfl (Nat.le_of_ble_eq_true rfl) rfl rfl (Nat.le_of_ble_eq_true rfl) (Nat.le_of_ble_eq_true rfl) (Nat.le_of_ble_eq_true rfl) (Nat.zero_le _) (Nat.zero_le _) (fun _ hr => ct_X12_placesTo (N := N) h0 hr) (fun v_2 => ?_)
    refine fi_chk (fun h_3 => ?_)
    refine ok_l2i (q := 22) dX12_solveLayer_21 rfl h_3 ?_
    exact fun g => ok_pick [0] rfl (w_X12_solveLayer_b22 (N := N) g)
  · skip
    refine ok_iconst (q := 8) (x := 0) dX12_solveLayer_7 rfl rfl (by decide) ?_
    refine ok_goto (q := 22) dX12_solveLayer_8 rfl ?_
    exact fun g => ok_pick [0] rfl (w_X12_solveLayer_b22 (N := N) g)
theorem ct_X12_solveLayer {η : am_E} {l : Launch} {N : Nat} {n : Nat} {K : am_K} {I : am_I} {F : am_F} {a0 : Nat} {r0 : am_A} (h0 : (K a0).1 = 12) : X12_solveLayer N a0 n K I F = some r0 → am_Ct η l yX12_solveLayer cX12_solveLayer 8 none 6 146 (am_ac1 r0) (am_az1 r0) [qr a0] n K I F (am_pA 0 r0) := fun g => am_Ct.of false (by decide) (by decide) (Nat.le_of_ble_eq_true rfl) (fun _ => w_X12_solveLayer (N := N) h0 g)
def M_X12_reached : am_M := (yX12_reached.cls, cX12_reached, 3, (some .int), am_room 4 94 0 0, false)
def X12_reached (N : Nat) (K : am_K) (F : am_F) (I : am_I) (a0 : Nat) (x1 : Int) (a2 : Nat) : Option Int :=
  if am_inI (1 - x1) then am_cq (X12_placeOf N K F I a0 (F a0 16) (1 - x1)) (fun v_2 => if am_inI (v_2) then if (K a2).1 = 100 then if (0 : Int) ≤ v_2 ∧ v_2 < (K a2).2 then if am_inI ((I a0 17) - (I a2 v_2)) then some ((I a0 17) - (I a2 v_2)) else none else none else none else none) else none
theorem w_X12_reached {η : am_E} {l : Launch} {N : Nat} {n : Nat} {K : am_K} {I : am_I} {F : am_F} {a0 : Nat} {r0 : Int} {x1 : Int} {a2 : Nat} (h0 : (K a0).1 = 12) : X12_reached N K F I a0 x1 a2 = some r0 → Ok η l M_X12_reached (am_qm η (am_pS 1 (r0, I) n K F) 0 0) 0 [(0, qr a0), (1, qi x1), (2, qr a2)] [] n K I F 0 0 := by
  unfold X12_reached
  refine ok_aload_n (q := 1) 0 dX12_reached_0 rfl rfl rfl ?_
  refine ok_getI (q := 4) (ci := 12) (k := 17) (x := I a0 17) dX12_reached_1 rfl fo_X12_148 h0 rfl ?_
  refine ok_aload_n (q := 5) 2 dX12_reached_4 rfl rfl rfl ?_
  refine ok_aload_n (q := 6) 0 dX12_reached_5 rfl rfl rfl ?_
  refine ok_aload_n (q := 7) 0 dX12_reached_6 rfl rfl rfl ?_
  refine ok_getR (q := 10) (ci := 12) (k := 16) (x := F a0 16) dX12_reached_7 rfl fo_X12_26 h0 rfl ?_
  refine ok_iconst (q := 11) (x := 1) dX12_reached_10 rfl rfl (by decide) ?_
  refine ok_iload_n (q := 12) 1 dX12_reached_11 rfl rfl rfl ?_
  refine fi_chk (fun h_1 => ?_)
  refine ok_isub (q := 13) dX12_reached_12 rfl h_1 ?_
  refine fi_callV2P (q := 16) (as := [qr (F a0 16), qi (1 - x1)]) (st := [qr a2, qi (I a0 17)]) dX12_reached_13 rfl mo_X12_209 h0 rfl (Nat.le_of_ble_eq_true rfl) rfl rfl (Nat.le_of_ble_eq_true rfl) (Nat.le_of_ble_eq_true rfl) (Nat.le_of_ble_eq_true rfl) (Nat.zero_le _) (Nat.zero_le _) (fun _ hr => ct_X12_placeOf (N := N) h0 hr) (fun v_2 => ?_)
  refine fi_chk (fun h_3 => ?_)
  refine ok_l2i (q := 17) dX12_reached_16 rfl h_3 ?_
  refine fi_chk (fun h_4 => ?_)
  refine fi_chk (fun h_5 => ?_)
  refine ok_iaload (q := 18) (v := I a2 v_2) dX12_reached_17 rfl h_4 h_5.1 h_5.2 rfl ?_
  refine fi_chk (fun h_6 => ?_)
  refine ok_isub (q := 19) dX12_reached_18 rfl h_6 ?_
  exact fi_ireturnP dX12_reached_19 rfl
theorem ct_X12_reached {η : am_E} {l : Launch} {N : Nat} {n : Nat} {K : am_K} {I : am_I} {F : am_F} {a0 : Nat} {r0 : Int} {x1 : Int} {a2 : Nat} (h0 : (K a0).1 = 12) : X12_reached N K F I a0 x1 a2 = some r0 → am_Ct η l yX12_reached cX12_reached 3 (some .int) 4 94 0 0 [qr a0, qi x1, qr a2] n K I F (am_pS 1 (r0, I) n K F) := fun g => am_Ct.of false (by decide) (by decide) (Nat.le_of_ble_eq_true rfl) (fun _ => w_X12_reached (N := N) h0 g)
def M_X12_bestOf : am_M := (yX12_bestOf.cls, cX12_bestOf, 4, (some .int), am_room 5 120 0 0, false)
def X12_bestOf_b116 (N : Nat) (K : am_K) (F : am_F) (a0 : Nat) (I : am_I) (x3 : Int) : Option (Int × am_I) :=
  some (x3, I)
theorem w_X12_bestOf_b116 {η : am_E} {l : Launch} {N : Nat} {n : Nat} {K : am_K} {I : am_I} {F : am_F} {a0 : Nat} {r0 : Int × am_I} {x3 : Int} (h0 : (K a0).1 = 12) : X12_bestOf_b116 N K F a0 I x3 = some r0 → Ok η l M_X12_bestOf (am_qm η (am_pS 1 r0 n K F) 0 0) 116 [(0, qr a0), (3, qi x3)] [] n K I F 0 0 := by
  unfold X12_bestOf_b116
  refine ok_iload_n (q := 117) 1 dX12_bestOf_116 rfl rfl rfl ?_
  exact fi_ireturnS dX12_bestOf_117 rfl
def X12_bestOf_b118 (N : Nat) (K : am_K) (F : am_F) (a0 : Nat) (k23 : am_I → Int → Int → Int → Option (Int × am_I)) (I : am_I) (x1 : Int) (x2 : Int) (x3 : Int) : Option (Int × am_I) :=
  if am_inI (x3 + 1) then am_lt (x3 + 1) (fun x3_2 => k23 I x1 x2 x3_2) else none
theorem w_X12_bestOf_b118 {η : am_E} {l : Launch} {N : Nat} {n : Nat} {K : am_K} {I : am_I} {F : am_F} {a0 : Nat} {r0 : Int × am_I} {k23 : am_I → Int → Int → Int → Option (Int × am_I)} {x1 : Int} {x2 : Int} {x3 : Int} (h0 : (K a0).1 = 12) (H23 : ∀ (I : am_I) (x1 : Int) (x2 : Int) (x3 : Int), k23 I x1 x2 x3 = some r0 → Ok η l M_X12_bestOf (am_qm η (am_pS 1 r0 n K F) 0 0) 23 [(0, qr a0), (1, qi x1), (2, qi x2), (3, qi x3)] [] n K I F 0 0) : X12_bestOf_b118 N K F a0 k23 I x1 x2 x3 = some r0 → Ok η l M_X12_bestOf (am_qm η (am_pS 1 r0 n K F) 0 0) 118 [(0, qr a0), (1, qi x1), (2, qi x2), (3, qi x3)] [] n K I F 0 0 := by
  unfold X12_bestOf_b118
  refine fi_chk (fun h_1 => ?_)
  refine ok_iincL (q := 121) (fun x3_2 => [(3, qi x3_2), (0, qr a0), (1, qi x1), (2, qi x2)]) 3 dX12_bestOf_118 rfl rfl h_1 (Nat.le_of_ble_eq_true rfl) (fun _ => rfl) (fun x3_2 => ?_)
  refine ok_goto (q := 23) dX12_bestOf_121 rfl ?_
  exact fun g => ok_pick [1, 2, 3, 0] rfl (H23 _ _ _ _ g)
def X12_bestOf_s23 (N : Nat) (K : am_K) (F : am_F) (a0 : Nat) (k23 : am_I → Int → Int → Int → Option (Int × am_I)) (I : am_I) (x1 : Int) (x2 : Int) (x3 : Int) : Option (Int × am_I) :=
  am_cq (X12_all N K F I a0) (fun v_1 => if x3 < v_1 then (if (K (F a0 35)).1 = 101 then if (0 : Int) ≤ x3 ∧ x3 < (K (F a0 35)).2 then if (I (F a0 35) x3) = 0 then (X12_bestOf_b118 N K F a0 k23 I x1 x2 x3) else (am_cl (X12_make N K F a0 I (F a0 20) x2 x3) (fun _ I_4 => am_cq (X12_reached N K F I_4 a0 x2 (F a0 25)) (fun v_5 => if (K (F a0 25)).1 = 100 then if (0 : Int) ≤ x1 ∧ x1 < (K (F a0 25)).2 then if v_5 = (I_4 (F a0 25) x1) then (if 0 < (I_4 (F a0 25) x1) then (if (I_4 a0 17) ≤ 0 then (if am_inI (1 - x2) then am_cq (X12_placeOf N K F I_4 a0 (F a0 16) (1 - x2)) (fun v_9 => if am_inI (v_9) then if (K (F a0 26)).1 = 100 then if (0 : Int) ≤ v_9 ∧ v_9 < (K (F a0 26)).2 then if (0 : Int) ≤ x1 ∧ x1 < (K (F a0 26)).2 then if (I_4 (F a0 26) v_9) < (I_4 (F a0 26) x1) then (X12_bestOf_b116 N K F a0 I_4 x3) else (X12_bestOf_b118 N K F a0 k23 I_4 x1 x2 x3) else none else none else none else none) else none) else (X12_bestOf_b116 N K F a0 I_4 x3)) else (X12_bestOf_b116 N K F a0 I_4 x3)) else (X12_bestOf_b118 N K F a0 k23 I_4 x1 x2 x3) else none else none))) else none else none) else (some ((-1), I)))
theorem w_X12_bestOf_s23 {η : am_E} {l : Launch} {N : Nat} {n : Nat} {K : am_K} {I : am_I} {F : am_F} {a0 : Nat} {r0 : Int × am_I} {k23 : am_I → Int → Int → Int → Option (Int × am_I)} {x1 : Int} {x2 : Int} {x3 : Int} (h0 : (K a0).1 = 12) (H23 : ∀ (I : am_I) (x1 : Int) (x2 : Int) (x3 : Int), k23 I x1 x2 x3 = some r0 → Ok η l M_X12_bestOf (am_qm η (am_pS 1 r0 n K F) 0 0) 23 [(0, qr a0), (1, qi x1), (2, qi x2), (3, qi x3)] [] n K I F 0 0) : X12_bestOf_s23 N K F a0 k23 I x1 x2 x3 = some r0 → Ok η l M_X12_bestOf (am_qm η (am_pS 1 r0 n K F) 0 0) 23 [(0, qr a0), (1, qi x1), (2, qi x2), (3, qi x3)] [] n K I F 0 0 := by
  unfold X12_bestOf_s23
  refine ok_iload_n (q := 24) 3 dX12_bestOf_23 rfl rfl rfl ?_
  refine ok_aload_n (q := 25) 0 dX12_bestOf_24 rfl rfl rfl ?_
  refine fi_callV1P (q := 28) (as := []) (st := [qi x3]) dX12_bestOf_25 rfl mo_X12_133 h0 rfl (Nat.le_of_ble_eq_true rfl) rfl rfl (Nat.le_of_ble_eq_true rfl) (Nat.le_of_ble_eq_true rfl) (Nat.le_of_ble_eq_true rfl) (Nat.zero_le _) (Nat.zero_le _) (fun _ hr => ct_X12_all (N := N) h0 hr) (fun v_1 => ?_)
  refine ok_icmp_ge (q := 124) (q2 := 31) dX12_bestOf_28 rfl rfl ?_ ?_
  · skip
    refine ok_iconst (q := 125) (x := -1) dX12_bestOf_124 rfl rfl (by decide) ?_
    exact fi_ireturnS dX12_bestOf_125 rfl
  · skip
    refine ok_aload_n (q := 32) 0 dX12_bestOf_31 rfl rfl rfl ?_
    refine ok_getR (q := 35) (ci := 12) (k := 35) (x := F a0 35) dX12_bestOf_32 rfl fo_X12_65 h0 rfl ?_
    refine ok_iload_n (q := 36) 3 dX12_bestOf_35 rfl rfl rfl ?_
    refine fi_chk (fun h_2 => ?_)
    refine fi_chk (fun h_3 => ?_)
    refine ok_baload (q := 37) (v := I (F a0 35) x3) dX12_bestOf_36 rfl h_2 h_3.1 h_3.2 rfl ?_
    refine ok_if_ne (q := 43) (q2 := 40) dX12_bestOf_37 rfl rfl ?_ ?_
    · skip
      refine ok_aload_n (q := 44) 0 dX12_bestOf_43 rfl rfl rfl ?_
      refine ok_aload_n (q := 45) 0 dX12_bestOf_44 rfl rfl rfl ?_
      refine ok_getR (q := 48) (ci := 12) (k := 20) (x := F a0 20) dX12_bestOf_45 rfl fo_X12_29 h0 rfl ?_
      refine ok_iload_n (q := 49) 2 dX12_bestOf_48 rfl rfl rfl ?_
      refine ok_iload_n (q := 50) 3 dX12_bestOf_49 rfl rfl rfl ?_
      refine fi_callV0S (q := 53) (as := [qr (F a0 20), qi x2, qi x3]) (st := []) dX12_bestOf_50 rfl mo_X12_172 h0 rfl (Nat.le_of_ble_eq_true rfl) rfl rfl (Nat.le_of_ble_eq_true rfl) (Nat.le_of_ble_eq_true rfl) (Nat.le_of_ble_eq_true rfl) (Nat.zero_le _) (Nat.zero_le _) (fun _ hr => ct_X12_make (N := N) h0 hr) (fun _ I_4 => ?_)
      refine ok_aload_n (q := 54) 0 dX12_bestOf_53 rfl rfl rfl ?_
      refine ok_iload_n (q := 55) 2 dX12_bestOf_54 rfl rfl rfl ?_
      refine ok_aload_n (q := 56) 0 dX12_bestOf_55 rfl rfl rfl ?_
      refine ok_getR (q := 59) (ci := 12) (k := 25) (x := F a0 25) dX12_bestOf_56 rfl fo_X12_33 h0 rfl ?_
      refine fi_callV1P (q := 62) (as := [qi x2, qr (F a0 25)]) (st := []) dX12_bestOf_59 rfl mo_X12_241 h0 rfl (Nat.le_of_ble_eq_true rfl) rfl rfl (Nat.le_of_ble_eq_true rfl) (Nat.le_of_ble_eq_true rfl) (Nat.le_of_ble_eq_true rfl) (Nat.zero_le _) (Nat.zero_le _) (fun _ hr => ct_X12_reached (N := N) h0 hr) (fun v_5 => ?_)
      refine ok_aload_n (q := 63) 0 dX12_bestOf_62 rfl rfl rfl ?_
      refine ok_getR (q := 66) (ci := 12) (k := 25) (x := F a0 25) dX12_bestOf_63 rfl fo_X12_33 h0 rfl ?_
      refine ok_iload_n (q := 67) 1 dX12_bestOf_66 rfl rfl rfl ?_
      refine fi_chk (fun h_6 => ?_)
      refine fi_chk (fun h_7 => ?_)
      refine ok_iaload (q := 68) (v := I_4 (F a0 25) x1) dX12_bestOf_67 rfl h_6 h_7.1 h_7.2 rfl ?_
      refine ok_icmp_eq (q := 74) (q2 := 71) dX12_bestOf_68 rfl rfl ?_ ?_
      · skip
        refine ok_aload_n (q := 75) 0 dX12_bestOf_74 rfl rfl rfl ?_
        refine ok_getR (q := 78) (ci := 12) (k := 25) (x := F a0 25) dX12_bestOf_75 rfl fo_X12_33 h0 rfl ?_
        refine ok_iload_n (q := 79) 1 dX12_bestOf_78 rfl rfl rfl ?_
        refine ok_iaload (q := 80) (v := I_4 (F a0 25) x1) dX12_bestOf_79 rfl h_6 h_7.1 h_7.2 rfl ?_
        refine ok_if_le (q := 116) (q2 := 83) dX12_bestOf_80 rfl rfl ?_ ?_
        · skip
          exact fun g => ok_pick [0, 3] rfl (w_X12_bestOf_b116 (N := N) h0 g)
        · skip
          refine ok_aload_n (q := 84) 0 dX12_bestOf_83 rfl rfl rfl ?_
          refine ok_getI (q := 87) (ci := 12) (k := 17) (x := I_4 a0 17) dX12_bestOf_84 rfl fo_X12_148 h0 rfl ?_
          refine ok_if_gt (q := 116) (q2 := 90) dX12_bestOf_87 rfl rfl ?_ ?_
          · skip
            exact fun g => ok_pick [0, 3] rfl (w_X12_bestOf_b116 (N := N) h0 g)
          · skip
            refine ok_aload_n (q := 91) 0 dX12_bestOf_90 rfl rfl rfl ?_
            refine ok_getR (q := 94) (ci := 12) (k := 26) (x := F a0 26) dX12_bestOf_91 rfl fo_X12_36 h0 rfl ?_
            refine ok_aload_n (q := 95) 0 dX12_bestOf_94 rfl rfl rfl ?_
            refine ok_aload_n (q := 96) 0 dX12_bestOf_95 rfl rfl rfl ?_
            refine ok_getR (q := 99) (ci := 12) (k := 16) (x := F a0 16) dX12_bestOf_96 rfl fo_X12_26 h0 rfl ?_
            refine ok_iconst (q := 100) (x := 1) dX12_bestOf_99 rfl rfl (by decide) ?_
            refine ok_iload_n (q := 101) 2 dX12_bestOf_100 rfl rfl rfl ?_
            refine fi_chk (fun h_8 => ?_)
            refine ok_isub (q := 102) dX12_bestOf_101 rfl h_8 ?_
            refine fi_callV2P (q := 105) (as := [qr (F a0 16), qi (1 - x2)]) (st := [qr (F a0 26)]) dX12_bestOf_102 rfl mo_X12_209 h0 rfl (Nat.le_of_ble_eq_true rfl) rfl rfl (Nat.le_of_ble_eq_true rfl) (Nat.le_of_ble_eq_true rfl) (Nat.le_of_ble_eq_true rfl) (Nat.zero_le _) (Nat.zero_le _) (fun _ hr => ct_X12_placeOf (N := N) h0 hr) (fun v_9 => ?_)
            refine fi_chk (fun h_10 => ?_)
            refine ok_l2i (q := 106) dX12_bestOf_105 rfl h_10 ?_
            refine fi_chk (fun h_11 => ?_)
            refine fi_chk (fun h_12 => ?_)
            refine ok_iaload (q := 107) (v := I_4 (F a0 26) v_9) dX12_bestOf_106 rfl h_11 h_12.1 h_12.2 rfl ?_
            refine ok_aload_n (q := 108) 0 dX12_bestOf_107 rfl rfl rfl ?_
            refine ok_getR (q := 111) (ci := 12) (k := 26) (x := F a0 26) dX12_bestOf_108 rfl fo_X12_36 h0 rfl ?_
            refine ok_iload_n (q := 112) 1 dX12_bestOf_111 rfl rfl rfl ?_
            refine fi_chk (fun h_13 => ?_)
            refine ok_iaload (q := 113) (v := I_4 (F a0 26) x1) dX12_bestOf_112 rfl h_11 h_13.1 h_13.2 rfl ?_
            refine ok_icmp_ge (q := 118) (q2 := 116) dX12_bestOf_113 rfl rfl ?_ ?_
            · skip
              exact fun g => ok_pick [0, 1, 2, 3] rfl (w_X12_bestOf_b118 (N := N) h0 H23 g)
            · skip
              exact fun g => ok_pick [0, 3] rfl (w_X12_bestOf_b116 (N := N) h0 g)
      · skip
        refine ok_goto (q := 118) dX12_bestOf_71 rfl ?_
        exact fun g => ok_pick [0, 1, 2, 3] rfl (w_X12_bestOf_b118 (N := N) h0 H23 g)
    · skip
      refine ok_goto (q := 118) dX12_bestOf_40 rfl ?_
      exact fun g => ok_pick [0, 1, 2, 3] rfl (w_X12_bestOf_b118 (N := N) h0 H23 g)
def X12_bestOf_h23 (N : Nat) (K : am_K) (F : am_F) (a0 : Nat) : Nat → am_I → Int → Int → Int → Option (Int × am_I) := am_it (fun kh => X12_bestOf_s23 N K F a0 kh) (fun _ _ _ _ => none)
theorem w_X12_bestOf_h23 {η : am_E} {l : Launch} {N : Nat} {n : Nat} {K : am_K} {F : am_F} {a0 : Nat} {r0 : Int × am_I} (h0 : (K a0).1 = 12) (f : Nat) : ∀ (I : am_I) (x1 : Int) (x2 : Int) (x3 : Int), X12_bestOf_h23 N K F a0 f I x1 x2 x3 = some r0 → Ok η l M_X12_bestOf (am_qm η (am_pS 1 r0 n K F) 0 0) 23 [(0, qr a0), (1, qi x1), (2, qi x2), (3, qi x3)] [] n K I F 0 0 := by
  induction f with
  | zero => intro I x1 x2 x3 g; exact fi_none g
  | succ f ih => intro I x1 x2 x3 g; exact w_X12_bestOf_s23 (N := N) h0 ih g
def X12_bestOf (N : Nat) (K : am_K) (F : am_F) (a0 : Nat) (I : am_I) (x1 : Int) : Option (Int × am_I) :=
  am_cl (X12_layOut N K F a0 I x1) (fun v_1 I_2 => am_cl (X12_mayMove N K F a0 I_2 (F a0 20) v_1 (F a0 35)) (fun v_3 I_4 => X12_bestOf_h23 N K F a0 N I_4 x1 v_1 0))
theorem w_X12_bestOf {η : am_E} {l : Launch} {N : Nat} {n : Nat} {K : am_K} {I : am_I} {F : am_F} {a0 : Nat} {r0 : Int × am_I} {x1 : Int} (h0 : (K a0).1 = 12) : X12_bestOf N K F a0 I x1 = some r0 → Ok η l M_X12_bestOf (am_qm η (am_pS 1 r0 n K F) 0 0) 0 [(0, qr a0), (1, qi x1)] [] n K I F 0 0 := by
  unfold X12_bestOf
  refine ok_aload_n (q := 1) 0 dX12_bestOf_0 rfl rfl rfl ?_
  refine ok_iload_n (q := 2) 1 dX12_bestOf_1 rfl rfl rfl ?_
  refine ok_i2l (q := 3) dX12_bestOf_2 rfl ?_
  refine fi_callV1S (q := 6) (as := [ql x1]) (st := []) dX12_bestOf_3 rfl mo_X12_197 h0 rfl (Nat.le_of_ble_eq_true rfl) rfl rfl (Nat.le_of_ble_eq_true rfl) (Nat.le_of_ble_eq_true rfl) (Nat.le_of_ble_eq_true rfl) (Nat.zero_le _) (Nat.zero_le _) (fun _ hr => ct_X12_layOut (N := N) h0 hr) (fun v_1 I_2 => ?_)
  refine ok_istore_n (q := 7) (ls' := [(2, qi v_1), (0, qr a0), (1, qi x1)]) dX12_bestOf_6 rfl rfl (Nat.le_of_ble_eq_true rfl) rfl ?_
  refine ok_aload_n (q := 8) 1 dX12_bestOf_7 rfl rfl rfl ?_
  refine ok_aload_n (q := 9) 1 dX12_bestOf_8 rfl rfl rfl ?_
  refine ok_getR (q := 12) (ci := 12) (k := 20) (x := F a0 20) dX12_bestOf_9 rfl fo_X12_29 h0 rfl ?_
  refine ok_iload_n (q := 13) 0 dX12_bestOf_12 rfl rfl rfl ?_
  refine ok_aload_n (q := 14) 1 dX12_bestOf_13 rfl rfl rfl ?_
  refine ok_getR (q := 17) (ci := 12) (k := 35) (x := F a0 35) dX12_bestOf_14 rfl fo_X12_65 h0 rfl ?_
  refine fi_callV1S (q := 20) (as := [qr (F a0 20), qi v_1, qr (F a0 35)]) (st := []) dX12_bestOf_17 rfl mo_X12_201 h0 rfl (Nat.le_of_ble_eq_true rfl) rfl rfl (Nat.le_of_ble_eq_true rfl) (Nat.le_of_ble_eq_true rfl) (Nat.le_of_ble_eq_true rfl) (Nat.zero_le _) (Nat.zero_le _) (fun _ hr => ct_X12_mayMove (N := N) h0 hr) (fun v_3 I_4 => ?_)
  refine ok_pop (q := 21) dX12_bestOf_20 rfl rfl ?_
  refine ok_iconst (q := 22) (x := 0) dX12_bestOf_21 rfl rfl (by decide) ?_
  refine ok_istore_n (q := 23) (ls' := [(3, qi 0), (2, qi v_1), (0, qr a0), (1, qi x1)]) dX12_bestOf_22 rfl rfl (Nat.le_of_ble_eq_true rfl) rfl ?_
  exact fun g => ok_pick [2, 3, 1, 0] rfl (w_X12_bestOf_h23 (N := N) h0 N _ _ _ _ g)
theorem ct_X12_bestOf {η : am_E} {l : Launch} {N : Nat} {n : Nat} {K : am_K} {I : am_I} {F : am_F} {a0 : Nat} {r0 : Int × am_I} {x1 : Int} (h0 : (K a0).1 = 12) : X12_bestOf N K F a0 I x1 = some r0 → am_Ct η l yX12_bestOf cX12_bestOf 4 (some .int) 5 120 0 0 [qr a0, qi x1] n K I F (am_pS 1 r0 n K F) := fun g => am_Ct.of false (by decide) (by decide) (Nat.le_of_ble_eq_true rfl) (fun _ => w_X12_bestOf (N := N) h0 g)
def M_X12_isRight : am_M := (yX12_isRight.cls, cX12_isRight, 10, (some .boolean), am_room 5 120 0 0, false)
def X12_isRight_b259 (N : Nat) (K : am_K) (F : am_F) (a0 : Nat) (I : am_I) (s0 : Int) : Option (Int × am_I) :=
  if s0 = 0 ∨ s0 = 1 then some (s0, I) else none
theorem w_X12_isRight_b259 {η : am_E} {l : Launch} {N : Nat} {n : Nat} {K : am_K} {I : am_I} {F : am_F} {a0 : Nat} {r0 : Int × am_I} {s0 : Int} (h0 : (K a0).1 = 12) : X12_isRight_b259 N K F a0 I s0 = some r0 → Ok η l M_X12_isRight (am_qm η (am_pS 1 r0 n K F) 0 0) 259 [(0, qr a0)] [qi s0] n K I F 0 0 := by
  unfold X12_isRight_b259
  refine fi_chk (fun h_1 => ?_)
  exact fi_zreturnS dX12_isRight_259 rfl h_1
def X12_isRight_b258 (N : Nat) (K : am_K) (F : am_F) (a0 : Nat) (I : am_I) : Option (Int × am_I) :=
  X12_isRight_b259 N K F a0 I 0
theorem w_X12_isRight_b258 {η : am_E} {l : Launch} {N : Nat} {n : Nat} {K : am_K} {I : am_I} {F : am_F} {a0 : Nat} {r0 : Int × am_I} (h0 : (K a0).1 = 12) : X12_isRight_b258 N K F a0 I = some r0 → Ok η l M_X12_isRight (am_qm η (am_pS 1 r0 n K F) 0 0) 258 [(0, qr a0)] [] n K I F 0 0 := by
  unfold X12_isRight_b258
  refine ok_iconst (q := 259) (x := 0) dX12_isRight_258 rfl rfl (by decide) ?_
  exact fun g => ok_pick [0] rfl (w_X12_isRight_b259 (N := N) h0 g)
def X12_isRight_b254 (N : Nat) (K : am_K) (F : am_F) (a0 : Nat) (I : am_I) : Option (Int × am_I) :=
  X12_isRight_b259 N K F a0 I 1
theorem w_X12_isRight_b254 {η : am_E} {l : Launch} {N : Nat} {n : Nat} {K : am_K} {I : am_I} {F : am_F} {a0 : Nat} {r0 : Int × am_I} (h0 : (K a0).1 = 12) : X12_isRight_b254 N K F a0 I = some r0 → Ok η l M_X12_isRight (am_qm η (am_pS 1 r0 n K F) 0 0) 254 [(0, qr a0)] [] n K I F 0 0 := by
  unfold X12_isRight_b254
  refine ok_iconst (q := 255) (x := 1) dX12_isRight_254 rfl rfl (by decide) ?_
  refine ok_goto (q := 259) dX12_isRight_255 rfl ?_
  exact fun g => ok_pick [0] rfl (w_X12_isRight_b259 (N := N) h0 g)
def X12_isRight_b245 (N : Nat) (K : am_K) (F : am_F) (a0 : Nat) (I : am_I) (x3 : Int) (x6 : Int) : Option (Int × am_I) :=
  if x3 < 0 then (if x6 = 0 then (X12_isRight_b258 N K F a0 I) else (X12_isRight_b254 N K F a0 I)) else (X12_isRight_b254 N K F a0 I)
theorem w_X12_isRight_b245 {η : am_E} {l : Launch} {N : Nat} {n : Nat} {K : am_K} {I : am_I} {F : am_F} {a0 : Nat} {r0 : Int × am_I} {x3 : Int} {x6 : Int} (h0 : (K a0).1 = 12) : X12_isRight_b245 N K F a0 I x3 x6 = some r0 → Ok η l M_X12_isRight (am_qm η (am_pS 1 r0 n K F) 0 0) 245 [(0, qr a0), (3, qi x3), (6, qi x6)] [] n K I F 0 0 := by
  unfold X12_isRight_b245
  refine ok_iload_n (q := 246) 1 dX12_isRight_245 rfl rfl rfl ?_
  refine ok_if_ge (q := 254) (q2 := 249) dX12_isRight_246 rfl rfl ?_ ?_
  · skip
    exact fun g => ok_pick [0] rfl (w_X12_isRight_b254 (N := N) h0 g)
  · skip
    refine ok_iload (q := 251) 2 dX12_isRight_249 rfl rfl ?_
    refine ok_if_eq (q := 258) (q2 := 254) dX12_isRight_251 rfl rfl ?_ ?_
    · skip
      exact fun g => ok_pick [0] rfl (w_X12_isRight_b258 (N := N) h0 g)
    · skip
      exact fun g => ok_pick [0] rfl (w_X12_isRight_b254 (N := N) h0 g)
def X12_isRight_b224 (N : Nat) (K : am_K) (F : am_F) (a0 : Nat) (k85 : am_I → Int → Int → Int → Int → Int → Int → Int → Option (Int × am_I)) (I : am_I) (x1 : Int) (x2 : Int) (x3 : Int) (x4 : Int) (x5 : Int) (x6 : Int) (x7 : Int) : Option (Int × am_I) :=
  if am_inI (x7 + 1) then am_lt (x7 + 1) (fun x7_2 => k85 I x1 x2 x3 x4 x5 x6 x7_2) else none
theorem w_X12_isRight_b224 {η : am_E} {l : Launch} {N : Nat} {n : Nat} {K : am_K} {I : am_I} {F : am_F} {a0 : Nat} {r0 : Int × am_I} {k85 : am_I → Int → Int → Int → Int → Int → Int → Int → Option (Int × am_I)} {x1 : Int} {x2 : Int} {x3 : Int} {x4 : Int} {x5 : Int} {x6 : Int} {x7 : Int} (h0 : (K a0).1 = 12) (H85 : ∀ (I : am_I) (x1 : Int) (x2 : Int) (x3 : Int) (x4 : Int) (x5 : Int) (x6 : Int) (x7 : Int), k85 I x1 x2 x3 x4 x5 x6 x7 = some r0 → Ok η l M_X12_isRight (am_qm η (am_pS 1 r0 n K F) 0 0) 85 [(0, qr a0), (1, qi x1), (2, qi x2), (3, qi x3), (4, qi x4), (5, qi x5), (6, qi x6), (7, qi x7)] [] n K I F 0 0) : X12_isRight_b224 N K F a0 k85 I x1 x2 x3 x4 x5 x6 x7 = some r0 → Ok η l M_X12_isRight (am_qm η (am_pS 1 r0 n K F) 0 0) 224 [(0, qr a0), (1, qi x1), (2, qi x2), (3, qi x3), (4, qi x4), (5, qi x5), (6, qi x6), (7, qi x7)] [] n K I F 0 0 := by
  unfold X12_isRight_b224
  refine fi_chk (fun h_1 => ?_)
  refine ok_iincL (q := 227) (fun x7_2 => [(7, qi x7_2), (0, qr a0), (1, qi x1), (2, qi x2), (3, qi x3), (4, qi x4), (5, qi x5), (6, qi x6)]) 7 dX12_isRight_224 rfl rfl h_1 (Nat.le_of_ble_eq_true rfl) (fun _ => rfl) (fun x7_2 => ?_)
  refine ok_goto (q := 85) dX12_isRight_227 rfl ?_
  exact fun g => ok_pick [1, 2, 3, 4, 5, 6, 7, 0] rfl (H85 _ _ _ _ _ _ _ _ g)
def X12_isRight_b222 (N : Nat) (K : am_K) (F : am_F) (a0 : Nat) (k85 : am_I → Int → Int → Int → Int → Int → Int → Int → Option (Int × am_I)) (I : am_I) (x1 : Int) (x2 : Int) (x3 : Int) (x4 : Int) (x5 : Int) (x7 : Int) (s0 : Int) : Option (Int × am_I) :=
  X12_isRight_b224 N K F a0 k85 I x1 x2 x3 x4 x5 s0 x7
theorem w_X12_isRight_b222 {η : am_E} {l : Launch} {N : Nat} {n : Nat} {K : am_K} {I : am_I} {F : am_F} {a0 : Nat} {r0 : Int × am_I} {k85 : am_I → Int → Int → Int → Int → Int → Int → Int → Option (Int × am_I)} {x1 : Int} {x2 : Int} {x3 : Int} {x4 : Int} {x5 : Int} {x7 : Int} {s0 : Int} (h0 : (K a0).1 = 12) (H85 : ∀ (I : am_I) (x1 : Int) (x2 : Int) (x3 : Int) (x4 : Int) (x5 : Int) (x6 : Int) (x7 : Int), k85 I x1 x2 x3 x4 x5 x6 x7 = some r0 → Ok η l M_X12_isRight (am_qm η (am_pS 1 r0 n K F) 0 0) 85 [(0, qr a0), (1, qi x1), (2, qi x2), (3, qi x3), (4, qi x4), (5, qi x5), (6, qi x6), (7, qi x7)] [] n K I F 0 0) : X12_isRight_b222 N K F a0 k85 I x1 x2 x3 x4 x5 x7 s0 = some r0 → Ok η l M_X12_isRight (am_qm η (am_pS 1 r0 n K F) 0 0) 222 [(0, qr a0), (1, qi x1), (2, qi x2), (3, qi x3), (4, qi x4), (5, qi x5), (7, qi x7)] [qi s0] n K I F 0 0 := by
  unfold X12_isRight_b222
  refine ok_istore (q := 224) (ls' := [(6, qi s0), (0, qr a0), (1, qi x1), (2, qi x2), (3, qi x3), (4, qi x4), (5, qi x5), (7, qi x7)]) dX12_isRight_222 rfl (Nat.le_of_ble_eq_true rfl) rfl ?_
  exact fun g => ok_pick [1, 2, 3, 4, 5, 6, 0, 7] rfl (w_X12_isRight_b224 (N := N) h0 H85 g)
def X12_isRight_b221 (N : Nat) (K : am_K) (F : am_F) (a0 : Nat) (k85 : am_I → Int → Int → Int → Int → Int → Int → Int → Option (Int × am_I)) (I : am_I) (x1 : Int) (x2 : Int) (x3 : Int) (x4 : Int) (x5 : Int) (x7 : Int) : Option (Int × am_I) :=
  X12_isRight_b222 N K F a0 k85 I x1 x2 x3 x4 x5 x7 0
theorem w_X12_isRight_b221 {η : am_E} {l : Launch} {N : Nat} {n : Nat} {K : am_K} {I : am_I} {F : am_F} {a0 : Nat} {r0 : Int × am_I} {k85 : am_I → Int → Int → Int → Int → Int → Int → Int → Option (Int × am_I)} {x1 : Int} {x2 : Int} {x3 : Int} {x4 : Int} {x5 : Int} {x7 : Int} (h0 : (K a0).1 = 12) (H85 : ∀ (I : am_I) (x1 : Int) (x2 : Int) (x3 : Int) (x4 : Int) (x5 : Int) (x6 : Int) (x7 : Int), k85 I x1 x2 x3 x4 x5 x6 x7 = some r0 → Ok η l M_X12_isRight (am_qm η (am_pS 1 r0 n K F) 0 0) 85 [(0, qr a0), (1, qi x1), (2, qi x2), (3, qi x3), (4, qi x4), (5, qi x5), (6, qi x6), (7, qi x7)] [] n K I F 0 0) : X12_isRight_b221 N K F a0 k85 I x1 x2 x3 x4 x5 x7 = some r0 → Ok η l M_X12_isRight (am_qm η (am_pS 1 r0 n K F) 0 0) 221 [(0, qr a0), (1, qi x1), (2, qi x2), (3, qi x3), (4, qi x4), (5, qi x5), (7, qi x7)] [] n K I F 0 0 := by
  unfold X12_isRight_b221
  refine ok_iconst (q := 222) (x := 0) dX12_isRight_221 rfl rfl (by decide) ?_
  exact fun g => ok_pick [0, 1, 2, 3, 4, 5, 6] rfl (w_X12_isRight_b222 (N := N) h0 H85 g)
def X12_isRight_b217 (N : Nat) (K : am_K) (F : am_F) (a0 : Nat) (k85 : am_I → Int → Int → Int → Int → Int → Int → Int → Option (Int × am_I)) (I : am_I) (x1 : Int) (x2 : Int) (x3 : Int) (x4 : Int) (x5 : Int) (x7 : Int) : Option (Int × am_I) :=
  X12_isRight_b222 N K F a0 k85 I x1 x2 x3 x4 x5 x7 1
theorem w_X12_isRight_b217 {η : am_E} {l : Launch} {N : Nat} {n : Nat} {K : am_K} {I : am_I} {F : am_F} {a0 : Nat} {r0 : Int × am_I} {k85 : am_I → Int → Int → Int → Int → Int → Int → Int → Option (Int × am_I)} {x1 : Int} {x2 : Int} {x3 : Int} {x4 : Int} {x5 : Int} {x7 : Int} (h0 : (K a0).1 = 12) (H85 : ∀ (I : am_I) (x1 : Int) (x2 : Int) (x3 : Int) (x4 : Int) (x5 : Int) (x6 : Int) (x7 : Int), k85 I x1 x2 x3 x4 x5 x6 x7 = some r0 → Ok η l M_X12_isRight (am_qm η (am_pS 1 r0 n K F) 0 0) 85 [(0, qr a0), (1, qi x1), (2, qi x2), (3, qi x3), (4, qi x4), (5, qi x5), (6, qi x6), (7, qi x7)] [] n K I F 0 0) : X12_isRight_b217 N K F a0 k85 I x1 x2 x3 x4 x5 x7 = some r0 → Ok η l M_X12_isRight (am_qm η (am_pS 1 r0 n K F) 0 0) 217 [(0, qr a0), (1, qi x1), (2, qi x2), (3, qi x3), (4, qi x4), (5, qi x5), (7, qi x7)] [] n K I F 0 0 := by
  unfold X12_isRight_b217
  refine ok_iconst (q := 218) (x := 1) dX12_isRight_217 rfl rfl (by decide) ?_
  refine ok_goto (q := 222) dX12_isRight_218 rfl ?_
  exact fun g => ok_pick [0, 1, 2, 3, 4, 5, 6] rfl (w_X12_isRight_b222 (N := N) h0 H85 g)
def X12_isRight_b199 (N : Nat) (K : am_K) (F : am_F) (a0 : Nat) (k85 : am_I → Int → Int → Int → Int → Int → Int → Int → Option (Int × am_I)) (I : am_I) (x1 : Int) (x2 : Int) (x3 : Int) (x4 : Int) (x6 : Int) (x7 : Int) (x8 : Int) (x9 : Int) (s0 : Int) : Option (Int × am_I) :=
  if x6 = 0 then (X12_isRight_b221 N K F a0 k85 I x1 x2 x3 x4 s0 x7) else (if x8 = x3 then (if x9 = 0 then (X12_isRight_b221 N K F a0 k85 I x1 x2 x3 x4 s0 x7) else (X12_isRight_b217 N K F a0 k85 I x1 x2 x3 x4 s0 x7)) else (X12_isRight_b217 N K F a0 k85 I x1 x2 x3 x4 s0 x7))
theorem w_X12_isRight_b199 {η : am_E} {l : Launch} {N : Nat} {n : Nat} {K : am_K} {I : am_I} {F : am_F} {a0 : Nat} {r0 : Int × am_I} {k85 : am_I → Int → Int → Int → Int → Int → Int → Int → Option (Int × am_I)} {x1 : Int} {x2 : Int} {x3 : Int} {x4 : Int} {x6 : Int} {x7 : Int} {x8 : Int} {x9 : Int} {s0 : Int} (h0 : (K a0).1 = 12) (H85 : ∀ (I : am_I) (x1 : Int) (x2 : Int) (x3 : Int) (x4 : Int) (x5 : Int) (x6 : Int) (x7 : Int), k85 I x1 x2 x3 x4 x5 x6 x7 = some r0 → Ok η l M_X12_isRight (am_qm η (am_pS 1 r0 n K F) 0 0) 85 [(0, qr a0), (1, qi x1), (2, qi x2), (3, qi x3), (4, qi x4), (5, qi x5), (6, qi x6), (7, qi x7)] [] n K I F 0 0) : X12_isRight_b199 N K F a0 k85 I x1 x2 x3 x4 x6 x7 x8 x9 s0 = some r0 → Ok η l M_X12_isRight (am_qm η (am_pS 1 r0 n K F) 0 0) 199 [(0, qr a0), (1, qi x1), (2, qi x2), (3, qi x3), (4, qi x4), (6, qi x6), (7, qi x7), (8, qi x8), (9, qi x9)] [qi s0] n K I F 0 0 := by
  unfold X12_isRight_b199
  refine ok_istore (q := 201) (ls' := [(5, qi s0), (0, qr a0), (1, qi x1), (2, qi x2), (3, qi x3), (4, qi x4), (6, qi x6), (7, qi x7), (8, qi x8), (9, qi x9)]) dX12_isRight_199 rfl (Nat.le_of_ble_eq_true rfl) rfl ?_
  refine ok_iload (q := 203) 6 dX12_isRight_201 rfl rfl ?_
  refine ok_if_eq (q := 221) (q2 := 206) dX12_isRight_203 rfl rfl ?_ ?_
  · skip
    exact fun g => ok_pick [1, 2, 3, 4, 5, 0, 7] rfl (w_X12_isRight_b221 (N := N) h0 H85 g)
  · skip
    refine ok_iload (q := 208) 8 dX12_isRight_206 rfl rfl ?_
    refine ok_iload_n (q := 209) 4 dX12_isRight_208 rfl rfl rfl ?_
    refine ok_icmp_ne (q := 217) (q2 := 212) dX12_isRight_209 rfl rfl ?_ ?_
    · skip
      exact fun g => ok_pick [1, 2, 3, 4, 5, 0, 7] rfl (w_X12_isRight_b217 (N := N) h0 H85 g)
    · skip
      refine ok_iload (q := 214) 9 dX12_isRight_212 rfl rfl ?_
      refine ok_if_eq (q := 221) (q2 := 217) dX12_isRight_214 rfl rfl ?_ ?_
      · skip
        exact fun g => ok_pick [1, 2, 3, 4, 5, 0, 7] rfl (w_X12_isRight_b221 (N := N) h0 H85 g)
      · skip
        exact fun g => ok_pick [1, 2, 3, 4, 5, 0, 7] rfl (w_X12_isRight_b217 (N := N) h0 H85 g)
def X12_isRight_b194 (N : Nat) (K : am_K) (F : am_F) (a0 : Nat) (k85 : am_I → Int → Int → Int → Int → Int → Int → Int → Option (Int × am_I)) (I : am_I) (x1 : Int) (x2 : Int) (x3 : Int) (x4 : Int) (x6 : Int) (x7 : Int) (x8 : Int) (x9 : Int) : Option (Int × am_I) :=
  X12_isRight_b199 N K F a0 k85 I x1 x2 x3 x4 x6 x7 x8 x9 1
theorem w_X12_isRight_b194 {η : am_E} {l : Launch} {N : Nat} {n : Nat} {K : am_K} {I : am_I} {F : am_F} {a0 : Nat} {r0 : Int × am_I} {k85 : am_I → Int → Int → Int → Int → Int → Int → Int → Option (Int × am_I)} {x1 : Int} {x2 : Int} {x3 : Int} {x4 : Int} {x6 : Int} {x7 : Int} {x8 : Int} {x9 : Int} (h0 : (K a0).1 = 12) (H85 : ∀ (I : am_I) (x1 : Int) (x2 : Int) (x3 : Int) (x4 : Int) (x5 : Int) (x6 : Int) (x7 : Int), k85 I x1 x2 x3 x4 x5 x6 x7 = some r0 → Ok η l M_X12_isRight (am_qm η (am_pS 1 r0 n K F) 0 0) 85 [(0, qr a0), (1, qi x1), (2, qi x2), (3, qi x3), (4, qi x4), (5, qi x5), (6, qi x6), (7, qi x7)] [] n K I F 0 0) : X12_isRight_b194 N K F a0 k85 I x1 x2 x3 x4 x6 x7 x8 x9 = some r0 → Ok η l M_X12_isRight (am_qm η (am_pS 1 r0 n K F) 0 0) 194 [(0, qr a0), (1, qi x1), (2, qi x2), (3, qi x3), (4, qi x4), (6, qi x6), (7, qi x7), (8, qi x8), (9, qi x9)] [] n K I F 0 0 := by
  unfold X12_isRight_b194
  refine ok_iconst (q := 195) (x := 1) dX12_isRight_194 rfl rfl (by decide) ?_
  refine ok_goto (q := 199) dX12_isRight_195 rfl ?_
  exact fun g => ok_pick [0, 1, 2, 3, 4, 5, 6, 7, 8] rfl (w_X12_isRight_b199 (N := N) h0 H85 g)
def X12_isRight_b198 (N : Nat) (K : am_K) (F : am_F) (a0 : Nat) (k85 : am_I → Int → Int → Int → Int → Int → Int → Int → Option (Int × am_I)) (I : am_I) (x1 : Int) (x2 : Int) (x3 : Int) (x4 : Int) (x6 : Int) (x7 : Int) (x8 : Int) (x9 : Int) : Option (Int × am_I) :=
  X12_isRight_b199 N K F a0 k85 I x1 x2 x3 x4 x6 x7 x8 x9 0
theorem w_X12_isRight_b198 {η : am_E} {l : Launch} {N : Nat} {n : Nat} {K : am_K} {I : am_I} {F : am_F} {a0 : Nat} {r0 : Int × am_I} {k85 : am_I → Int → Int → Int → Int → Int → Int → Int → Option (Int × am_I)} {x1 : Int} {x2 : Int} {x3 : Int} {x4 : Int} {x6 : Int} {x7 : Int} {x8 : Int} {x9 : Int} (h0 : (K a0).1 = 12) (H85 : ∀ (I : am_I) (x1 : Int) (x2 : Int) (x3 : Int) (x4 : Int) (x5 : Int) (x6 : Int) (x7 : Int), k85 I x1 x2 x3 x4 x5 x6 x7 = some r0 → Ok η l M_X12_isRight (am_qm η (am_pS 1 r0 n K F) 0 0) 85 [(0, qr a0), (1, qi x1), (2, qi x2), (3, qi x3), (4, qi x4), (5, qi x5), (6, qi x6), (7, qi x7)] [] n K I F 0 0) : X12_isRight_b198 N K F a0 k85 I x1 x2 x3 x4 x6 x7 x8 x9 = some r0 → Ok η l M_X12_isRight (am_qm η (am_pS 1 r0 n K F) 0 0) 198 [(0, qr a0), (1, qi x1), (2, qi x2), (3, qi x3), (4, qi x4), (6, qi x6), (7, qi x7), (8, qi x8), (9, qi x9)] [] n K I F 0 0 := by
  unfold X12_isRight_b198
  refine ok_iconst (q := 199) (x := 0) dX12_isRight_198 rfl rfl (by decide) ?_
  exact fun g => ok_pick [0, 1, 2, 3, 4, 5, 6, 7, 8] rfl (w_X12_isRight_b199 (N := N) h0 H85 g)
def X12_isRight_b176 (N : Nat) (K : am_K) (F : am_F) (a0 : Nat) (k85 : am_I → Int → Int → Int → Int → Int → Int → Int → Option (Int × am_I)) (I : am_I) (x1 : Int) (x2 : Int) (x3 : Int) (x4 : Int) (x5 : Int) (x6 : Int) (x7 : Int) (x8 : Int) (s0 : Int) : Option (Int × am_I) :=
  if x5 = 0 then (if x8 = x3 then (if s0 = 0 then (X12_isRight_b198 N K F a0 k85 I x1 x2 x3 x4 x6 x7 x8 s0) else (X12_isRight_b194 N K F a0 k85 I x1 x2 x3 x4 x6 x7 x8 s0)) else (X12_isRight_b198 N K F a0 k85 I x1 x2 x3 x4 x6 x7 x8 s0)) else (X12_isRight_b194 N K F a0 k85 I x1 x2 x3 x4 x6 x7 x8 s0)
theorem w_X12_isRight_b176 {η : am_E} {l : Launch} {N : Nat} {n : Nat} {K : am_K} {I : am_I} {F : am_F} {a0 : Nat} {r0 : Int × am_I} {k85 : am_I → Int → Int → Int → Int → Int → Int → Int → Option (Int × am_I)} {x1 : Int} {x2 : Int} {x3 : Int} {x4 : Int} {x5 : Int} {x6 : Int} {x7 : Int} {x8 : Int} {s0 : Int} (h0 : (K a0).1 = 12) (H85 : ∀ (I : am_I) (x1 : Int) (x2 : Int) (x3 : Int) (x4 : Int) (x5 : Int) (x6 : Int) (x7 : Int), k85 I x1 x2 x3 x4 x5 x6 x7 = some r0 → Ok η l M_X12_isRight (am_qm η (am_pS 1 r0 n K F) 0 0) 85 [(0, qr a0), (1, qi x1), (2, qi x2), (3, qi x3), (4, qi x4), (5, qi x5), (6, qi x6), (7, qi x7)] [] n K I F 0 0) : X12_isRight_b176 N K F a0 k85 I x1 x2 x3 x4 x5 x6 x7 x8 s0 = some r0 → Ok η l M_X12_isRight (am_qm η (am_pS 1 r0 n K F) 0 0) 176 [(0, qr a0), (1, qi x1), (2, qi x2), (3, qi x3), (4, qi x4), (5, qi x5), (6, qi x6), (7, qi x7), (8, qi x8)] [qi s0] n K I F 0 0 := by
  unfold X12_isRight_b176
  refine ok_istore (q := 178) (ls' := [(9, qi s0), (0, qr a0), (1, qi x1), (2, qi x2), (3, qi x3), (4, qi x4), (5, qi x5), (6, qi x6), (7, qi x7), (8, qi x8)]) dX12_isRight_176 rfl (Nat.le_of_ble_eq_true rfl) rfl ?_
  refine ok_iload (q := 180) 6 dX12_isRight_178 rfl rfl ?_
  refine ok_if_ne (q := 194) (q2 := 183) dX12_isRight_180 rfl rfl ?_ ?_
  · skip
    exact fun g => ok_pick [1, 2, 3, 4, 5, 7, 8, 9, 0] rfl (w_X12_isRight_b194 (N := N) h0 H85 g)
  · skip
    refine ok_iload (q := 185) 9 dX12_isRight_183 rfl rfl ?_
    refine ok_iload_n (q := 186) 4 dX12_isRight_185 rfl rfl rfl ?_
    refine ok_icmp_ne (q := 198) (q2 := 189) dX12_isRight_186 rfl rfl ?_ ?_
    · skip
      exact fun g => ok_pick [1, 2, 3, 4, 5, 7, 8, 9, 0] rfl (w_X12_isRight_b198 (N := N) h0 H85 g)
    · skip
      refine ok_iload (q := 191) 0 dX12_isRight_189 rfl rfl ?_
      refine ok_if_eq (q := 198) (q2 := 194) dX12_isRight_191 rfl rfl ?_ ?_
      · skip
        exact fun g => ok_pick [1, 2, 3, 4, 5, 7, 8, 9, 0] rfl (w_X12_isRight_b198 (N := N) h0 H85 g)
      · skip
        exact fun g => ok_pick [1, 2, 3, 4, 5, 7, 8, 9, 0] rfl (w_X12_isRight_b194 (N := N) h0 H85 g)
def X12_isRight_b171 (N : Nat) (K : am_K) (F : am_F) (a0 : Nat) (k85 : am_I → Int → Int → Int → Int → Int → Int → Int → Option (Int × am_I)) (I : am_I) (x1 : Int) (x2 : Int) (x3 : Int) (x4 : Int) (x5 : Int) (x6 : Int) (x7 : Int) (x8 : Int) : Option (Int × am_I) :=
  X12_isRight_b176 N K F a0 k85 I x1 x2 x3 x4 x5 x6 x7 x8 1
theorem w_X12_isRight_b171 {η : am_E} {l : Launch} {N : Nat} {n : Nat} {K : am_K} {I : am_I} {F : am_F} {a0 : Nat} {r0 : Int × am_I} {k85 : am_I → Int → Int → Int → Int → Int → Int → Int → Option (Int × am_I)} {x1 : Int} {x2 : Int} {x3 : Int} {x4 : Int} {x5 : Int} {x6 : Int} {x7 : Int} {x8 : Int} (h0 : (K a0).1 = 12) (H85 : ∀ (I : am_I) (x1 : Int) (x2 : Int) (x3 : Int) (x4 : Int) (x5 : Int) (x6 : Int) (x7 : Int), k85 I x1 x2 x3 x4 x5 x6 x7 = some r0 → Ok η l M_X12_isRight (am_qm η (am_pS 1 r0 n K F) 0 0) 85 [(0, qr a0), (1, qi x1), (2, qi x2), (3, qi x3), (4, qi x4), (5, qi x5), (6, qi x6), (7, qi x7)] [] n K I F 0 0) : X12_isRight_b171 N K F a0 k85 I x1 x2 x3 x4 x5 x6 x7 x8 = some r0 → Ok η l M_X12_isRight (am_qm η (am_pS 1 r0 n K F) 0 0) 171 [(0, qr a0), (1, qi x1), (2, qi x2), (3, qi x3), (4, qi x4), (5, qi x5), (6, qi x6), (7, qi x7), (8, qi x8)] [] n K I F 0 0 := by
  unfold X12_isRight_b171
  refine ok_iconst (q := 172) (x := 1) dX12_isRight_171 rfl rfl (by decide) ?_
  refine ok_goto (q := 176) dX12_isRight_172 rfl ?_
  exact fun g => ok_pick [0, 1, 2, 3, 4, 5, 6, 7, 8] rfl (w_X12_isRight_b176 (N := N) h0 H85 g)
def X12_isRight_s85 (N : Nat) (K : am_K) (F : am_F) (a0 : Nat) (k85 : am_I → Int → Int → Int → Int → Int → Int → Int → Option (Int × am_I)) (I : am_I) (x1 : Int) (x2 : Int) (x3 : Int) (x4 : Int) (x5 : Int) (x6 : Int) (x7 : Int) : Option (Int × am_I) :=
  am_cq (X12_all N K F I a0) (fun v_1 => if x7 < v_1 then (if (K (F a0 35)).1 = 101 then if (0 : Int) ≤ x7 ∧ x7 < (K (F a0 35)).2 then if (I (F a0 35) x7) = 0 then (X12_isRight_b224 N K F a0 k85 I x1 x2 x3 x4 x5 x6 x7) else (am_cl (X12_make N K F a0 I (F a0 20) x2 x7) (fun _ I_4 => am_cq (X12_reached N K F I_4 a0 x2 (F a0 27)) (fun v_5 => am_lt (am_max x4 v_5) (fun x4_6 => if (I_4 a0 17) ≤ 0 then (if am_inI (1 - x2) then am_cq (X12_placeOf N K F I_4 a0 (F a0 16) (1 - x2)) (fun v_8 => if am_inI (v_8) then if (K (F a0 28)).1 = 100 then if (0 : Int) ≤ v_8 ∧ v_8 < (K (F a0 28)).2 then if (0 : Int) ≤ x1 ∧ x1 < (K (F a0 28)).2 then if (I_4 (F a0 28) v_8) < (I_4 (F a0 28) x1) then (X12_isRight_b171 N K F a0 k85 I_4 x1 x2 x3 x4_6 x5 x6 x7 v_5) else (X12_isRight_b176 N K F a0 k85 I_4 x1 x2 x3 x4_6 x5 x6 x7 v_5 0) else none else none else none else none) else none) else (X12_isRight_b171 N K F a0 k85 I_4 x1 x2 x3 x4_6 x5 x6 x7 v_5))))) else none else none) else (if x4 = x3 then (if 0 < x3 then (if x5 = 0 then (X12_isRight_b258 N K F a0 I) else (X12_isRight_b245 N K F a0 I x3 x6)) else (X12_isRight_b245 N K F a0 I x3 x6)) else (X12_isRight_b258 N K F a0 I)))
theorem w_X12_isRight_s85 {η : am_E} {l : Launch} {N : Nat} {n : Nat} {K : am_K} {I : am_I} {F : am_F} {a0 : Nat} {r0 : Int × am_I} {k85 : am_I → Int → Int → Int → Int → Int → Int → Int → Option (Int × am_I)} {x1 : Int} {x2 : Int} {x3 : Int} {x4 : Int} {x5 : Int} {x6 : Int} {x7 : Int} (h0 : (K a0).1 = 12) (H85 : ∀ (I : am_I) (x1 : Int) (x2 : Int) (x3 : Int) (x4 : Int) (x5 : Int) (x6 : Int) (x7 : Int), k85 I x1 x2 x3 x4 x5 x6 x7 = some r0 → Ok η l M_X12_isRight (am_qm η (am_pS 1 r0 n K F) 0 0) 85 [(0, qr a0), (1, qi x1), (2, qi x2), (3, qi x3), (4, qi x4), (5, qi x5), (6, qi x6), (7, qi x7)] [] n K I F 0 0) : X12_isRight_s85 N K F a0 k85 I x1 x2 x3 x4 x5 x6 x7 = some r0 → Ok η l M_X12_isRight (am_qm η (am_pS 1 r0 n K F) 0 0) 85 [(0, qr a0), (1, qi x1), (2, qi x2), (3, qi x3), (4, qi x4), (5, qi x5), (6, qi x6), (7, qi x7)] [] n K I F 0 0 := by
  unfold X12_isRight_s85
  refine ok_iload (q := 87) 7 dX12_isRight_85 rfl rfl ?_
  refine ok_aload_n (q := 88) 0 dX12_isRight_87 rfl rfl rfl ?_
  refine fi_callV1P (q := 91) (as := []) (st := [qi x7]) dX12_isRight_88 rfl mo_X12_133 h0 rfl (Nat.le_of_ble_eq_true rfl) rfl rfl (Nat.le_of_ble_eq_true rfl) (Nat.le_of_ble_eq_true rfl) (Nat.le_of_ble_eq_true rfl) (Nat.zero_le _) (Nat.zero_le _) (fun _ hr => ct_X12_all (N := N) h0 hr) (fun v_1 => ?_)
  refine ok_icmp_ge (q := 230) (q2 := 94) dX12_isRight_91 rfl rfl ?_ ?_
  · skip
    refine ok_iload (q := 232) 4 dX12_isRight_230 rfl rfl ?_
    refine ok_iload_n (q := 233) 3 dX12_isRight_232 rfl rfl rfl ?_
    refine ok_icmp_ne (q := 258) (q2 := 236) dX12_isRight_233 rfl rfl ?_ ?_
    · skip
      exact fun g => ok_pick [0] rfl (w_X12_isRight_b258 (N := N) h0 g)
    · skip
      refine ok_iload_n (q := 237) 3 dX12_isRight_236 rfl rfl rfl ?_
      refine ok_if_le (q := 245) (q2 := 240) dX12_isRight_237 rfl rfl ?_ ?_
      · skip
        exact fun g => ok_pick [0, 3, 6] rfl (w_X12_isRight_b245 (N := N) h0 g)
      · skip
        refine ok_iload (q := 242) 5 dX12_isRight_240 rfl rfl ?_
        refine ok_if_eq (q := 258) (q2 := 245) dX12_isRight_242 rfl rfl ?_ ?_
        · skip
          exact fun g => ok_pick [0] rfl (w_X12_isRight_b258 (N := N) h0 g)
        · skip
          exact fun g => ok_pick [0, 3, 6] rfl (w_X12_isRight_b245 (N := N) h0 g)
  · skip
    refine ok_aload_n (q := 95) 0 dX12_isRight_94 rfl rfl rfl ?_
    refine ok_getR (q := 98) (ci := 12) (k := 35) (x := F a0 35) dX12_isRight_95 rfl fo_X12_65 h0 rfl ?_
    refine ok_iload (q := 100) 7 dX12_isRight_98 rfl rfl ?_
    refine fi_chk (fun h_2 => ?_)
    refine fi_chk (fun h_3 => ?_)
    refine ok_baload (q := 101) (v := I (F a0 35) x7) dX12_isRight_100 rfl h_2 h_3.1 h_3.2 rfl ?_
    refine ok_if_ne (q := 107) (q2 := 104) dX12_isRight_101 rfl rfl ?_ ?_
    · skip
      refine ok_aload_n (q := 108) 0 dX12_isRight_107 rfl rfl rfl ?_
      refine ok_aload_n (q := 109) 0 dX12_isRight_108 rfl rfl rfl ?_
      refine ok_getR (q := 112) (ci := 12) (k := 20) (x := F a0 20) dX12_isRight_109 rfl fo_X12_29 h0 rfl ?_
      refine ok_iload_n (q := 113) 2 dX12_isRight_112 rfl rfl rfl ?_
      refine ok_iload (q := 115) 7 dX12_isRight_113 rfl rfl ?_
      refine fi_callV0S (q := 118) (as := [qr (F a0 20), qi x2, qi x7]) (st := []) dX12_isRight_115 rfl mo_X12_172 h0 rfl (Nat.le_of_ble_eq_true rfl) rfl rfl (Nat.le_of_ble_eq_true rfl) (Nat.le_of_ble_eq_true rfl) (Nat.le_of_ble_eq_true rfl) (Nat.zero_le _) (Nat.zero_le _) (fun _ hr => ct_X12_make (N := N) h0 hr) (fun _ I_4 => ?_)
      refine ok_aload_n (q := 119) 0 dX12_isRight_118 rfl rfl rfl ?_
      refine ok_iload_n (q := 120) 2 dX12_isRight_119 rfl rfl rfl ?_
      refine ok_aload_n (q := 121) 0 dX12_isRight_120 rfl rfl rfl ?_
      refine ok_getR (q := 124) (ci := 12) (k := 27) (x := F a0 27) dX12_isRight_121 rfl fo_X12_39 h0 rfl ?_
      refine fi_callV1P (q := 127) (as := [qi x2, qr (F a0 27)]) (st := []) dX12_isRight_124 rfl mo_X12_241 h0 rfl (Nat.le_of_ble_eq_true rfl) rfl rfl (Nat.le_of_ble_eq_true rfl) (Nat.le_of_ble_eq_true rfl) (Nat.le_of_ble_eq_true rfl) (Nat.zero_le _) (Nat.zero_le _) (fun _ hr => ct_X12_reached (N := N) h0 hr) (fun v_5 => ?_)
      refine ok_istore (q := 129) (ls' := [(8, qi v_5), (0, qr a0), (1, qi x1), (2, qi x2), (3, qi x3), (4, qi x4), (5, qi x5), (6, qi x6), (7, qi x7)]) dX12_isRight_127 rfl (Nat.le_of_ble_eq_true rfl) rfl ?_
      refine ok_iload (q := 131) 5 dX12_isRight_129 rfl rfl ?_
      refine ok_iload (q := 133) 0 dX12_isRight_131 rfl rfl ?_
      refine ok_mmax (q := 136) dX12_isRight_133 rfl mm_X12_219 (Nat.le_of_ble_eq_true rfl) (Nat.le_of_ble_eq_true rfl) (Nat.le_of_ble_eq_true rfl) (Nat.zero_le _) (Nat.zero_le _) ?_
      refine ok_istoreL (q := 138) (fun x4_6 => [(4, qi x4_6), (8, qi v_5), (0, qr a0), (1, qi x1), (2, qi x2), (3, qi x3), (5, qi x5), (6, qi x6), (7, qi x7)]) dX12_isRight_136 rfl (Nat.le_of_ble_eq_true rfl) (fun _ => rfl) (fun x4_6 => ?_)
      refine ok_aload_n (q := 139) 2 dX12_isRight_138 rfl rfl rfl ?_
      refine ok_getI (q := 142) (ci := 12) (k := 17) (x := I_4 a0 17) dX12_isRight_139 rfl fo_X12_148 h0 rfl ?_
      refine ok_if_gt (q := 171) (q2 := 145) dX12_isRight_142 rfl rfl ?_ ?_
      · skip
        exact fun g => ok_pick [2, 3, 4, 5, 0, 6, 7, 8, 1] rfl (w_X12_isRight_b171 (N := N) h0 H85 g)
      · skip
        refine ok_aload_n (q := 146) 2 dX12_isRight_145 rfl rfl rfl ?_
        refine ok_getR (q := 149) (ci := 12) (k := 28) (x := F a0 28) dX12_isRight_146 rfl fo_X12_42 h0 rfl ?_
        refine ok_aload_n (q := 150) 2 dX12_isRight_149 rfl rfl rfl ?_
        refine ok_aload_n (q := 151) 2 dX12_isRight_150 rfl rfl rfl ?_
        refine ok_getR (q := 154) (ci := 12) (k := 16) (x := F a0 16) dX12_isRight_151 rfl fo_X12_26 h0 rfl ?_
        refine ok_iconst (q := 155) (x := 1) dX12_isRight_154 rfl rfl (by decide) ?_
        refine ok_iload_n (q := 156) 4 dX12_isRight_155 rfl rfl rfl ?_
        refine fi_chk (fun h_7 => ?_)
        refine ok_isub (q := 157) dX12_isRight_156 rfl h_7 ?_
        refine fi_callV2P (q := 160) (as := [qr (F a0 16), qi (1 - x2)]) (st := [qr (F a0 28)]) dX12_isRight_157 rfl mo_X12_209 h0 rfl (Nat.le_of_ble_eq_true rfl) rfl rfl (Nat.le_of_ble_eq_true rfl) (Nat.le_of_ble_eq_true rfl) (Nat.le_of_ble_eq_true rfl) (Nat.zero_le _) (Nat.zero_le _) (fun _ hr => ct_X12_placeOf (N := N) h0 hr) (fun v_8 => ?_)
        refine fi_chk (fun h_9 => ?_)
        refine ok_l2i (q := 161) dX12_isRight_160 rfl h_9 ?_
        refine fi_chk (fun h_10 => ?_)
        refine fi_chk (fun h_11 => ?_)
        refine ok_iaload (q := 162) (v := I_4 (F a0 28) v_8) dX12_isRight_161 rfl h_10 h_11.1 h_11.2 rfl ?_
        refine ok_aload_n (q := 163) 2 dX12_isRight_162 rfl rfl rfl ?_
        refine ok_getR (q := 166) (ci := 12) (k := 28) (x := F a0 28) dX12_isRight_163 rfl fo_X12_42 h0 rfl ?_
        refine ok_iload_n (q := 167) 3 dX12_isRight_166 rfl rfl rfl ?_
        refine fi_chk (fun h_12 => ?_)
        refine ok_iaload (q := 168) (v := I_4 (F a0 28) x1) dX12_isRight_167 rfl h_10 h_12.1 h_12.2 rfl ?_
        refine ok_icmp_ge (q := 175) (q2 := 171) dX12_isRight_168 rfl rfl ?_ ?_
        · skip
          refine ok_iconst (q := 176) (x := 0) dX12_isRight_175 rfl rfl (by decide) ?_
          exact fun g => ok_pick [2, 3, 4, 5, 0, 6, 7, 8, 1] rfl (w_X12_isRight_b176 (N := N) h0 H85 g)
        · skip
          exact fun g => ok_pick [2, 3, 4, 5, 0, 6, 7, 8, 1] rfl (w_X12_isRight_b171 (N := N) h0 H85 g)
    · skip
      refine ok_goto (q := 224) dX12_isRight_104 rfl ?_
      exact fun g => ok_pick [0, 1, 2, 3, 4, 5, 6, 7] rfl (w_X12_isRight_b224 (N := N) h0 H85 g)
def X12_isRight_h85 (N : Nat) (K : am_K) (F : am_F) (a0 : Nat) : Nat → am_I → Int → Int → Int → Int → Int → Int → Int → Option (Int × am_I) := am_it (fun kh => X12_isRight_s85 N K F a0 kh) (fun _ _ _ _ _ _ _ _ => none)
theorem w_X12_isRight_h85 {η : am_E} {l : Launch} {N : Nat} {n : Nat} {K : am_K} {F : am_F} {a0 : Nat} {r0 : Int × am_I} (h0 : (K a0).1 = 12) (f : Nat) : ∀ (I : am_I) (x1 : Int) (x2 : Int) (x3 : Int) (x4 : Int) (x5 : Int) (x6 : Int) (x7 : Int), X12_isRight_h85 N K F a0 f I x1 x2 x3 x4 x5 x6 x7 = some r0 → Ok η l M_X12_isRight (am_qm η (am_pS 1 r0 n K F) 0 0) 85 [(0, qr a0), (1, qi x1), (2, qi x2), (3, qi x3), (4, qi x4), (5, qi x5), (6, qi x6), (7, qi x7)] [] n K I F 0 0 := by
  induction f with
  | zero => intro I x1 x2 x3 x4 x5 x6 x7 g; exact fi_none g
  | succ f ih => intro I x1 x2 x3 x4 x5 x6 x7 g; exact w_X12_isRight_s85 (N := N) h0 ih g
def X12_isRight_b71 (N : Nat) (K : am_K) (F : am_F) (a0 : Nat) (I : am_I) (s0 : Int) : Option (Int × am_I) :=
  if s0 = 0 ∨ s0 = 1 then some (s0, I) else none
theorem w_X12_isRight_b71 {η : am_E} {l : Launch} {N : Nat} {n : Nat} {K : am_K} {I : am_I} {F : am_F} {a0 : Nat} {r0 : Int × am_I} {s0 : Int} (h0 : (K a0).1 = 12) : X12_isRight_b71 N K F a0 I s0 = some r0 → Ok η l M_X12_isRight (am_qm η (am_pS 1 r0 n K F) 0 0) 71 [(0, qr a0)] [qi s0] n K I F 0 0 := by
  unfold X12_isRight_b71
  refine fi_chk (fun h_1 => ?_)
  exact fi_zreturnS dX12_isRight_71 rfl h_1
def X12_isRight_b70 (N : Nat) (K : am_K) (F : am_F) (a0 : Nat) (I : am_I) : Option (Int × am_I) :=
  X12_isRight_b71 N K F a0 I 0
theorem w_X12_isRight_b70 {η : am_E} {l : Launch} {N : Nat} {n : Nat} {K : am_K} {I : am_I} {F : am_F} {a0 : Nat} {r0 : Int × am_I} (h0 : (K a0).1 = 12) : X12_isRight_b70 N K F a0 I = some r0 → Ok η l M_X12_isRight (am_qm η (am_pS 1 r0 n K F) 0 0) 70 [(0, qr a0)] [] n K I F 0 0 := by
  unfold X12_isRight_b70
  refine ok_iconst (q := 71) (x := 0) dX12_isRight_70 rfl rfl (by decide) ?_
  exact fun g => ok_pick [0] rfl (w_X12_isRight_b71 (N := N) h0 g)
def X12_isRight (N : Nat) (K : am_K) (F : am_F) (a0 : Nat) (I : am_I) (x1 : Int) : Option (Int × am_I) :=
  am_cl (X12_layOut N K F a0 I x1) (fun v_1 I_2 => if (K (F a0 27)).1 = 100 then if (0 : Int) ≤ x1 ∧ x1 < (K (F a0 27)).2 then am_lt (I_2 (F a0 27) x1) (fun x3_5 => am_cl (X12_mayMove N K F a0 I_2 (F a0 20) v_1 (F a0 35)) (fun v_6 I_7 => if v_6 = 0 then (am_cq (X12_counts N K F I_7 a0 (F a0 20) v_1 v_1) (fun v_8 => if am_inI (1 - v_1) then am_cq (X12_counts N K F I_7 a0 (F a0 20) v_1 (1 - v_1)) (fun v_10 => if am_inI (v_8 - v_10) then if x3_5 = (v_8 - v_10) then (if (K (F a0 28)).1 = 100 then if (0 : Int) ≤ x1 ∧ x1 < (K (F a0 28)).2 then if (I_7 (F a0 28) x1) = 0 then (X12_isRight_b71 N K F a0 I_7 1) else (X12_isRight_b70 N K F a0 I_7) else none else none) else (X12_isRight_b70 N K F a0 I_7) else none) else none)) else (X12_isRight_h85 N K F a0 N I_7 x1 v_1 x3_5 (-2147483648) 0 1 0))) else none else none)
theorem w_X12_isRight {η : am_E} {l : Launch} {N : Nat} {n : Nat} {K : am_K} {I : am_I} {F : am_F} {a0 : Nat} {r0 : Int × am_I} {x1 : Int} (h0 : (K a0).1 = 12) : X12_isRight N K F a0 I x1 = some r0 → Ok η l M_X12_isRight (am_qm η (am_pS 1 r0 n K F) 0 0) 0 [(0, qr a0), (1, qi x1)] [] n K I F 0 0 := by
  unfold X12_isRight
  refine ok_aload_n (q := 1) 0 dX12_isRight_0 rfl rfl rfl ?_
  refine ok_iload_n (q := 2) 1 dX12_isRight_1 rfl rfl rfl ?_
  refine ok_i2l (q := 3) dX12_isRight_2 rfl ?_
  refine fi_callV1S (q := 6) (as := [ql x1]) (st := []) dX12_isRight_3 rfl mo_X12_197 h0 rfl (Nat.le_of_ble_eq_true rfl) rfl rfl (Nat.le_of_ble_eq_true rfl) (Nat.le_of_ble_eq_true rfl) (Nat.le_of_ble_eq_true rfl) (Nat.zero_le _) (Nat.zero_le _) (fun _ hr => ct_X12_layOut (N := N) h0 hr) (fun v_1 I_2 => ?_)
  refine ok_istore_n (q := 7) (ls' := [(2, qi v_1), (0, qr a0), (1, qi x1)]) dX12_isRight_6 rfl rfl (Nat.le_of_ble_eq_true rfl) rfl ?_
  refine ok_aload_n (q := 8) 1 dX12_isRight_7 rfl rfl rfl ?_
  refine ok_getR (q := 11) (ci := 12) (k := 27) (x := F a0 27) dX12_isRight_8 rfl fo_X12_39 h0 rfl ?_
  refine ok_iload_n (q := 12) 2 dX12_isRight_11 rfl rfl rfl ?_
  refine fi_chk (fun h_3 => ?_)
  refine fi_chk (fun h_4 => ?_)
  refine ok_iaload (q := 13) (v := I_2 (F a0 27) x1) dX12_isRight_12 rfl h_3 h_4.1 h_4.2 rfl ?_
  refine ok_istore_nL (q := 14) (fun x3_5 => [(3, qi x3_5), (2, qi v_1), (0, qr a0), (1, qi x1)]) dX12_isRight_13 rfl rfl (Nat.le_of_ble_eq_true rfl) (fun _ => rfl) (fun x3_5 => ?_)
  refine ok_aload_n (q := 15) 2 dX12_isRight_14 rfl rfl rfl ?_
  refine ok_aload_n (q := 16) 2 dX12_isRight_15 rfl rfl rfl ?_
  refine ok_getR (q := 19) (ci := 12) (k := 20) (x := F a0 20) dX12_isRight_16 rfl fo_X12_29 h0 rfl ?_
  refine ok_iload_n (q := 20) 1 dX12_isRight_19 rfl rfl rfl ?_
  refine ok_aload_n (q := 21) 2 dX12_isRight_20 rfl rfl rfl ?_
  refine ok_getR (q := 24) (ci := 12) (k := 35) (x := F a0 35) dX12_isRight_21 rfl fo_X12_65 h0 rfl ?_
  refine fi_callV1S (q := 27) (as := [qr (F a0 20), qi v_1, qr (F a0 35)]) (st := []) dX12_isRight_24 rfl mo_X12_201 h0 rfl (Nat.le_of_ble_eq_true rfl) rfl rfl (Nat.le_of_ble_eq_true rfl) (Nat.le_of_ble_eq_true rfl) (Nat.le_of_ble_eq_true rfl) (Nat.zero_le _) (Nat.zero_le _) (fun _ hr => ct_X12_mayMove (N := N) h0 hr) (fun v_6 I_7 => ?_)
  refine ok_if_ne (q := 72) (q2 := 30) dX12_isRight_27 rfl rfl ?_ ?_
  · skip
    refine ok_ldc (q := 74) (x := -2147483648) (v := -2147483648) dX12_isRight_72 rfl kc_X12_218 rfl (by decide) ?_
    refine ok_istore (q := 76) (ls' := [(4, qi (-2147483648)), (3, qi x3_5), (2, qi v_1), (0, qr a0), (1, qi x1)]) dX12_isRight_74 rfl (Nat.le_of_ble_eq_true rfl) rfl ?_
    refine ok_iconst (q := 77) (x := 0) dX12_isRight_76 rfl rfl (by decide) ?_
    refine ok_istore (q := 79) (ls' := [(5, qi 0), (4, qi (-2147483648)), (3, qi x3_5), (2, qi v_1), (0, qr a0), (1, qi x1)]) dX12_isRight_77 rfl (Nat.le_of_ble_eq_true rfl) rfl ?_
    refine ok_iconst (q := 80) (x := 1) dX12_isRight_79 rfl rfl (by decide) ?_
    refine ok_istore (q := 82) (ls' := [(6, qi 1), (5, qi 0), (4, qi (-2147483648)), (3, qi x3_5), (2, qi v_1), (0, qr a0), (1, qi x1)]) dX12_isRight_80 rfl (Nat.le_of_ble_eq_true rfl) rfl ?_
    refine ok_iconst (q := 83) (x := 0) dX12_isRight_82 rfl rfl (by decide) ?_
    refine ok_istore (q := 85) (ls' := [(7, qi 0), (6, qi 1), (5, qi 0), (4, qi (-2147483648)), (3, qi x3_5), (2, qi v_1), (0, qr a0), (1, qi x1)]) dX12_isRight_83 rfl (Nat.le_of_ble_eq_true rfl) rfl ?_
    exact fun g => ok_pick [6, 7, 5, 4, 3, 2, 1, 0] rfl (w_X12_isRight_h85 (N := N) h0 N _ _ _ _ _ _ _ _ g)
  · skip
    refine ok_iload_n (q := 31) 0 dX12_isRight_30 rfl rfl rfl ?_
    refine ok_aload_n (q := 32) 2 dX12_isRight_31 rfl rfl rfl ?_
    refine ok_aload_n (q := 33) 2 dX12_isRight_32 rfl rfl rfl ?_
    refine ok_getR (q := 36) (ci := 12) (k := 20) (x := F a0 20) dX12_isRight_33 rfl fo_X12_29 h0 rfl ?_
    refine ok_iload_n (q := 37) 1 dX12_isRight_36 rfl rfl rfl ?_
    refine ok_iload_n (q := 38) 1 dX12_isRight_37 rfl rfl rfl ?_
    refine fi_callV1P (q := 41) (as := [qr (F a0 20), qi v_1, qi v_1]) (st := [qi x3_5]) dX12_isRight_38 rfl mo_X12_205 h0 rfl (Nat.le_of_ble_eq_true rfl) rfl rfl (Nat.le_of_ble_eq_true rfl) (Nat.le_of_ble_eq_true rfl) (Nat.le_of_ble_eq_true rfl) (Nat.zero_le _) (Nat.zero_le _) (fun _ hr => ct_X12_counts (N := N) h0 hr) (fun v_8 => ?_)
    refine ok_aload_n (q := 42) 2 dX12_isRight_41 rfl rfl rfl ?_
    refine ok_aload_n (q := 43) 2 dX12_isRight_42 rfl rfl rfl ?_
    refine ok_getR (q := 46) (ci := 12) (k := 20) (x := F a0 20) dX12_isRight_43 rfl fo_X12_29 h0 rfl ?_
    refine ok_iload_n (q := 47) 1 dX12_isRight_46 rfl rfl rfl ?_
    refine ok_iconst (q := 48) (x := 1) dX12_isRight_47 rfl rfl (by decide) ?_
    refine ok_iload_n (q := 49) 1 dX12_isRight_48 rfl rfl rfl ?_
    refine fi_chk (fun h_9 => ?_)
    refine ok_isub (q := 50) dX12_isRight_49 rfl h_9 ?_
    refine fi_callV1P (q := 53) (as := [qr (F a0 20), qi v_1, qi (1 - v_1)]) (st := [qi v_8, qi x3_5]) dX12_isRight_50 rfl mo_X12_205 h0 rfl (Nat.le_of_ble_eq_true rfl) rfl rfl (Nat.le_of_ble_eq_true rfl) (Nat.le_of_ble_eq_true rfl) (Nat.le_of_ble_eq_true rfl) (Nat.zero_le _) (Nat.zero_le _) (fun _ hr => ct_X12_counts (N := N) h0 hr) (fun v_10 => ?_)
    refine fi_chk (fun h_11 => ?_)
    refine ok_isub (q := 54) dX12_isRight_53 rfl h_11 ?_
    refine ok_icmp_ne (q := 70) (q2 := 57) dX12_isRight_54 rfl rfl ?_ ?_
    · skip
      exact fun g => ok_pick [2] rfl (w_X12_isRight_b70 (N := N) h0 g)
    · skip
      refine ok_aload_n (q := 58) 2 dX12_isRight_57 rfl rfl rfl ?_
      refine ok_getR (q := 61) (ci := 12) (k := 28) (x := F a0 28) dX12_isRight_58 rfl fo_X12_42 h0 rfl ?_
      refine ok_iload_n (q := 62) 3 dX12_isRight_61 rfl rfl rfl ?_
      refine fi_chk (fun h_12 => ?_)
      refine fi_chk (fun h_13 => ?_)
      refine ok_iaload (q := 63) (v := I_7 (F a0 28) x1) dX12_isRight_62 rfl h_12 h_13.1 h_13.2 rfl ?_
      refine ok_if_ne (q := 70) (q2 := 66) dX12_isRight_63 rfl rfl ?_ ?_
      · skip
        exact fun g => ok_pick [2] rfl (w_X12_isRight_b70 (N := N) h0 g)
      · skip
        refine ok_iconst (q := 67) (x := 1) dX12_isRight_66 rfl rfl (by decide) ?_
        refine ok_goto (q := 71) dX12_isRight_67 rfl ?_
        exact fun g => ok_pick [2] rfl (w_X12_isRight_b71 (N := N) h0 g)
theorem ct_X12_isRight {η : am_E} {l : Launch} {N : Nat} {n : Nat} {K : am_K} {I : am_I} {F : am_F} {a0 : Nat} {r0 : Int × am_I} {x1 : Int} (h0 : (K a0).1 = 12) : X12_isRight N K F a0 I x1 = some r0 → am_Ct η l yX12_isRight cX12_isRight 10 (some .boolean) 5 120 0 0 [qr a0, qi x1] n K I F (am_pS 1 r0 n K F) := fun g => am_Ct.of false (by decide) (by decide) (Nat.le_of_ble_eq_true rfl) (fun _ => w_X12_isRight (N := N) h0 g)
