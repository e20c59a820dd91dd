def M_X12_fresh : am_M := (yX12_fresh.cls, cX12_fresh, 7, none, am_room 0 0 0 0, false)
def X12_fresh_s208 (N : Nat) (K : am_K) (F : am_F) (a0 : Nat) (k208 : am_I → Int → Option (Int × am_I)) (I : am_I) (x4 : Int) : Option (Int × am_I) :=
  if x4 < 2 then (if (K (F a0 44)).1 = 100 then if F a0 44 ≠ 1 then if (0 : Int) ≤ x4 ∧ x4 < (K (F a0 44)).2 then am_lt (am_u2 I (F a0 44) x4 0) (fun I_4 => if am_inI (x4 + 1) then am_lt (x4 + 1) (fun x4_6 => k208 I_4 x4_6) else none) else none else none else none) else (some (0, I))
theorem w_X12_fresh_s208 {η : am_E} {l : Launch} {N : Nat} {n : Nat} {K : am_K} {I : am_I} {F : am_F} {a0 : Nat} {r0 : Int × am_I} {k208 : am_I → Int → Option (Int × am_I)} {x4 : Int} (h0 : (K a0).1 = 12) (H208 : ∀ (I : am_I) (x4 : Int), k208 I x4 = some r0 → Ok η l M_X12_fresh (am_qm η (am_pS 0 r0 n K F) 0 0) 208 [(0, qr a0), (4, qi x4)] [] n K I F 0 0) : X12_fresh_s208 N K F a0 k208 I x4 = some r0 → Ok η l M_X12_fresh (am_qm η (am_pS 0 r0 n K F) 0 0) 208 [(0, qr a0), (4, qi x4)] [] n K I F 0 0 := by
  unfold X12_fresh_s208
  refine ok_iload (q := 210) 1 dX12_fresh_208 rfl rfl ?_
  refine ok_iconst (q := 211) (x := 2) dX12_fresh_210 rfl rfl (by decide) ?_
  refine ok_icmp_ge (q := 228) (q2 := 214) dX12_fresh_211 rfl rfl ?_ ?_
  · skip
    exact fi_returnS dX12_fresh_228 rfl
  · skip
    refine ok_aload_n (q := 215) 0 dX12_fresh_214 rfl rfl rfl ?_
    refine ok_getR (q := 218) (ci := 12) (k := 44) (x := F a0 44) dX12_fresh_215 rfl fo_X12_78 h0 rfl ?_
    refine ok_iload (q := 220) 1 dX12_fresh_218 rfl rfl ?_
    refine ok_iconst (q := 221) (x := 0) dX12_fresh_220 rfl rfl (by decide) ?_
    refine fi_chk (fun h_1 => ?_)
    refine fi_chk (fun h_2 => ?_)
    refine fi_chk (fun h_3 => ?_)
    refine ok_iastore (q := 222) dX12_fresh_221 rfl h_1 h_2 h_3.1 h_3.2 (fun I_4 => ?_)
    refine fi_chk (fun h_5 => ?_)
    refine ok_iincL (q := 225) (fun x4_6 => [(4, qi x4_6), (0, qr a0)]) 1 dX12_fresh_222 rfl rfl h_5 (Nat.le_of_ble_eq_true rfl) (fun _ => rfl) (fun x4_6 => ?_)
    refine ok_goto (q := 208) dX12_fresh_225 rfl ?_
    exact fun g => ok_pick [1, 0] rfl (H208 _ _ g)
def X12_fresh_h208 (N : Nat) (K : am_K) (F : am_F) (a0 : Nat) : Nat → am_I → Int → Option (Int × am_I) := am_it (fun kh => X12_fresh_s208 N K F a0 kh) (fun _ _ => none)
theorem w_X12_fresh_h208 {η : am_E} {l : Launch} {N : Nat} {n : Nat} {K : am_K} {F : am_F} {a0 : Nat} {r0 : Int × am_I} (h0 : (K a0).1 = 12) (f : Nat) : ∀ (I : am_I) (x4 : Int), X12_fresh_h208 N K F a0 f I x4 = some r0 → Ok η l M_X12_fresh (am_qm η (am_pS 0 r0 n K F) 0 0) 208 [(0, qr a0), (4, qi x4)] [] n K I F 0 0 := by
  induction f with
  | zero => intro I x4 g; exact fi_none g
  | succ f ih => intro I x4 g; exact w_X12_fresh_s208 (N := N) h0 ih g
def X12_fresh_s101 (N : Nat) (K : am_K) (F : am_F) (a0 : Nat) (k101 : am_I → Int → Option (Int × am_I)) (I : am_I) (x4 : Int) : Option (Int × am_I) :=
  if x4 < 32 then (if (K (F a0 2)).1 = 101 then if F a0 2 ≠ 1 then if (0 : Int) ≤ x4 ∧ x4 < (K (F a0 2)).2 then am_lt (am_u2 I (F a0 2) x4 0) (fun I_22 => if (K (F a0 3)).1 = 100 then if F a0 3 ≠ 1 then if (0 : Int) ≤ x4 ∧ x4 < (K (F a0 3)).2 then am_lt (am_u2 I_22 (F a0 3) x4 0) (fun I_26 => if am_inI (x4 + 1) then am_lt (x4 + 1) (fun x4_28 => k101 I_26 x4_28) else none) else none else none else none) else none else none else none) else (if (K (F a0 4)).1 = 100 then if F a0 4 ≠ 1 then if (0 : Int) ≤ 0 ∧ 0 < (K (F a0 4)).2 then am_lt (am_u2 I (F a0 4) 0 0) (fun I_4 => if (0 : Int) ≤ 1 ∧ 1 < (K (F a0 4)).2 then am_lt (am_u2 I_4 (F a0 4) 1 0) (fun I_6 => am_lt (am_u2 I_6 a0 5 0) (fun I_7 => am_lt (am_u2 I_7 a0 6 0) (fun I_8 => am_lt (am_u2 I_8 a0 7 10) (fun I_9 => am_lt (am_u2 I_9 a0 8 2) (fun I_10 => am_lt (am_u2 I_10 a0 9 3) (fun I_11 => am_lt (am_u2 I_11 a0 10 1) (fun I_12 => am_lt (am_u2 I_12 a0 11 0) (fun I_13 => am_lt (am_u2 I_13 a0 12 0) (fun I_14 => am_lt (am_u2 I_14 a0 37 0) (fun I_15 => am_lt (am_u2 I_15 a0 38 0) (fun I_16 => am_lt (am_u2 I_16 a0 21 0) (fun I_17 => am_lt (am_u2 I_17 a0 39 0) (fun I_18 => X12_fresh_h208 N K F a0 N I_18 0))))))))))))) else none) else none else none else none)
theorem w_X12_fresh_s101 {η : am_E} {l : Launch} {N : Nat} {n : Nat} {K : am_K} {I : am_I} {F : am_F} {a0 : Nat} {r0 : Int × am_I} {k101 : am_I → Int → Option (Int × am_I)} {x4 : Int} (h0 : (K a0).1 = 12) (H101 : ∀ (I : am_I) (x4 : Int), k101 I x4 = some r0 → Ok η l M_X12_fresh (am_qm η (am_pS 0 r0 n K F) 0 0) 101 [(0, qr a0), (4, qi x4)] [] n K I F 0 0) : X12_fresh_s101 N K F a0 k101 I x4 = some r0 → Ok η l M_X12_fresh (am_qm η (am_pS 0 r0 n K F) 0 0) 101 [(0, qr a0), (4, qi x4)] [] n K I F 0 0 := by
  unfold X12_fresh_s101
  refine ok_iload (q := 103) 1 dX12_fresh_101 rfl rfl ?_
  refine ok_bipush (q := 105) (x := 32) dX12_fresh_103 rfl rfl (by decide) ?_
  refine ok_icmp_ge (q := 130) (q2 := 108) dX12_fresh_105 rfl rfl ?_ ?_
  · skip
    refine ok_aload_n (q := 131) 0 dX12_fresh_130 rfl rfl rfl ?_
    refine ok_getR (q := 134) (ci := 12) (k := 4) (x := F a0 4) dX12_fresh_131 rfl fo_X12_17 h0 rfl ?_
    refine ok_iconst (q := 135) (x := 0) dX12_fresh_134 rfl rfl (by decide) ?_
    refine ok_iconst (q := 136) (x := 0) dX12_fresh_135 rfl rfl (by decide) ?_
    refine fi_chk (fun h_1 => ?_)
    refine fi_chk (fun h_2 => ?_)
    refine fi_chk (fun h_3 => ?_)
    refine ok_iastore (q := 137) dX12_fresh_136 rfl h_1 h_2 h_3.1 h_3.2 (fun I_4 => ?_)
    refine ok_aload_n (q := 138) 0 dX12_fresh_137 rfl rfl rfl ?_
    refine ok_getR (q := 141) (ci := 12) (k := 4) (x := F a0 4) dX12_fresh_138 rfl fo_X12_17 h0 rfl ?_
    refine ok_iconst (q := 142) (x := 1) dX12_fresh_141 rfl rfl (by decide) ?_
    refine ok_iconst (q := 143) (x := 0) dX12_fresh_142 rfl rfl (by decide) ?_
    refine fi_chk (fun h_5 => ?_)
    refine ok_iastore (q := 144) dX12_fresh_143 rfl h_1 h_2 h_5.1 h_5.2 (fun I_6 => ?_)
    refine ok_aload_n (q := 145) 0 dX12_fresh_144 rfl rfl rfl ?_
    refine ok_iconst (q := 146) (x := 0) dX12_fresh_145 rfl rfl (by decide) ?_
    refine ok_putI (q := 149) (ci := 12) (k := 5) dX12_fresh_146 rfl fo_X12_96 h0 ft_12_5 ff_12_5 (fun I_7 => ?_)
    refine ok_aload_n (q := 150) 0 dX12_fresh_149 rfl rfl rfl ?_
    refine ok_iconst (q := 151) (x := 0) dX12_fresh_150 rfl rfl (by decide) ?_
    refine ok_putI (q := 154) (ci := 12) (k := 6) dX12_fresh_151 rfl fo_X12_99 h0 ft_12_6 ff_12_6 (fun I_8 => ?_)
    refine ok_aload_n (q := 155) 0 dX12_fresh_154 rfl rfl rfl ?_
    refine ok_bipush (q := 157) (x := 10) dX12_fresh_155 rfl rfl (by decide) ?_
    refine ok_putI (q := 160) (ci := 12) (k := 7) dX12_fresh_157 rfl fo_X12_102 h0 ft_12_7 ff_12_7 (fun I_9 => ?_)
    refine ok_aload_n (q := 161) 0 dX12_fresh_160 rfl rfl rfl ?_
    refine ok_iconst (q := 162) (x := 2) dX12_fresh_161 rfl rfl (by decide) ?_
    refine ok_putI (q := 165) (ci := 12) (k := 8) dX12_fresh_162 rfl fo_X12_105 h0 ft_12_8 ff_12_8 (fun I_10 => ?_)
    refine ok_aload_n (q := 166) 0 dX12_fresh_165 rfl rfl rfl ?_
    refine ok_iconst (q := 167) (x := 3) dX12_fresh_166 rfl rfl (by decide) ?_
    refine ok_putI (q := 170) (ci := 12) (k := 9) dX12_fresh_167 rfl fo_X12_108 h0 ft_12_9 ff_12_9 (fun I_11 => ?_)
    refine ok_aload_n (q := 171) 0 dX12_fresh_170 rfl rfl rfl ?_
    refine ok_iconst (q := 172) (x := 1) dX12_fresh_171 rfl rfl (by decide) ?_
    refine ok_putI (q := 175) (ci := 12) (k := 10) dX12_fresh_172 rfl fo_X12_111 h0 ft_12_10 ff_12_10 (fun I_12 => ?_)
    refine ok_aload_n (q := 176) 0 dX12_fresh_175 rfl rfl rfl ?_
    refine ok_iconst (q := 177) (x := 0) dX12_fresh_176 rfl rfl (by decide) ?_
    refine ok_putZ (q := 180) (ci := 12) (k := 11) dX12_fresh_177 rfl fo_X12_114 h0 ft_12_11 (by decide) ff_12_11 (fun I_13 => ?_)
    refine ok_aload_n (q := 181) 0 dX12_fresh_180 rfl rfl rfl ?_
    refine ok_iconst (q := 182) (x := 0) dX12_fresh_181 rfl rfl (by decide) ?_
    refine ok_putI (q := 185) (ci := 12) (k := 12) dX12_fresh_182 rfl fo_X12_118 h0 ft_12_12 ff_12_12 (fun I_14 => ?_)
    refine ok_aload_n (q := 186) 0 dX12_fresh_185 rfl rfl rfl ?_
    refine ok_iconst (q := 187) (x := 0) dX12_fresh_186 rfl rfl (by decide) ?_
    refine ok_putI (q := 190) (ci := 12) (k := 37) dX12_fresh_187 rfl fo_X12_121 h0 ft_12_37 ff_12_37 (fun I_15 => ?_)
    refine ok_aload_n (q := 191) 0 dX12_fresh_190 rfl rfl rfl ?_
    refine ok_iconst (q := 192) (x := 0) dX12_fresh_191 rfl rfl (by decide) ?_
    refine ok_putI (q := 195) (ci := 12) (k := 38) dX12_fresh_192 rfl fo_X12_124 h0 ft_12_38 ff_12_38 (fun I_16 => ?_)
    refine ok_aload_n (q := 196) 0 dX12_fresh_195 rfl rfl rfl ?_
    refine ok_iconst (q := 197) (x := 0) dX12_fresh_196 rfl rfl (by decide) ?_
    refine ok_putZ (q := 200) (ci := 12) (k := 21) dX12_fresh_197 rfl fo_X12_127 h0 ft_12_21 (by decide) ff_12_21 (fun I_17 => ?_)
    refine ok_aload_n (q := 201) 0 dX12_fresh_200 rfl rfl rfl ?_
    refine ok_iconst (q := 202) (x := 0) dX12_fresh_201 rfl rfl (by decide) ?_
    refine ok_putZ (q := 205) (ci := 12) (k := 39) dX12_fresh_202 rfl fo_X12_130 h0 ft_12_39 (by decide) ff_12_39 (fun I_18 => ?_)
    refine ok_iconst (q := 206) (x := 0) dX12_fresh_205 rfl rfl (by decide) ?_
    refine ok_istore (q := 208) (ls' := [(4, qi 0), (0, qr a0)]) dX12_fresh_206 rfl (Nat.le_of_ble_eq_true rfl) rfl ?_
    exact fun g => ok_pick [1, 0] rfl (w_X12_fresh_h208 (N := N) h0 N _ _ g)
  · skip
    refine ok_aload_n (q := 109) 0 dX12_fresh_108 rfl rfl rfl ?_
    refine ok_getR (q := 112) (ci := 12) (k := 2) (x := F a0 2) dX12_fresh_109 rfl fo_X12_9 h0 rfl ?_
    refine ok_iload (q := 114) 1 dX12_fresh_112 rfl rfl ?_
    refine ok_iconst (q := 115) (x := 0) dX12_fresh_114 rfl rfl (by decide) ?_
    refine fi_chk (fun h_19 => ?_)
    refine fi_chk (fun h_20 => ?_)
    refine fi_chk (fun h_21 => ?_)
    refine ok_bastore (q := 116) dX12_fresh_115 rfl h_19 h_20 h_21.1 h_21.2 (by decide) (fun I_22 => ?_)
    refine ok_aload_n (q := 117) 0 dX12_fresh_116 rfl rfl rfl ?_
    refine ok_getR (q := 120) (ci := 12) (k := 3) (x := F a0 3) dX12_fresh_117 rfl fo_X12_13 h0 rfl ?_
    refine ok_iload (q := 122) 1 dX12_fresh_120 rfl rfl ?_
    refine ok_iconst (q := 123) (x := 0) dX12_fresh_122 rfl rfl (by decide) ?_
    refine fi_chk (fun h_23 => ?_)
    refine fi_chk (fun h_24 => ?_)
    refine fi_chk (fun h_25 => ?_)
    refine ok_iastore (q := 124) dX12_fresh_123 rfl h_23 h_24 h_25.1 h_25.2 (fun I_26 => ?_)
    refine fi_chk (fun h_27 => ?_)
    refine ok_iincL (q := 127) (fun x4_28 => [(4, qi x4_28), (0, qr a0)]) 1 dX12_fresh_124 rfl rfl h_27 (Nat.le_of_ble_eq_true rfl) (fun _ => rfl) (fun x4_28 => ?_)
    refine ok_goto (q := 101) dX12_fresh_127 rfl ?_
    exact fun g => ok_pick [1, 0] rfl (H101 _ _ g)
def X12_fresh_h101 (N : Nat) (K : am_K) (F : am_F) (a0 : Nat) : Nat → am_I → Int → Option (Int × am_I) := am_it (fun kh => X12_fresh_s101 N K F a0 kh) (fun _ _ => none)
theorem w_X12_fresh_h101 {η : am_E} {l : Launch} {N : Nat} {n : Nat} {K : am_K} {F : am_F} {a0 : Nat} {r0 : Int × am_I} (h0 : (K a0).1 = 12) (f : Nat) : ∀ (I : am_I) (x4 : Int), X12_fresh_h101 N K F a0 f I x4 = some r0 → Ok η l M_X12_fresh (am_qm η (am_pS 0 r0 n K F) 0 0) 101 [(0, qr a0), (4, qi x4)] [] n K I F 0 0 := by
  induction f with
  | zero => intro I x4 g; exact fi_none g
  | succ f ih => intro I x4 g; exact w_X12_fresh_s101 (N := N) h0 ih g
def X12_fresh_b64 (N : Nat) (K : am_K) (F : am_F) (a0 : Nat) (k15 : am_I → Int → Int → Option (Int × am_I)) (k27 : am_I → Int → Int → Int → Option (Int × am_I)) (I : am_I) (x3 : Int) (x4 : Int) (x5 : Int) (s0 : Int) (s1 : Int) : Option (Int × am_I) :=
  if am_inI (s1 + s0) then am_lt (s1 + s0) (fun x6_2 => if (K (F a0 13)).1 = 100 then if F a0 13 ≠ 1 then if (0 : Int) ≤ x3 ∧ x3 < (K (F a0 13)).2 then am_lt (am_u2 I (F a0 13) x3 x6_2) (fun I_6 => if (K (F a0 14)).1 = 100 then if F a0 14 ≠ 1 then if (0 : Int) ≤ x6_2 ∧ x6_2 < (K (F a0 14)).2 then am_lt (am_u2 I_6 (F a0 14) x6_2 x3) (fun I_10 => if am_inI (x3 + 1) then am_lt (x3 + 1) (fun x3_12 => if am_inI (x5 + 1) then am_lt (x5 + 1) (fun x5_14 => k27 I_10 x3_12 x4 x5_14) else none) else none) else none else none else none) else none else none else none) else none
theorem w_X12_fresh_b64 {η : am_E} {l : Launch} {N : Nat} {n : Nat} {K : am_K} {I : am_I} {F : am_F} {a0 : Nat} {r0 : Int × am_I} {k15 : am_I → Int → Int → Option (Int × am_I)} {k27 : am_I → Int → Int → Int → Option (Int × am_I)} {x3 : Int} {x4 : Int} {x5 : Int} {s0 : Int} {s1 : Int} (h0 : (K a0).1 = 12) (H15 : ∀ (I : am_I) (x3 : Int) (x4 : Int), k15 I x3 x4 = some r0 → Ok η l M_X12_fresh (am_qm η (am_pS 0 r0 n K F) 0 0) 15 [(0, qr a0), (3, qi x3), (4, qi x4)] [] n K I F 0 0) (H27 : ∀ (I : am_I) (x3 : Int) (x4 : Int) (x5 : Int), k27 I x3 x4 x5 = some r0 → Ok η l M_X12_fresh (am_qm η (am_pS 0 r0 n K F) 0 0) 27 [(0, qr a0), (3, qi x3), (4, qi x4), (5, qi x5)] [] n K I F 0 0) : X12_fresh_b64 N K F a0 k15 k27 I x3 x4 x5 s0 s1 = some r0 → Ok η l M_X12_fresh (am_qm η (am_pS 0 r0 n K F) 0 0) 64 [(0, qr a0), (3, qi x3), (4, qi x4), (5, qi x5)] [qi s0, qi s1] n K I F 0 0 := by
  unfold X12_fresh_b64
  refine fi_chk (fun h_1 => ?_)
  refine ok_iadd (q := 65) dX12_fresh_64 rfl h_1 ?_
  refine ok_istoreL (q := 67) (fun x6_2 => [(6, qi x6_2), (0, qr a0), (3, qi x3), (4, qi x4), (5, qi x5)]) dX12_fresh_65 rfl (Nat.le_of_ble_eq_true rfl) (fun _ => rfl) (fun x6_2 => ?_)
  refine ok_aload_n (q := 68) 1 dX12_fresh_67 rfl rfl rfl ?_
  refine ok_getR (q := 71) (ci := 12) (k := 13) (x := F a0 13) dX12_fresh_68 rfl fo_X12_20 h0 rfl ?_
  refine ok_iload_n (q := 72) 2 dX12_fresh_71 rfl rfl rfl ?_
  refine ok_iload (q := 74) 0 dX12_fresh_72 rfl rfl ?_
  refine fi_chk (fun h_3 => ?_)
  refine fi_chk (fun h_4 => ?_)
  refine fi_chk (fun h_5 => ?_)
  refine ok_iastore (q := 75) dX12_fresh_74 rfl h_3 h_4 h_5.1 h_5.2 (fun I_6 => ?_)
  refine ok_aload_n (q := 76) 1 dX12_fresh_75 rfl rfl rfl ?_
  refine ok_getR (q := 79) (ci := 12) (k := 14) (x := F a0 14) dX12_fresh_76 rfl fo_X12_23 h0 rfl ?_
  refine ok_iload (q := 81) 0 dX12_fresh_79 rfl rfl ?_
  refine ok_iload_n (q := 82) 2 dX12_fresh_81 rfl rfl rfl ?_
  refine fi_chk (fun h_7 => ?_)
  refine fi_chk (fun h_8 => ?_)
  refine fi_chk (fun h_9 => ?_)
  refine ok_iastore (q := 83) dX12_fresh_82 rfl h_7 h_8 h_9.1 h_9.2 (fun I_10 => ?_)
  refine fi_chk (fun h_11 => ?_)
  refine ok_iincL (q := 86) (fun x3_12 => [(3, qi x3_12), (6, qi x6_2), (0, qr a0), (4, qi x4), (5, qi x5)]) 2 dX12_fresh_83 rfl rfl h_11 (Nat.le_of_ble_eq_true rfl) (fun _ => rfl) (fun x3_12 => ?_)
  refine fi_chk (fun h_13 => ?_)
  refine ok_iincL (q := 89) (fun x5_14 => [(5, qi x5_14), (3, qi x3_12), (6, qi x6_2), (0, qr a0), (4, qi x4)]) 4 dX12_fresh_86 rfl rfl h_13 (Nat.le_of_ble_eq_true rfl) (fun _ => rfl) (fun x5_14 => ?_)
  refine ok_goto (q := 27) dX12_fresh_89 rfl ?_
  exact fun g => ok_pick [3, 1, 4, 0] rfl (H27 _ _ _ _ g)
def X12_fresh_s27 (N : Nat) (K : am_K) (F : am_F) (a0 : Nat) (k15 : am_I → Int → Int → Option (Int × am_I)) (k27 : am_I → Int → Int → Int → Option (Int × am_I)) (I : am_I) (x3 : Int) (x4 : Int) (x5 : Int) : Option (Int × am_I) :=
  if x5 < (I a0 1) then (if am_inI (x4 * (I a0 1)) then if 2 ≠ (0 : Int) then if (am_irem x4 2) = 0 then (X12_fresh_b64 N K F a0 k15 k27 I x3 x4 x5 x5 (x4 * (I a0 1))) else (if am_inI ((I a0 1) - 1) then if am_inI (((I a0 1) - 1) - x5) then X12_fresh_b64 N K F a0 k15 k27 I x3 x4 x5 (((I a0 1) - 1) - x5) (x4 * (I a0 1)) else none else none) else none else none) else (if am_inI (x4 + 1) then am_lt (x4 + 1) (fun x4_2 => k15 I x3 x4_2) else none)
theorem w_X12_fresh_s27 {η : am_E} {l : Launch} {N : Nat} {n : Nat} {K : am_K} {I : am_I} {F : am_F} {a0 : Nat} {r0 : Int × am_I} {k15 : am_I → Int → Int → Option (Int × am_I)} {k27 : am_I → Int → Int → Int → Option (Int × am_I)} {x3 : Int} {x4 : Int} {x5 : Int} (h0 : (K a0).1 = 12) (H15 : ∀ (I : am_I) (x3 : Int) (x4 : Int), k15 I x3 x4 = some r0 → Ok η l M_X12_fresh (am_qm η (am_pS 0 r0 n K F) 0 0) 15 [(0, qr a0), (3, qi x3), (4, qi x4)] [] n K I F 0 0) (H27 : ∀ (I : am_I) (x3 : Int) (x4 : Int) (x5 : Int), k27 I x3 x4 x5 = some r0 → Ok η l M_X12_fresh (am_qm η (am_pS 0 r0 n K F) 0 0) 27 [(0, qr a0), (3, qi x3), (4, qi x4), (5, qi x5)] [] n K I F 0 0) : X12_fresh_s27 N K F a0 k15 k27 I x3 x4 x5 = some r0 → Ok η l M_X12_fresh (am_qm η (am_pS 0 r0 n K F) 0 0) 27 [(0, qr a0), (3, qi x3), (4, qi x4), (5, qi x5)] [] n K I F 0 0 := by
  unfold X12_fresh_s27
  refine ok_iload (q := 29) 3 dX12_fresh_27 rfl rfl ?_
  refine ok_aload_n (q := 30) 0 dX12_fresh_29 rfl rfl rfl ?_
  refine ok_getI (q := 33) (ci := 12) (k := 1) (x := I a0 1) dX12_fresh_30 rfl fo_X12_93 h0 rfl ?_
  refine ok_icmp_ge (q := 92) (q2 := 36) dX12_fresh_33 rfl rfl ?_ ?_
  · skip
    refine fi_chk (fun h_1 => ?_)
    refine ok_iincL (q := 95) (fun x4_2 => [(4, qi x4_2), (0, qr a0), (3, qi x3), (5, qi x5)]) 2 dX12_fresh_92 rfl rfl h_1 (Nat.le_of_ble_eq_true rfl) (fun _ => rfl) (fun x4_2 => ?_)
    refine ok_goto (q := 15) dX12_fresh_95 rfl ?_
    exact fun g => ok_pick [1, 2, 0] rfl (H15 _ _ _ g)
  · skip
    refine ok_iload (q := 38) 2 dX12_fresh_36 rfl rfl ?_
    refine ok_aload_n (q := 39) 0 dX12_fresh_38 rfl rfl rfl ?_
    refine ok_getI (q := 42) (ci := 12) (k := 1) (x := I a0 1) dX12_fresh_39 rfl fo_X12_93 h0 rfl ?_
    refine fi_chk (fun h_3 => ?_)
    refine ok_imul (q := 43) dX12_fresh_42 rfl h_3 ?_
    refine ok_iload (q := 45) 2 dX12_fresh_43 rfl rfl ?_
    refine ok_iconst (q := 46) (x := 2) dX12_fresh_45 rfl rfl (by decide) ?_
    refine fi_chk (fun h_4 => ?_)
    refine ok_irem (q := 47) (r := am_irem x4 2) dX12_fresh_46 rfl h_4 rfl ?_
    refine ok_if_ne (q := 55) (q2 := 50) dX12_fresh_47 rfl rfl ?_ ?_
    · skip
      refine ok_aload_n (q := 56) 0 dX12_fresh_55 rfl rfl rfl ?_
      refine ok_getI (q := 59) (ci := 12) (k := 1) (x := I a0 1) dX12_fresh_56 rfl fo_X12_93 h0 rfl ?_
      refine ok_iconst (q := 60) (x := 1) dX12_fresh_59 rfl rfl (by decide) ?_
      refine fi_chk (fun h_5 => ?_)
      refine ok_isub (q := 61) dX12_fresh_60 rfl h_5 ?_
      refine ok_iload (q := 63) 3 dX12_fresh_61 rfl rfl ?_
      refine fi_chk (fun h_6 => ?_)
      refine ok_isub (q := 64) dX12_fresh_63 rfl h_6 ?_
      exact fun g => ok_pick [0, 1, 2, 3] rfl (w_X12_fresh_b64 (N := N) h0 H15 H27 g)
    · skip
      refine ok_iload (q := 52) 3 dX12_fresh_50 rfl rfl ?_
      refine ok_goto (q := 64) dX12_fresh_52 rfl ?_
      exact fun g => ok_pick [0, 1, 2, 3] rfl (w_X12_fresh_b64 (N := N) h0 H15 H27 g)
def X12_fresh_h27 (N : Nat) (K : am_K) (F : am_F) (a0 : Nat) (k15 : am_I → Int → Int → Option (Int × am_I)) : Nat → am_I → Int → Int → Int → Option (Int × am_I) := am_it (fun kh => X12_fresh_s27 N K F a0 k15 kh) (fun _ _ _ _ => none)
theorem w_X12_fresh_h27 {η : am_E} {l : Launch} {N : Nat} {n : Nat} {K : am_K} {F : am_F} {a0 : Nat} {r0 : Int × am_I} {k15 : am_I → Int → Int → Option (Int × am_I)} (h0 : (K a0).1 = 12) (H15 : ∀ (I : am_I) (x3 : Int) (x4 : Int), k15 I x3 x4 = some r0 → Ok η l M_X12_fresh (am_qm η (am_pS 0 r0 n K F) 0 0) 15 [(0, qr a0), (3, qi x3), (4, qi x4)] [] n K I F 0 0) (f : Nat) : ∀ (I : am_I) (x3 : Int) (x4 : Int) (x5 : Int), X12_fresh_h27 N K F a0 k15 f I x3 x4 x5 = some r0 → Ok η l M_X12_fresh (am_qm η (am_pS 0 r0 n K F) 0 0) 27 [(0, qr a0), (3, qi x3), (4, qi x4), (5, qi x5)] [] n K I F 0 0 := by
  induction f with
  | zero => intro I x3 x4 x5 g; exact fi_none g
  | succ f ih => intro I x3 x4 x5 g; exact w_X12_fresh_s27 (N := N) h0 H15 ih g
def X12_fresh_s15 (N : Nat) (K : am_K) (F : am_F) (a0 : Nat) (k15 : am_I → Int → Int → Option (Int × am_I)) (I : am_I) (x3 : Int) (x4 : Int) : Option (Int × am_I) :=
  if x4 < (I a0 0) then (X12_fresh_h27 N K F a0 k15 N I x3 x4 0) else (X12_fresh_h101 N K F a0 N I 0)
theorem w_X12_fresh_s15 {η : am_E} {l : Launch} {N : Nat} {n : Nat} {K : am_K} {I : am_I} {F : am_F} {a0 : Nat} {r0 : Int × am_I} {k15 : am_I → Int → Int → Option (Int × am_I)} {x3 : Int} {x4 : Int} (h0 : (K a0).1 = 12) (H15 : ∀ (I : am_I) (x3 : Int) (x4 : Int), k15 I x3 x4 = some r0 → Ok η l M_X12_fresh (am_qm η (am_pS 0 r0 n K F) 0 0) 15 [(0, qr a0), (3, qi x3), (4, qi x4)] [] n K I F 0 0) : X12_fresh_s15 N K F a0 k15 I x3 x4 = some r0 → Ok η l M_X12_fresh (am_qm η (am_pS 0 r0 n K F) 0 0) 15 [(0, qr a0), (3, qi x3), (4, qi x4)] [] n K I F 0 0 := by
  unfold X12_fresh_s15
  refine ok_iload (q := 17) 2 dX12_fresh_15 rfl rfl ?_
  refine ok_aload_n (q := 18) 0 dX12_fresh_17 rfl rfl rfl ?_
  refine ok_getI (q := 21) (ci := 12) (k := 0) (x := I a0 0) dX12_fresh_18 rfl fo_X12_89 h0 rfl ?_
  refine ok_icmp_ge (q := 98) (q2 := 24) dX12_fresh_21 rfl rfl ?_ ?_
  · skip
    refine ok_iconst (q := 99) (x := 0) dX12_fresh_98 rfl rfl (by decide) ?_
    refine ok_istore (q := 101) (ls' := [(4, qi 0), (0, qr a0), (3, qi x3)]) dX12_fresh_99 rfl (Nat.le_of_ble_eq_true rfl) rfl ?_
    exact fun g => ok_pick [1, 0] rfl (w_X12_fresh_h101 (N := N) h0 N _ _ g)
  · skip
    refine ok_iconst (q := 25) (x := 0) dX12_fresh_24 rfl rfl (by decide) ?_
    refine ok_istore (q := 27) (ls' := [(5, qi 0), (0, qr a0), (3, qi x3), (4, qi x4)]) dX12_fresh_25 rfl (Nat.le_of_ble_eq_true rfl) rfl ?_
    exact fun g => ok_pick [1, 2, 3, 0] rfl (w_X12_fresh_h27 (N := N) h0 H15 N _ _ _ _ g)
def X12_fresh_h15 (N : Nat) (K : am_K) (F : am_F) (a0 : Nat) : Nat → am_I → Int → Int → Option (Int × am_I) := am_it (fun kh => X12_fresh_s15 N K F a0 kh) (fun _ _ _ => none)
theorem w_X12_fresh_h15 {η : am_E} {l : Launch} {N : Nat} {n : Nat} {K : am_K} {F : am_F} {a0 : Nat} {r0 : Int × am_I} (h0 : (K a0).1 = 12) (f : Nat) : ∀ (I : am_I) (x3 : Int) (x4 : Int), X12_fresh_h15 N K F a0 f I x3 x4 = some r0 → Ok η l M_X12_fresh (am_qm η (am_pS 0 r0 n K F) 0 0) 15 [(0, qr a0), (3, qi x3), (4, qi x4)] [] n K I F 0 0 := by
  induction f with
  | zero => intro I x3 x4 g; exact fi_none g
  | succ f ih => intro I x3 x4 g; exact w_X12_fresh_s15 (N := N) h0 ih g
def X12_fresh (N : Nat) (K : am_K) (F : am_F) (a0 : Nat) (I : am_I) (x1 : Int) (x2 : Int) : Option (Int × am_I) :=
  am_lt (am_u2 I a0 0 x1) (fun I_1 => am_lt (am_u2 I_1 a0 1 x2) (fun I_2 => X12_fresh_h15 N K F a0 N I_2 0 0))
theorem w_X12_fresh {η : am_E} {l : Launch} {N : Nat} {n : Nat} {K : am_K} {I : am_I} {F : am_F} {a0 : Nat} {r0 : Int × am_I} {x1 : Int} {x2 : Int} (h0 : (K a0).1 = 12) : X12_fresh N K F a0 I x1 x2 = some r0 → Ok η l M_X12_fresh (am_qm η (am_pS 0 r0 n K F) 0 0) 0 [(0, qr a0), (1, qi x1), (2, qi x2)] [] n K I F 0 0 := by
  unfold X12_fresh
  refine ok_aload_n (q := 1) 0 dX12_fresh_0 rfl rfl rfl ?_
  refine ok_iload_n (q := 2) 1 dX12_fresh_1 rfl rfl rfl ?_
  refine ok_putI (q := 5) (ci := 12) (k := 0) dX12_fresh_2 rfl fo_X12_89 h0 ft_12_0 ff_12_0 (fun I_1 => ?_)
  refine ok_aload_n (q := 6) 0 dX12_fresh_5 rfl rfl rfl ?_
  refine ok_iload_n (q := 7) 2 dX12_fresh_6 rfl rfl rfl ?_
  refine ok_putI (q := 10) (ci := 12) (k := 1) dX12_fresh_7 rfl fo_X12_93 h0 ft_12_1 ff_12_1 (fun I_2 => ?_)
  refine ok_iconst (q := 11) (x := 0) dX12_fresh_10 rfl rfl (by decide) ?_
  refine ok_istore_n (q := 12) (ls' := [(3, qi 0), (0, qr a0), (1, qi x1), (2, qi x2)]) dX12_fresh_11 rfl rfl (Nat.le_of_ble_eq_true rfl) rfl ?_
  refine ok_iconst (q := 13) (x := 0) dX12_fresh_12 rfl rfl (by decide) ?_
  refine ok_istore (q := 15) (ls' := [(4, qi 0), (3, qi 0), (0, qr a0), (1, qi x1), (2, qi x2)]) dX12_fresh_13 rfl (Nat.le_of_ble_eq_true rfl) rfl ?_
  exact fun g => ok_pick [2, 1, 0] rfl (w_X12_fresh_h15 (N := N) h0 N _ _ _ g)
theorem ct_X12_fresh {η : am_E} {l : Launch} {N : Nat} {n : Nat} {K : am_K} {I : am_I} {F : am_F} {a0 : Nat} {r0 : Int × am_I} {x1 : Int} {x2 : Int} (h0 : (K a0).1 = 12) : X12_fresh N K F a0 I x1 x2 = some r0 → am_Ct η l yX12_fresh cX12_fresh 7 none 0 0 0 0 [qr a0, qi x1, qi x2] n K I F (am_pS 0 r0 n K F) := fun g => am_Ct.of false (by decide) (by decide) (Nat.le_of_ble_eq_true rfl) (fun _ => w_X12_fresh (N := N) h0 g)
def M_X12_init (mc ms : Nat) : am_M := (yX12_init.cls, cX12_init, 1, none, am_room 1 26 mc ms, true)
def X12_init (N : Nat) (a0 : Nat) (n : Nat) (K : am_K) (I : am_I) (F : am_F) : Option am_A :=
  if a0 ≠ 0 then if (0 : Int) ≤ 32 ∧ 32 ≤ (60000000 : Int) then am_nw n (101, 32) K I F (fun n_2 K_3 I_4 F_5 => am_mo (0 + 1) (0 + (32 : Int).toNat) (if (K_3 a0).1 = 12 then am_lt (am_u2 F_5 a0 2 n) (fun F_11 => am_nw n_2 (100, 32) K_3 I_4 F_11 (fun n_12 K_13 I_14 F_15 => am_mo ((0 + 1) + 1) ((0 + (32 : Int).toNat) + (32 : Int).toNat) (if (K_13 a0).1 = 12 then am_lt (am_u2 F_15 a0 3 n_2) (fun F_20 => if (0 : Int) ≤ 2 ∧ 2 ≤ (60000000 : Int) then am_nw n_12 (100, 2) K_13 I_14 F_20 (fun n_21 K_22 I_23 F_24 => am_mo (((0 + 1) + 1) + 1) (((0 + (32 : Int).toNat) + (32 : Int).toNat) + (2 : Int).toNat) (if (K_22 a0).1 = 12 then am_lt (am_u2 F_24 a0 4 n_12) (fun F_30 => am_nw n_21 (100, 32) K_22 I_23 F_30 (fun n_31 K_32 I_33 F_34 => am_mo ((((0 + 1) + 1) + 1) + 1) ((((0 + (32 : Int).toNat) + (32 : Int).toNat) + (2 : Int).toNat) + (32 : Int).toNat) (if (K_32 a0).1 = 12 then am_lt (am_u2 F_34 a0 13 n_21) (fun F_39 => am_nw n_31 (100, 32) K_32 I_33 F_39 (fun n_40 K_41 I_42 F_43 => am_mo (((((0 + 1) + 1) + 1) + 1) + 1) (((((0 + (32 : Int).toNat) + (32 : Int).toNat) + (2 : Int).toNat) + (32 : Int).toNat) + (32 : Int).toNat) (if (K_41 a0).1 = 12 then am_lt (am_u2 F_43 a0 14 n_31) (fun F_48 => am_nw n_40 (100, 32) K_41 I_42 F_48 (fun n_49 K_50 I_51 F_52 => am_mo ((((((0 + 1) + 1) + 1) + 1) + 1) + 1) ((((((0 + (32 : Int).toNat) + (32 : Int).toNat) + (2 : Int).toNat) + (32 : Int).toNat) + (32 : Int).toNat) + (32 : Int).toNat) (if (K_50 a0).1 = 12 then am_lt (am_u2 F_52 a0 16 n_40) (fun F_57 => am_nw n_49 (100, 32) K_50 I_51 F_57 (fun n_58 K_59 I_60 F_61 => am_mo (((((((0 + 1) + 1) + 1) + 1) + 1) + 1) + 1) (((((((0 + (32 : Int).toNat) + (32 : Int).toNat) + (2 : Int).toNat) + (32 : Int).toNat) + (32 : Int).toNat) + (32 : Int).toNat) + (32 : Int).toNat) (if (K_59 a0).1 = 12 then am_lt (am_u2 F_61 a0 20 n_49) (fun F_66 => if (0 : Int) ≤ 40000 ∧ 40000 ≤ (60000000 : Int) then am_nw n_58 (100, 40000) K_59 I_60 F_66 (fun n_67 K_68 I_69 F_70 => am_mo ((((((((0 + 1) + 1) + 1) + 1) + 1) + 1) + 1) + 1) ((((((((0 + (32 : Int).toNat) + (32 : Int).toNat) + (2 : Int).toNat) + (32 : Int).toNat) + (32 : Int).toNat) + (32 : Int).toNat) + (32 : Int).toNat) + (40000 : Int).toNat) (if (K_68 a0).1 = 12 then am_lt (am_u2 F_70 a0 25 n_58) (fun F_76 => am_nw n_67 (100, 40000) K_68 I_69 F_76 (fun n_77 K_78 I_79 F_80 => am_mo (((((((((0 + 1) + 1) + 1) + 1) + 1) + 1) + 1) + 1) + 1) (((((((((0 + (32 : Int).toNat) + (32 : Int).toNat) + (2 : Int).toNat) + (32 : Int).toNat) + (32 : Int).toNat) + (32 : Int).toNat) + (32 : Int).toNat) + (40000 : Int).toNat) + (40000 : Int).toNat) (if (K_78 a0).1 = 12 then am_lt (am_u2 F_80 a0 26 n_67) (fun F_85 => am_nw n_77 (100, 40000) K_78 I_79 F_85 (fun n_86 K_87 I_88 F_89 => am_mo ((((((((((0 + 1) + 1) + 1) + 1) + 1) + 1) + 1) + 1) + 1) + 1) ((((((((((0 + (32 : Int).toNat) + (32 : Int).toNat) + (2 : Int).toNat) + (32 : Int).toNat) + (32 : Int).toNat) + (32 : Int).toNat) + (32 : Int).toNat) + (40000 : Int).toNat) + (40000 : Int).toNat) + (40000 : Int).toNat) (if (K_87 a0).1 = 12 then am_lt (am_u2 F_89 a0 27 n_77) (fun F_94 => am_nw n_86 (100, 40000) K_87 I_88 F_94 (fun n_95 K_96 I_97 F_98 => am_mo (((((((((((0 + 1) + 1) + 1) + 1) + 1) + 1) + 1) + 1) + 1) + 1) + 1) (((((((((((0 + (32 : Int).toNat) + (32 : Int).toNat) + (2 : Int).toNat) + (32 : Int).toNat) + (32 : Int).toNat) + (32 : Int).toNat) + (32 : Int).toNat) + (40000 : Int).toNat) + (40000 : Int).toNat) + (40000 : Int).toNat) + (40000 : Int).toNat) (if (K_96 a0).1 = 12 then am_lt (am_u2 F_98 a0 28 n_86) (fun F_103 => if (0 : Int) ≤ 40001 ∧ 40001 ≤ (60000000 : Int) then am_nw n_95 (100, 40001) K_96 I_97 F_103 (fun n_104 K_105 I_106 F_107 => am_mo ((((((((((((0 + 1) + 1) + 1) + 1) + 1) + 1) + 1) + 1) + 1) + 1) + 1) + 1) ((((((((((((0 + (32 : Int).toNat) + (32 : Int).toNat) + (2 : Int).toNat) + (32 : Int).toNat) + (32 : Int).toNat) + (32 : Int).toNat) + (32 : Int).toNat) + (40000 : Int).toNat) + (40000 : Int).toNat) + (40000 : Int).toNat) + (40000 : Int).toNat) + (40001 : Int).toNat) (if (K_105 a0).1 = 12 then am_lt (am_u2 F_107 a0 29 n_95) (fun F_113 => if (0 : Int) ≤ 200064 ∧ 200064 ≤ (60000000 : Int) then am_nw n_104 (100, 200064) K_105 I_106 F_113 (fun n_114 K_115 I_116 F_117 => am_mo (((((((((((((0 + 1) + 1) + 1) + 1) + 1) + 1) + 1) + 1) + 1) + 1) + 1) + 1) + 1) (((((((((((((0 + (32 : Int).toNat) + (32 : Int).toNat) + (2 : Int).toNat) + (32 : Int).toNat) + (32 : Int).toNat) + (32 : Int).toNat) + (32 : Int).toNat) + (40000 : Int).toNat) + (40000 : Int).toNat) + (40000 : Int).toNat) + (40000 : Int).toNat) + (40001 : Int).toNat) + (200064 : Int).toNat) (if (K_115 a0).1 = 12 then am_lt (am_u2 F_117 a0 30 n_104) (fun F_123 => am_nw n_114 (100, 200064) K_115 I_116 F_123 (fun n_124 K_125 I_126 F_127 => am_mo ((((((((((((((0 + 1) + 1) + 1) + 1) + 1) + 1) + 1) + 1) + 1) + 1) + 1) + 1) + 1) + 1) ((((((((((((((0 + (32 : Int).toNat) + (32 : Int).toNat) + (2 : Int).toNat) + (32 : Int).toNat) + (32 : Int).toNat) + (32 : Int).toNat) + (32 : Int).toNat) + (40000 : Int).toNat) + (40000 : Int).toNat) + (40000 : Int).toNat) + (40000 : Int).toNat) + (40001 : Int).toNat) + (200064 : Int).toNat) + (200064 : Int).toNat) (if (K_125 a0).1 = 12 then am_lt (am_u2 F_127 a0 31 n_114) (fun F_132 => am_nw n_124 (100, 40000) K_125 I_126 F_132 (fun n_133 K_134 I_135 F_136 => am_mo (((((((((((((((0 + 1) + 1) + 1) + 1) + 1) + 1) + 1) + 1) + 1) + 1) + 1) + 1) + 1) + 1) + 1) (((((((((((((((0 + (32 : Int).toNat) + (32 : Int).toNat) + (2 : Int).toNat) + (32 : Int).toNat) + (32 : Int).toNat) + (32 : Int).toNat) + (32 : Int).toNat) + (40000 : Int).toNat) + (40000 : Int).toNat) + (40000 : Int).toNat) + (40000 : Int).toNat) + (40001 : Int).toNat) + (200064 : Int).toNat) + (200064 : Int).toNat) + (40000 : Int).toNat) (if (K_134 a0).1 = 12 then am_lt (am_u2 F_136 a0 32 n_124) (fun F_141 => am_nw n_133 (100, 40000) K_134 I_135 F_141 (fun n_142 K_143 I_144 F_145 => am_mo ((((((((((((((((0 + 1) + 1) + 1) + 1) + 1) + 1) + 1) + 1) + 1) + 1) + 1) + 1) + 1) + 1) + 1) + 1) ((((((((((((((((0 + (32 : Int).toNat) + (32 : Int).toNat) + (2 : Int).toNat) + (32 : Int).toNat) + (32 : Int).toNat) + (32 : Int).toNat) + (32 : Int).toNat) + (40000 : Int).toNat) + (40000 : Int).toNat) + (40000 : Int).toNat) + (40000 : Int).toNat) + (40001 : Int).toNat) + (200064 : Int).toNat) + (200064 : Int).toNat) + (40000 : Int).toNat) + (40000 : Int).toNat) (if (K_143 a0).1 = 12 then am_lt (am_u2 F_145 a0 33 n_133) (fun F_150 => am_nw n_142 (100, 40000) K_143 I_144 F_150 (fun n_151 K_152 I_153 F_154 => am_mo (((((((((((((((((0 + 1) + 1) + 1) + 1) + 1) + 1) + 1) + 1) + 1) + 1) + 1) + 1) + 1) + 1) + 1) + 1) + 1) (((((((((((((((((0 + (32 : Int).toNat) + (32 : Int).toNat) + (2 : Int).toNat) + (32 : Int).toNat) + (32 : Int).toNat) + (32 : Int).toNat) + (32 : Int).toNat) + (40000 : Int).toNat) + (40000 : Int).toNat) + (40000 : Int).toNat) + (40000 : Int).toNat) + (40001 : Int).toNat) + (200064 : Int).toNat) + (200064 : Int).toNat) + (40000 : Int).toNat) + (40000 : Int).toNat) + (40000 : Int).toNat) (if (K_152 a0).1 = 12 then am_lt (am_u2 F_154 a0 34 n_142) (fun F_159 => am_nw n_151 (101, 32) K_152 I_153 F_159 (fun n_160 K_161 I_162 F_163 => am_mo ((((((((((((((((((0 + 1) + 1) + 1) + 1) + 1) + 1) + 1) + 1) + 1) + 1) + 1) + 1) + 1) + 1) + 1) + 1) + 1) + 1) ((((((((((((((((((0 + (32 : Int).toNat) + (32 : Int).toNat) + (2 : Int).toNat) + (32 : Int).toNat) + (32 : Int).toNat) + (32 : Int).toNat) + (32 : Int).toNat) + (40000 : Int).toNat) + (40000 : Int).toNat) + (40000 : Int).toNat) + (40000 : Int).toNat) + (40001 : Int).toNat) + (200064 : Int).toNat) + (200064 : Int).toNat) + (40000 : Int).toNat) + (40000 : Int).toNat) + (40000 : Int).toNat) + (32 : Int).toNat) (if (K_161 a0).1 = 12 then am_lt (am_u2 F_163 a0 35 n_151) (fun F_168 => if (0 : Int) ≤ 35035 ∧ 35035 ≤ (60000000 : Int) then am_nw n_160 (100, 35035) K_161 I_162 F_168 (fun n_169 K_170 I_171 F_172 => am_mo (((((((((((((((((((0 + 1) + 1) + 1) + 1) + 1) + 1) + 1) + 1) + 1) + 1) + 1) + 1) + 1) + 1) + 1) + 1) + 1) + 1) + 1) (((((((((((((((((((0 + (32 : Int).toNat) + (32 : Int).toNat) + (2 : Int).toNat) + (32 : Int).toNat) + (32 : Int).toNat) + (32 : Int).toNat) + (32 : Int).toNat) + (40000 : Int).toNat) + (40000 : Int).toNat) + (40000 : Int).toNat) + (40000 : Int).toNat) + (40001 : Int).toNat) + (200064 : Int).toNat) + (200064 : Int).toNat) + (40000 : Int).toNat) + (40000 : Int).toNat) + (40000 : Int).toNat) + (32 : Int).toNat) + (35035 : Int).toNat) (if (K_170 a0).1 = 12 then am_lt (am_u2 F_172 a0 36 n_160) (fun F_178 => if (0 : Int) ≤ 400 ∧ 400 ≤ (60000000 : Int) then am_nw n_169 (100, 400) K_170 I_171 F_178 (fun n_179 K_180 I_181 F_182 => am_mo ((((((((((((((((((((0 + 1) + 1) + 1) + 1) + 1) + 1) + 1) + 1) + 1) + 1) + 1) + 1) + 1) + 1) + 1) + 1) + 1) + 1) + 1) + 1) ((((((((((((((((((((0 + (32 : Int).toNat) + (32 : Int).toNat) + (2 : Int).toNat) + (32 : Int).toNat) + (32 : Int).toNat) + (32 : Int).toNat) + (32 : Int).toNat) + (40000 : Int).toNat) + (40000 : Int).toNat) + (40000 : Int).toNat) + (40000 : Int).toNat) + (40001 : Int).toNat) + (200064 : Int).toNat) + (200064 : Int).toNat) + (40000 : Int).toNat) + (40000 : Int).toNat) + (40000 : Int).toNat) + (32 : Int).toNat) + (35035 : Int).toNat) + (400 : Int).toNat) (if (K_180 a0).1 = 12 then am_lt (am_u2 F_182 a0 41 n_169) (fun F_188 => if (0 : Int) ≤ 401 ∧ 401 ≤ (60000000 : Int) then am_nw n_179 (100, 401) K_180 I_181 F_188 (fun n_189 K_190 I_191 F_192 => am_mo (((((((((((((((((((((0 + 1) + 1) + 1) + 1) + 1) + 1) + 1) + 1) + 1) + 1) + 1) + 1) + 1) + 1) + 1) + 1) + 1) + 1) + 1) + 1) + 1) (((((((((((((((((((((0 + (32 : Int).toNat) + (32 : Int).toNat) + (2 : Int).toNat) + (32 : Int).toNat) + (32 : Int).toNat) + (32 : Int).toNat) + (32 : Int).toNat) + (40000 : Int).toNat) + (40000 : Int).toNat) + (40000 : Int).toNat) + (40000 : Int).toNat) + (40001 : Int).toNat) + (200064 : Int).toNat) + (200064 : Int).toNat) + (40000 : Int).toNat) + (40000 : Int).toNat) + (40000 : Int).toNat) + (32 : Int).toNat) + (35035 : Int).toNat) + (400 : Int).toNat) + (401 : Int).toNat) (if (K_190 a0).1 = 12 then am_lt (am_u2 F_192 a0 42 n_179) (fun F_198 => am_nw n_189 (100, 2) K_190 I_191 F_198 (fun n_199 K_200 I_201 F_202 => am_mo ((((((((((((((((((((((0 + 1) + 1) + 1) + 1) + 1) + 1) + 1) + 1) + 1) + 1) + 1) + 1) + 1) + 1) + 1) + 1) + 1) + 1) + 1) + 1) + 1) + 1) ((((((((((((((((((((((0 + (32 : Int).toNat) + (32 : Int).toNat) + (2 : Int).toNat) + (32 : Int).toNat) + (32 : Int).toNat) + (32 : Int).toNat) + (32 : Int).toNat) + (40000 : Int).toNat) + (40000 : Int).toNat) + (40000 : Int).toNat) + (40000 : Int).toNat) + (40001 : Int).toNat) + (200064 : Int).toNat) + (200064 : Int).toNat) + (40000 : Int).toNat) + (40000 : Int).toNat) + (40000 : Int).toNat) + (32 : Int).toNat) + (35035 : Int).toNat) + (400 : Int).toNat) + (401 : Int).toNat) + (2 : Int).toNat) (if (K_200 a0).1 = 12 then am_lt (am_u2 F_202 a0 44 n_189) (fun F_207 => am_nw n_199 (102, 2) K_200 I_201 F_207 (fun n_208 K_209 I_210 F_211 => am_mo (((((((((((((((((((((((0 + 1) + 1) + 1) + 1) + 1) + 1) + 1) + 1) + 1) + 1) + 1) + 1) + 1) + 1) + 1) + 1) + 1) + 1) + 1) + 1) + 1) + 1) + 1) (((((((((((((((((((((((0 + (32 : Int).toNat) + (32 : Int).toNat) + (2 : Int).toNat) + (32 : Int).toNat) + (32 : Int).toNat) + (32 : Int).toNat) + (32 : Int).toNat) + (40000 : Int).toNat) + (40000 : Int).toNat) + (40000 : Int).toNat) + (40000 : Int).toNat) + (40001 : Int).toNat) + (200064 : Int).toNat) + (200064 : Int).toNat) + (40000 : Int).toNat) + (40000 : Int).toNat) + (40000 : Int).toNat) + (32 : Int).toNat) + (35035 : Int).toNat) + (400 : Int).toNat) + (401 : Int).toNat) + (2 : Int).toNat) + (2 : Int).toNat) (if (K_209 a0).1 = 12 then am_lt (am_u2 F_211 a0 45 n_199) (fun F_216 => am_cl (X12_fresh N K_209 F_216 a0 I_210 2 3) (fun _ I_217 => some (0, n_208, K_209, I_217, F_216, (((((((((((((((((((((((0 + 1) + 1) + 1) + 1) + 1) + 1) + 1) + 1) + 1) + 1) + 1) + 1) + 1) + 1) + 1) + 1) + 1) + 1) + 1) + 1) + 1) + 1) + 1), (((((((((((((((((((((((0 + (32 : Int).toNat) + (32 : Int).toNat) + (2 : Int).toNat) + (32 : Int).toNat) + (32 : Int).toNat) + (32 : Int).toNat) + (32 : Int).toNat) + (40000 : Int).toNat) + (40000 : Int).toNat) + (40000 : Int).toNat) + (40000 : Int).toNat) + (40001 : Int).toNat) + (200064 : Int).toNat) + (200064 : Int).toNat) + (40000 : Int).toNat) + (40000 : Int).toNat) + (40000 : Int).toNat) + (32 : Int).toNat) + (35035 : Int).toNat) + (400 : Int).toNat) + (401 : Int).toNat) + (2 : Int).toNat) + (2 : Int).toNat)))) else none))) else none))) else none)) else none) else none)) else none) else none)) else none) else none))) else none))) else none))) else none))) else none))) else none)) else none) else none)) else none) else none))) else none))) else none))) else none)) else none) else none))) else none))) else none))) else none))) else none)) else none) else none))) else none)) else none else none
theorem w_X12_init {η : am_E} {l : Launch} {N : Nat} {n : Nat} {K : am_K} {I : am_I} {F : am_F} {a0 : Nat} {r0 : am_A} (h0 : (K a0).1 = 12) : X12_init N a0 n K I F = some r0 → Ok η l (M_X12_init (am_ac1 r0) (am_az1 r0)) (am_qm η (am_pA 0 r0) (am_ac1 r0) (am_az1 r0)) 0 [(0, qr a0)] [] n K I F 0 0 := by
  unfold X12_init
  refine ok_aload_n (q := 1) 0 dX12_init_0 rfl rfl rfl ?_
  refine fi_chk (fun h_1 => ?_)
  refine ok_objInit (q := 4) dX12_init_1 rfl oi_X12_1 h_1 (Nat.le_of_ble_eq_true rfl) (Nat.le_of_ble_eq_true rfl) (Nat.le_of_ble_eq_true rfl) ?_
  refine ok_aload_n (q := 5) 0 dX12_init_4 rfl rfl rfl ?_
  refine ok_bipush (q := 7) (x := 32) dX12_init_5 rfl rfl (by decide) ?_
  refine fi_chk (fun h_6 => ?_)
  refine fi_newz (q := 9) dX12_init_7 rfl h_6 na_newz (Nat.le_refl _) (Nat.le_refl _) (fun n_2 K_3 I_4 F_5 hc_8 hz_9 h_7 => ?_)
  refine fi_chk (fun h_10 => ?_)
  refine ok_putRF (q := 12) (ci := 12) (k := 2) dX12_init_9 rfl fo_X12_9 h_10 ft_12_2 rfl ff_12_2 rfl rfl (fun F_11 => ?_)
  refine ok_aload_n (q := 13) 0 dX12_init_12 rfl rfl rfl ?_
  refine ok_bipush (q := 15) (x := 32) dX12_init_13 rfl rfl (by decide) ?_
  refine fi_newi (q := 17) dX12_init_15 rfl h_6 na_newi (Nat.le_refl _) (Nat.le_refl _) (fun n_12 K_13 I_14 F_15 hc_17 hz_18 h_16 => ?_)
  refine fi_chk (fun h_19 => ?_)
  refine ok_putRF (q := 20) (ci := 12) (k := 3) dX12_init_17 rfl fo_X12_13 h_19 ft_12_3 rfl ff_12_3 rfl rfl (fun F_20 => ?_)
  refine ok_aload_n (q := 21) 0 dX12_init_20 rfl rfl rfl ?_
  refine ok_iconst (q := 22) (x := 2) dX12_init_21 rfl rfl (by decide) ?_
  refine fi_chk (fun h_25 => ?_)
  refine fi_newi (q := 24) dX12_init_22 rfl h_25 na_newi (Nat.le_refl _) (Nat.le_refl _) (fun n_21 K_22 I_23 F_24 hc_27 hz_28 h_26 => ?_)
  refine fi_chk (fun h_29 => ?_)
  refine ok_putRF (q := 27) (ci := 12) (k := 4) dX12_init_24 rfl fo_X12_17 h_29 ft_12_4 rfl ff_12_4 rfl rfl (fun F_30 => ?_)
  refine ok_aload_n (q := 28) 0 dX12_init_27 rfl rfl rfl ?_
  refine ok_bipush (q := 30) (x := 32) dX12_init_28 rfl rfl (by decide) ?_
  refine fi_newi (q := 32) dX12_init_30 rfl h_6 na_newi (Nat.le_refl _) (Nat.le_refl _) (fun n_31 K_32 I_33 F_34 hc_36 hz_37 h_35 => ?_)
  refine fi_chk (fun h_38 => ?_)
  refine ok_putRF (q := 35) (ci := 12) (k := 13) dX12_init_32 rfl fo_X12_20 h_38 ft_12_13 rfl ff_12_13 rfl rfl (fun F_39 => ?_)
  refine ok_aload_n (q := 36) 0 dX12_init_35 rfl rfl rfl ?_
  refine ok_bipush (q := 38) (x := 32) dX12_init_36 rfl rfl (by decide) ?_
  refine fi_newi (q := 40) dX12_init_38 rfl h_6 na_newi (Nat.le_refl _) (Nat.le_refl _) (fun n_40 K_41 I_42 F_43 hc_45 hz_46 h_44 => ?_)
  refine fi_chk (fun h_47 => ?_)
  refine ok_putRF (q := 43) (ci := 12) (k := 14) dX12_init_40 rfl fo_X12_23 h_47 ft_12_14 rfl ff_12_14 rfl rfl (fun F_48 => ?_)
  refine ok_aload_n (q := 44) 0 dX12_init_43 rfl rfl rfl ?_
  refine ok_bipush (q := 46) (x := 32) dX12_init_44 rfl rfl (by decide) ?_
  refine fi_newi (q := 48) dX12_init_46 rfl h_6 na_newi (Nat.le_refl _) (Nat.le_refl _) (fun n_49 K_50 I_51 F_52 hc_54 hz_55 h_53 => ?_)
  refine fi_chk (fun h_56 => ?_)
  refine ok_putRF (q := 51) (ci := 12) (k := 16) dX12_init_48 rfl fo_X12_26 h_56 ft_12_16 rfl ff_12_16 rfl rfl (fun F_57 => ?_)
  refine ok_aload_n (q := 52) 0 dX12_init_51 rfl rfl rfl ?_
  refine ok_bipush (q := 54) (x := 32) dX12_init_52 rfl rfl (by decide) ?_
  refine fi_newi (q := 56) dX12_init_54 rfl h_6 na_newi (Nat.le_refl _) (Nat.le_refl _) (fun n_58 K_59 I_60 F_61 hc_63 hz_64 h_62 => ?_)
  refine fi_chk (fun h_65 => ?_)
  refine ok_putRF (q := 59) (ci := 12) (k := 20) dX12_init_56 rfl fo_X12_29 h_65 ft_12_20 rfl ff_12_20 rfl rfl (fun F_66 => ?_)
  refine ok_aload_n (q := 60) 0 dX12_init_59 rfl rfl rfl ?_
  refine ok_ldc (q := 62) (x := 40000) (v := 40000) dX12_init_60 rfl kc_X12_32 rfl (by decide) ?_
  refine fi_chk (fun h_71 => ?_)
  refine fi_newi (q := 64) dX12_init_62 rfl h_71 na_newi (Nat.le_refl _) (Nat.le_refl _) (fun n_67 K_68 I_69 F_70 hc_73 hz_74 h_72 => ?_)
  refine fi_chk (fun h_75 => ?_)
  refine ok_putRF (q := 67) (ci := 12) (k := 25) dX12_init_64 rfl fo_X12_33 h_75 ft_12_25 rfl ff_12_25 rfl rfl (fun F_76 => ?_)
  refine ok_aload_n (q := 68) 0 dX12_init_67 rfl rfl rfl ?_
  refine ok_ldc (q := 70) (x := 40000) (v := 40000) dX12_init_68 rfl kc_X12_32 rfl (by decide) ?_
  refine fi_newi (q := 72) dX12_init_70 rfl h_71 na_newi (Nat.le_refl _) (Nat.le_refl _) (fun n_77 K_78 I_79 F_80 hc_82 hz_83 h_81 => ?_)
  refine fi_chk (fun h_84 => ?_)
  refine ok_putRF (q := 75) (ci := 12) (k := 26) dX12_init_72 rfl fo_X12_36 h_84 ft_12_26 rfl ff_12_26 rfl rfl (fun F_85 => ?_)
  refine ok_aload_n (q := 76) 0 dX12_init_75 rfl rfl rfl ?_
  refine ok_ldc (q := 78) (x := 40000) (v := 40000) dX12_init_76 rfl kc_X12_32 rfl (by decide) ?_
  refine fi_newi (q := 80) dX12_init_78 rfl h_71 na_newi (Nat.le_refl _) (Nat.le_refl _) (fun n_86 K_87 I_88 F_89 hc_91 hz_92 h_90 => ?_)
  refine fi_chk (fun h_93 => ?_)
  refine ok_putRF (q := 83) (ci := 12) (k := 27) dX12_init_80 rfl fo_X12_39 h_93 ft_12_27 rfl ff_12_27 rfl rfl (fun F_94 => ?_)
  refine ok_aload_n (q := 84) 0 dX12_init_83 rfl rfl rfl ?_
  refine ok_ldc (q := 86) (x := 40000) (v := 40000) dX12_init_84 rfl kc_X12_32 rfl (by decide) ?_
  refine fi_newi (q := 88) dX12_init_86 rfl h_71 na_newi (Nat.le_refl _) (Nat.le_refl _) (fun n_95 K_96 I_97 F_98 hc_100 hz_101 h_99 => ?_)
  refine fi_chk (fun h_102 => ?_)
  refine ok_putRF (q := 91) (ci := 12) (k := 28) dX12_init_88 rfl fo_X12_42 h_102 ft_12_28 rfl ff_12_28 rfl rfl (fun F_103 => ?_)
  refine ok_aload_n (q := 92) 0 dX12_init_91 rfl rfl rfl ?_
  refine ok_ldc (q := 94) (x := 40001) (v := 40001) dX12_init_92 rfl kc_X12_45 rfl (by decide) ?_
  refine fi_chk (fun h_108 => ?_)
  refine fi_newi (q := 96) dX12_init_94 rfl h_108 na_newi (Nat.le_refl _) (Nat.le_refl _) (fun n_104 K_105 I_106 F_107 hc_110 hz_111 h_109 => ?_)
  refine fi_chk (fun h_112 => ?_)
  refine ok_putRF (q := 99) (ci := 12) (k := 29) dX12_init_96 rfl fo_X12_46 h_112 ft_12_29 rfl ff_12_29 rfl rfl (fun F_113 => ?_)
  refine ok_aload_n (q := 100) 0 dX12_init_99 rfl rfl rfl ?_
  refine ok_ldc (q := 102) (x := 200064) (v := 200064) dX12_init_100 rfl kc_X12_49 rfl (by decide) ?_
  refine fi_chk (fun h_118 => ?_)
  refine fi_newi (q := 104) dX12_init_102 rfl h_118 na_newi (Nat.le_refl _) (Nat.le_refl _) (fun n_114 K_115 I_116 F_117 hc_120 hz_121 h_119 => ?_)
  refine fi_chk (fun h_122 => ?_)
  refine ok_putRF (q := 107) (ci := 12) (k := 30) dX12_init_104 rfl fo_X12_50 h_122 ft_12_30 rfl ff_12_30 rfl rfl (fun F_123 => ?_)
  refine ok_aload_n (q := 108) 0 dX12_init_107 rfl rfl rfl ?_
  refine ok_ldc (q := 110) (x := 200064) (v := 200064) dX12_init_108 rfl kc_X12_49 rfl (by decide) ?_
  refine fi_newi (q := 112) dX12_init_110 rfl h_118 na_newi (Nat.le_refl _) (Nat.le_refl _) (fun n_124 K_125 I_126 F_127 hc_129 hz_130 h_128 => ?_)
  refine fi_chk (fun h_131 => ?_)
  refine ok_putRF (q := 115) (ci := 12) (k := 31) dX12_init_112 rfl fo_X12_53 h_131 ft_12_31 rfl ff_12_31 rfl rfl (fun F_132 => ?_)
  refine ok_aload_n (q := 116) 0 dX12_init_115 rfl rfl rfl ?_
  refine ok_ldc (q := 118) (x := 40000) (v := 40000) dX12_init_116 rfl kc_X12_32 rfl (by decide) ?_
  refine fi_newi (q := 120) dX12_init_118 rfl h_71 na_newi (Nat.le_refl _) (Nat.le_refl _) (fun n_133 K_134 I_135 F_136 hc_138 hz_139 h_137 => ?_)
  refine fi_chk (fun h_140 => ?_)
  refine ok_putRF (q := 123) (ci := 12) (k := 32) dX12_init_120 rfl fo_X12_56 h_140 ft_12_32 rfl ff_12_32 rfl rfl (fun F_141 => ?_)
  refine ok_aload_n (q := 124) 0 dX12_init_123 rfl rfl rfl ?_
  refine ok_ldc (q := 126) (x := 40000) (v := 40000) dX12_init_124 rfl kc_X12_32 rfl (by decide) ?_
  refine fi_newi (q := 128) dX12_init_126 rfl h_71 na_newi (Nat.le_refl _) (Nat.le_refl _) (fun n_142 K_143 I_144 F_145 hc_147 hz_148 h_146 => ?_)
  refine fi_chk (fun h_149 => ?_)
  refine ok_putR (q := 131) (ci := 12) (k := 33) dX12_init_128 rfl fo_X12_59 h_149 ft_12_33 rfl ff_12_33 (fun F_150 => ?_)
  refine ok_aload_n (q := 132) 0 dX12_init_131 rfl rfl rfl ?_
  refine ok_ldc (q := 134) (x := 40000) (v := 40000) dX12_init_132 rfl kc_X12_32 rfl (by decide) ?_
  refine fi_newi (q := 136) dX12_init_134 rfl h_71 na_newi (Nat.le_refl _) (Nat.le_refl _) (fun n_151 K_152 I_153 F_154 hc_156 hz_157 h_155 => ?_)
  refine fi_chk (fun h_158 => ?_)
  refine ok_putR (q := 139) (ci := 12) (k := 34) dX12_init_136 rfl fo_X12_62 h_158 ft_12_34 rfl ff_12_34 (fun F_159 => ?_)
  refine ok_aload_n (q := 140) 0 dX12_init_139 rfl rfl rfl ?_
  refine ok_bipush (q := 142) (x := 32) dX12_init_140 rfl rfl (by decide) ?_
  refine fi_newz (q := 144) dX12_init_142 rfl h_6 na_newz (Nat.le_refl _) (Nat.le_refl _) (fun n_160 K_161 I_162 F_163 hc_165 hz_166 h_164 => ?_)
  refine fi_chk (fun h_167 => ?_)
  refine ok_putRF (q := 147) (ci := 12) (k := 35) dX12_init_144 rfl fo_X12_65 h_167 ft_12_35 rfl ff_12_35 rfl rfl (fun F_168 => ?_)
  refine ok_aload_n (q := 148) 0 dX12_init_147 rfl rfl rfl ?_
  refine ok_ldc (q := 150) (x := 35035) (v := 35035) dX12_init_148 rfl kc_X12_68 rfl (by decide) ?_
  refine fi_chk (fun h_173 => ?_)
  refine fi_newi (q := 152) dX12_init_150 rfl h_173 na_newi (Nat.le_refl _) (Nat.le_refl _) (fun n_169 K_170 I_171 F_172 hc_175 hz_176 h_174 => ?_)
  refine fi_chk (fun h_177 => ?_)
  refine ok_putRF (q := 155) (ci := 12) (k := 36) dX12_init_152 rfl fo_X12_69 h_177 ft_12_36 rfl ff_12_36 rfl rfl (fun F_178 => ?_)
  refine ok_aload_n (q := 156) 0 dX12_init_155 rfl rfl rfl ?_
  refine ok_sipush (q := 159) (x := 400) dX12_init_156 rfl rfl (by decide) ?_
  refine fi_chk (fun h_183 => ?_)
  refine fi_newi (q := 161) dX12_init_159 rfl h_183 na_newi (Nat.le_refl _) (Nat.le_refl _) (fun n_179 K_180 I_181 F_182 hc_185 hz_186 h_184 => ?_)
  refine fi_chk (fun h_187 => ?_)
  refine ok_putRF (q := 164) (ci := 12) (k := 41) dX12_init_161 rfl fo_X12_72 h_187 ft_12_41 rfl ff_12_41 rfl rfl (fun F_188 => ?_)
  refine ok_aload_n (q := 165) 0 dX12_init_164 rfl rfl rfl ?_
  refine ok_sipush (q := 168) (x := 401) dX12_init_165 rfl rfl (by decide) ?_
  refine fi_chk (fun h_193 => ?_)
  refine fi_newi (q := 170) dX12_init_168 rfl h_193 na_newi (Nat.le_refl _) (Nat.le_refl _) (fun n_189 K_190 I_191 F_192 hc_195 hz_196 h_194 => ?_)
  refine fi_chk (fun h_197 => ?_)
  refine ok_putRF (q := 173) (ci := 12) (k := 42) dX12_init_170 rfl fo_X12_75 h_197 ft_12_42 rfl ff_12_42 rfl rfl (fun F_198 => ?_)
  refine ok_aload_n (q := 174) 0 dX12_init_173 rfl rfl rfl ?_
  refine ok_iconst (q := 175) (x := 2) dX12_init_174 rfl rfl (by decide) ?_
  refine fi_newi (q := 177) dX12_init_175 rfl h_25 na_newi (Nat.le_refl _) (Nat.le_refl _) (fun n_199 K_200 I_201 F_202 hc_204 hz_205 h_203 => ?_)
  refine fi_chk (fun h_206 => ?_)
  refine ok_putRF (q := 180) (ci := 12) (k := 44) dX12_init_177 rfl fo_X12_78 h_206 ft_12_44 rfl ff_12_44 rfl rfl (fun F_207 => ?_)
  refine ok_aload_n (q := 181) 0 dX12_init_180 rfl rfl rfl ?_
  refine ok_iconst (q := 182) (x := 2) dX12_init_181 rfl rfl (by decide) ?_
  refine fi_newl (q := 184) dX12_init_182 rfl h_25 na_newl (Nat.le_refl _) (Nat.le_refl _) (fun n_208 K_209 I_210 F_211 hc_213 hz_214 h_212 => ?_)
  refine fi_chk (fun h_215 => ?_)
  refine ok_putRF (q := 187) (ci := 12) (k := 45) dX12_init_184 rfl fo_X12_81 h_215 ft_12_45 rfl ff_12_45 rfl rfl (fun F_216 => ?_)
  refine ok_aload_n (q := 188) 0 dX12_init_187 rfl rfl rfl ?_
  refine ok_iconst (q := 189) (x := 2) dX12_init_188 rfl rfl (by decide) ?_
  refine ok_iconst (q := 190) (x := 3) dX12_init_189 rfl rfl (by decide) ?_
  refine fi_callV0S (q := 193) (as := [qi 2, qi 3]) (st := []) dX12_init_190 rfl mo_X12_85 h_215 rfl (Nat.le_of_ble_eq_true rfl) rfl rfl (Nat.le_of_ble_eq_true rfl) (Nat.le_of_ble_eq_true rfl) (Nat.le_of_ble_eq_true rfl) hc_213 hz_214 (fun _ hr => ct_X12_fresh (N := N) h_215 hr) (fun _ I_217 => ?_)
  exact fi_returnA dX12_init_193 rfl
theorem ct_X12_init {η : am_E} {l : Launch} {N : Nat} {n : Nat} {K : am_K} {I : am_I} {F : am_F} {a0 : Nat} {r0 : am_A} (h0 : (K a0).1 = 12) : X12_init N a0 n K I F = some r0 → am_Ct η l yX12_init cX12_init 1 none 1 26 (am_ac1 r0) (am_az1 r0) [qr a0] n K I F (am_pA 0 r0) := fun g => am_Ct.of true (by decide) (by decide) (Nat.le_of_ble_eq_true rfl) (fun _ => w_X12_init (N := N) h0 g)
def M_X12_isIn : am_M := (yX12_isIn.cls, cX12_isIn, 6, (some .boolean), am_room 0 0 0 0, false)
def X12_isIn_b18 (N : Nat) (K : am_K) (F : am_F) (I : am_I) (s0 : Int) : Option Int :=
  if s0 = 0 ∨ s0 = 1 then some (s0) else none
theorem w_X12_isIn_b18 {η : am_E} {l : Launch} {N : Nat} {n : Nat} {K : am_K} {I : am_I} {F : am_F} {r0 : Int} {s0 : Int} : X12_isIn_b18 N K F I s0 = some r0 → Ok η l M_X12_isIn (am_qm η (am_pS 1 (r0, I) n K F) 0 0) 18 [] [qi s0] n K I F 0 0 := by
  unfold X12_isIn_b18
  refine fi_chk (fun h_1 => ?_)
  exact fi_zreturnP dX12_isIn_18 rfl h_1
def X12_isIn_b17 (N : Nat) (K : am_K) (F : am_F) (I : am_I) : Option Int :=
  X12_isIn_b18 N K F I 0
theorem w_X12_isIn_b17 {η : am_E} {l : Launch} {N : Nat} {n : Nat} {K : am_K} {I : am_I} {F : am_F} {r0 : Int} : X12_isIn_b17 N K F I = some r0 → Ok η l M_X12_isIn (am_qm η (am_pS 1 (r0, I) n K F) 0 0) 17 [] [] n K I F 0 0 := by
  unfold X12_isIn_b17
  refine ok_iconst (q := 18) (x := 0) dX12_isIn_17 rfl rfl (by decide) ?_
  exact fun g => ok_pick [] rfl (w_X12_isIn_b18 (N := N) g)
def X12_isIn (N : Nat) (K : am_K) (F : am_F) (I : am_I) (x0 : Int) (x2 : Int) (x4 : Int) : Option Int :=
  if 0 ≤ (am_cmp x0 x2) then (if (am_cmp x0 x4) ≤ 0 then (X12_isIn_b18 N K F I 1) else (X12_isIn_b17 N K F I )) else (X12_isIn_b17 N K F I )
theorem w_X12_isIn {η : am_E} {l : Launch} {N : Nat} {n : Nat} {K : am_K} {I : am_I} {F : am_F} {r0 : Int} {x0 : Int} {x2 : Int} {x4 : Int} : X12_isIn N K F I x0 x2 x4 = some r0 → Ok η l M_X12_isIn (am_qm η (am_pS 1 (r0, I) n K F) 0 0) 0 [(0, ql x0), (2, ql x2), (4, ql x4)] [] n K I F 0 0 := by
  unfold X12_isIn
  refine ok_lload_n (q := 1) 0 dX12_isIn_0 rfl rfl rfl ?_
  refine ok_lload_n (q := 2) 1 dX12_isIn_1 rfl rfl rfl ?_
  refine ok_lcmp (q := 3) dX12_isIn_2 rfl ?_
  refine ok_if_lt (q := 17) (q2 := 6) dX12_isIn_3 rfl rfl ?_ ?_
  · skip
    exact fun g => ok_pick [] rfl (w_X12_isIn_b17 (N := N) g)
  · skip
    refine ok_lload_n (q := 7) 0 dX12_isIn_6 rfl rfl rfl ?_
    refine ok_lload (q := 9) 2 dX12_isIn_7 rfl rfl ?_
    refine ok_lcmp (q := 10) dX12_isIn_9 rfl ?_
    refine ok_if_gt (q := 17) (q2 := 13) dX12_isIn_10 rfl rfl ?_ ?_
    · skip
      exact fun g => ok_pick [] rfl (w_X12_isIn_b17 (N := N) g)
    · skip
      refine ok_iconst (q := 14) (x := 1) dX12_isIn_13 rfl rfl (by decide) ?_
      refine ok_goto (q := 18) dX12_isIn_14 rfl ?_
      exact fun g => ok_pick [] rfl (w_X12_isIn_b18 (N := N) g)
theorem ct_X12_isIn {η : am_E} {l : Launch} {N : Nat} {n : Nat} {K : am_K} {I : am_I} {F : am_F} {r0 : Int} {x0 : Int} {x2 : Int} {x4 : Int} : X12_isIn N K F I x0 x2 x4 = some r0 → am_Ct η l yX12_isIn cX12_isIn 6 (some .boolean) 0 0 0 0 [ql x0, ql x2, ql x4] n K I F (am_pS 1 (r0, I) n K F) := fun g => am_Ct.of false (by decide) (by decide) (Nat.le_of_ble_eq_true rfl) (fun _ => w_X12_isIn (N := N) g)
def M_X12_all : am_M := (yX12_all.cls, cX12_all, 1, (some .int), am_room 0 0 0 0, false)
def X12_all (N : Nat) (K : am_K) (F : am_F) (I : am_I) (a0 : Nat) : Option Int :=
  if am_inI ((I a0 0) * (I a0 1)) then some ((I a0 0) * (I a0 1)) else none
theorem w_X12_all {η : am_E} {l : Launch} {N : Nat} {n : Nat} {K : am_K} {I : am_I} {F : am_F} {a0 : Nat} {r0 : Int} (h0 : (K a0).1 = 12) : X12_all N K F I a0 = some r0 → Ok η l M_X12_all (am_qm η (am_pS 1 (r0, I) n K F) 0 0) 0 [(0, qr a0)] [] n K I F 0 0 := by
  unfold X12_all
  refine ok_aload_n (q := 1) 0 dX12_all_0 rfl rfl rfl ?_
  refine ok_getI (q := 4) (ci := 12) (k := 0) (x := I a0 0) dX12_all_1 rfl fo_X12_89 h0 rfl ?_
  refine ok_aload_n (q := 5) 0 dX12_all_4 rfl rfl rfl ?_
  refine ok_getI (q := 8) (ci := 12) (k := 1) (x := I a0 1) dX12_all_5 rfl fo_X12_93 h0 rfl ?_
  refine fi_chk (fun h_1 => ?_)
  refine ok_imul (q := 9) dX12_all_8 rfl h_1 ?_
  exact fi_ireturnP dX12_all_9 rfl
theorem ct_X12_all {η : am_E} {l : Launch} {N : Nat} {n : Nat} {K : am_K} {I : am_I} {F : am_F} {a0 : Nat} {r0 : Int} (h0 : (K a0).1 = 12) : X12_all N K F I a0 = some r0 → am_Ct η l yX12_all cX12_all 1 (some .int) 0 0 0 0 [qr a0] n K I F (am_pS 1 (r0, I) n K F) := fun g => am_Ct.of false (by decide) (by decide) (Nat.le_of_ble_eq_true rfl) (fun _ => w_X12_all (N := N) h0 g)
def M_X12_sideOf : am_M := (yX12_sideOf.cls, cX12_sideOf, 2, (some .int), am_room 0 0 0 0, false)
def X12_sideOf_b20 (N : Nat) (K : am_K) (F : am_F) (I : am_I) (a0 : Nat) (s0 : Int) : Option Int :=
  some (s0)
theorem w_X12_sideOf_b20 {η : am_E} {l : Launch} {N : Nat} {n : Nat} {K : am_K} {I : am_I} {F : am_F} {a0 : Nat} {r0 : Int} {s0 : Int} (h0 : (K a0).1 = 12) : X12_sideOf_b20 N K F I a0 s0 = some r0 → Ok η l M_X12_sideOf (am_qm η (am_pS 1 (r0, I) n K F) 0 0) 20 [(0, qr a0)] [qi s0] n K I F 0 0 := by
  unfold X12_sideOf_b20
  exact fi_ireturnP dX12_sideOf_20 rfl
def X12_sideOf (N : Nat) (K : am_K) (F : am_F) (I : am_I) (a0 : Nat) (x1 : Int) : Option Int :=
  if I a0 1 ≠ (0 : Int) then if 2 ≠ (0 : Int) then if (am_idiv x1 (I a0 1)) < (am_idiv (I a0 0) 2) then (X12_sideOf_b20 N K F I a0 0) else (X12_sideOf_b20 N K F I a0 1) else none else none
theorem w_X12_sideOf {η : am_E} {l : Launch} {N : Nat} {n : Nat} {K : am_K} {I : am_I} {F : am_F} {a0 : Nat} {r0 : Int} {x1 : Int} (h0 : (K a0).1 = 12) : X12_sideOf N K F I a0 x1 = some r0 → Ok η l M_X12_sideOf (am_qm η (am_pS 1 (r0, I) n K F) 0 0) 0 [(0, qr a0), (1, qi x1)] [] n K I F 0 0 := by
  unfold X12_sideOf
  refine ok_iload_n (q := 1) 1 dX12_sideOf_0 rfl rfl rfl ?_
  refine ok_aload_n (q := 2) 0 dX12_sideOf_1 rfl rfl rfl ?_
  refine ok_getI (q := 5) (ci := 12) (k := 1) (x := I a0 1) dX12_sideOf_2 rfl fo_X12_93 h0 rfl ?_
  refine fi_chk (fun h_1 => ?_)
  refine ok_idiv (q := 6) (r := am_idiv x1 (I a0 1)) dX12_sideOf_5 rfl h_1 rfl ?_
  refine ok_aload_n (q := 7) 0 dX12_sideOf_6 rfl rfl rfl ?_
  refine ok_getI (q := 10) (ci := 12) (k := 0) (x := I a0 0) dX12_sideOf_7 rfl fo_X12_89 h0 rfl ?_
  refine ok_iconst (q := 11) (x := 2) dX12_sideOf_10 rfl rfl (by decide) ?_
  refine fi_chk (fun h_2 => ?_)
  refine ok_idiv (q := 12) (r := am_idiv (I a0 0) 2) dX12_sideOf_11 rfl h_2 rfl ?_
  refine ok_icmp_ge (q := 19) (q2 := 15) dX12_sideOf_12 rfl rfl ?_ ?_
  · skip
    refine ok_iconst (q := 20) (x := 1) dX12_sideOf_19 rfl rfl (by decide) ?_
    exact fun g => ok_pick [0] rfl (w_X12_sideOf_b20 (N := N) h0 g)
  · skip
    refine ok_iconst (q := 16) (x := 0) dX12_sideOf_15 rfl rfl (by decide) ?_
    refine ok_goto (q := 20) dX12_sideOf_16 rfl ?_
    exact fun g => ok_pick [0] rfl (w_X12_sideOf_b20 (N := N) h0 g)
theorem ct_X12_sideOf {η : am_E} {l : Launch} {N : Nat} {n : Nat} {K : am_K} {I : am_I} {F : am_F} {a0 : Nat} {r0 : Int} {x1 : Int} (h0 : (K a0).1 = 12) : X12_sideOf N K F I a0 x1 = some r0 → am_Ct η l yX12_sideOf cX12_sideOf 2 (some .int) 0 0 0 0 [qr a0, qi x1] n K I F (am_pS 1 (r0, I) n K F) := fun g => am_Ct.of false (by decide) (by decide) (Nat.le_of_ble_eq_true rfl) (fun _ => w_X12_sideOf (N := N) h0 g)
def M_X12_beside : am_M := (yX12_beside.cls, cX12_beside, 6, (some .int), am_room 1 21 0 0, false)
def X12_beside_b60 (N : Nat) (K : am_K) (F : am_F) (I : am_I) (a0 : Nat) (x5 : Int) : Option Int :=
  some (x5)
theorem w_X12_beside_b60 {η : am_E} {l : Launch} {N : Nat} {n : Nat} {K : am_K} {I : am_I} {F : am_F} {a0 : Nat} {r0 : Int} {x5 : Int} (h0 : (K a0).1 = 12) : X12_beside_b60 N K F I a0 x5 = some r0 → Ok η l M_X12_beside (am_qm η (am_pS 1 (r0, I) n K F) 0 0) 60 [(0, qr a0), (5, qi x5)] [] n K I F 0 0 := by
  unfold X12_beside_b60
  refine ok_iload (q := 62) 1 dX12_beside_60 rfl rfl ?_
  exact fi_ireturnP dX12_beside_62 rfl
def X12_beside_s11 (N : Nat) (K : am_K) (F : am_F) (I : am_I) (a0 : Nat) (k11 : Int → Int → Int → Option Int) (x2 : Int) (x3 : Int) (x4 : Int) : Option Int :=
  if am_inI (x4 + x2) then am_cq (X12_all N K F I a0) (fun v_2 => if am_inI ((x4 + x2) + v_2) then am_cq (X12_all N K F I a0) (fun v_4 => if v_4 ≠ (0 : Int) then am_lt (am_irem ((x4 + x2) + v_2) v_4) (fun x4_6 => if (K (F a0 13)).1 = 100 then if (0 : Int) ≤ x4_6 ∧ x4_6 < (K (F a0 13)).2 then am_lt (I (F a0 13) x4_6) (fun x5_9 => if (K (F a0 2)).1 = 101 then if (0 : Int) ≤ x5_9 ∧ x5_9 < (K (F a0 2)).2 then if (I (F a0 2) x5_9) = 0 then (if 0 ≤ x3 then (am_cq (X12_sideOf N K F I a0 x5_9) (fun v_12 => if v_12 = x3 then (X12_beside_b60 N K F I a0 x5_9) else (k11 x2 x3 x4_6))) else (X12_beside_b60 N K F I a0 x5_9)) else (k11 x2 x3 x4_6) else none else none) else none else none) else none) else none) else none
theorem w_X12_beside_s11 {η : am_E} {l : Launch} {N : Nat} {n : Nat} {K : am_K} {I : am_I} {F : am_F} {a0 : Nat} {r0 : Int} {k11 : Int → Int → Int → Option Int} {x2 : Int} {x3 : Int} {x4 : Int} (h0 : (K a0).1 = 12) (H11 : ∀ (x2 : Int) (x3 : Int) (x4 : Int), k11 x2 x3 x4 = some r0 → Ok η l M_X12_beside (am_qm η (am_pS 1 (r0, I) n K F) 0 0) 11 [(0, qr a0), (2, qi x2), (3, qi x3), (4, qi x4)] [] n K I F 0 0) : X12_beside_s11 N K F I a0 k11 x2 x3 x4 = some r0 → Ok η l M_X12_beside (am_qm η (am_pS 1 (r0, I) n K F) 0 0) 11 [(0, qr a0), (2, qi x2), (3, qi x3), (4, qi x4)] [] n K I F 0 0 := by
  unfold X12_beside_s11
  refine ok_iload (q := 13) 3 dX12_beside_11 rfl rfl ?_
  refine ok_iload_n (q := 14) 1 dX12_beside_13 rfl rfl rfl ?_
  refine fi_chk (fun h_1 => ?_)
  refine ok_iadd (q := 15) dX12_beside_14 rfl h_1 ?_
  refine ok_aload_n (q := 16) 0 dX12_beside_15 rfl rfl rfl ?_
  refine fi_callV1P (q := 19) (as := []) (st := [qi (x4 + x2)]) dX12_beside_16 rfl mo_X12_133 h0 rfl (Nat.le_of_ble_eq_true rfl) rfl rfl (Nat.le_of_ble_eq_true rfl) (Nat.le_of_ble_eq_true rfl) (Nat.le_of_ble_eq_true rfl) (Nat.zero_le _) (Nat.zero_le _) (fun _ hr => ct_X12_all (N := N) h0 hr) (fun v_2 => ?_)
  refine fi_chk (fun h_3 => ?_)
  refine ok_iadd (q := 20) dX12_beside_19 rfl h_3 ?_
  refine ok_aload_n (q := 21) 0 dX12_beside_20 rfl rfl rfl ?_
  refine fi_callV1P (q := 24) (as := []) (st := [qi ((x4 + x2) + v_2)]) dX12_beside_21 rfl mo_X12_133 h0 rfl (Nat.le_of_ble_eq_true rfl) rfl rfl (Nat.le_of_ble_eq_true rfl) (Nat.le_of_ble_eq_true rfl) (Nat.le_of_ble_eq_true rfl) (Nat.zero_le _) (Nat.zero_le _) (fun _ hr => ct_X12_all (N := N) h0 hr) (fun v_4 => ?_)
  refine fi_chk (fun h_5 => ?_)
  refine ok_irem (q := 25) (r := am_irem ((x4 + x2) + v_2) v_4) dX12_beside_24 rfl h_5 rfl ?_
  refine ok_istoreL (q := 27) (fun x4_6 => [(4, qi x4_6), (0, qr a0), (2, qi x2), (3, qi x3)]) dX12_beside_25 rfl (Nat.le_of_ble_eq_true rfl) (fun _ => rfl) (fun x4_6 => ?_)
  refine ok_aload_n (q := 28) 1 dX12_beside_27 rfl rfl rfl ?_
  refine ok_getR (q := 31) (ci := 12) (k := 13) (x := F a0 13) dX12_beside_28 rfl fo_X12_20 h0 rfl ?_
  refine ok_iload (q := 33) 0 dX12_beside_31 rfl rfl ?_
  refine fi_chk (fun h_7 => ?_)
  refine fi_chk (fun h_8 => ?_)
  refine ok_iaload (q := 34) (v := I (F a0 13) x4_6) dX12_beside_33 rfl h_7 h_8.1 h_8.2 rfl ?_
  refine ok_istoreL (q := 36) (fun x5_9 => [(5, qi x5_9), (4, qi x4_6), (0, qr a0), (2, qi x2), (3, qi x3)]) dX12_beside_34 rfl (Nat.le_of_ble_eq_true rfl) (fun _ => rfl) (fun x5_9 => ?_)
  refine ok_aload_n (q := 37) 2 dX12_beside_36 rfl rfl rfl ?_
  refine ok_getR (q := 40) (ci := 12) (k := 2) (x := F a0 2) dX12_beside_37 rfl fo_X12_9 h0 rfl ?_
  refine ok_iload (q := 42) 0 dX12_beside_40 rfl rfl ?_
  refine fi_chk (fun h_10 => ?_)
  refine fi_chk (fun h_11 => ?_)
  refine ok_baload (q := 43) (v := I (F a0 2) x5_9) dX12_beside_42 rfl h_10 h_11.1 h_11.2 rfl ?_
  refine ok_if_ne (q := 11) (q2 := 46) dX12_beside_43 rfl rfl ?_ ?_
  · skip
    exact fun g => ok_pick [2, 3, 4, 1] rfl (H11 _ _ _ g)
  · skip
    refine ok_iload_n (q := 47) 4 dX12_beside_46 rfl rfl rfl ?_
    refine ok_if_lt (q := 60) (q2 := 50) dX12_beside_47 rfl rfl ?_ ?_
    · skip
      exact fun g => ok_pick [2, 0] rfl (w_X12_beside_b60 (N := N) h0 g)
    · skip
      refine ok_aload_n (q := 51) 2 dX12_beside_50 rfl rfl rfl ?_
      refine ok_iload (q := 53) 0 dX12_beside_51 rfl rfl ?_
      refine fi_callV1P (q := 56) (as := [qi x5_9]) (st := []) dX12_beside_53 rfl mo_X12_137 h0 rfl (Nat.le_of_ble_eq_true rfl) rfl rfl (Nat.le_of_ble_eq_true rfl) (Nat.le_of_ble_eq_true rfl) (Nat.le_of_ble_eq_true rfl) (Nat.zero_le _) (Nat.zero_le _) (fun _ hr => ct_X12_sideOf (N := N) h0 hr) (fun v_12 => ?_)
      refine ok_iload_n (q := 57) 4 dX12_beside_56 rfl rfl rfl ?_
      refine ok_icmp_ne (q := 11) (q2 := 60) dX12_beside_57 rfl rfl ?_ ?_
      · skip
        exact fun g => ok_pick [2, 3, 4, 1] rfl (H11 _ _ _ g)
      · skip
        exact fun g => ok_pick [2, 0] rfl (w_X12_beside_b60 (N := N) h0 g)
def X12_beside_h11 (N : Nat) (K : am_K) (F : am_F) (I : am_I) (a0 : Nat) : Nat → Int → Int → Int → Option Int := am_it (fun kh => X12_beside_s11 N K F I a0 kh) (fun _ _ _ => none)
theorem w_X12_beside_h11 {η : am_E} {l : Launch} {N : Nat} {n : Nat} {K : am_K} {I : am_I} {F : am_F} {a0 : Nat} {r0 : Int} (h0 : (K a0).1 = 12) (f : Nat) : ∀ (x2 : Int) (x3 : Int) (x4 : Int), X12_beside_h11 N K F I a0 f x2 x3 x4 = some r0 → Ok η l M_X12_beside (am_qm η (am_pS 1 (r0, I) n K F) 0 0) 11 [(0, qr a0), (2, qi x2), (3, qi x3), (4, qi x4)] [] n K I F 0 0 := by
  induction f with
  | zero => intro x2 x3 x4 g; exact fi_none g
  | succ f ih => intro x2 x3 x4 g; exact w_X12_beside_s11 (N := N) h0 ih g
def X12_beside (N : Nat) (K : am_K) (F : am_F) (I : am_I) (a0 : Nat) (x1 : Int) (x2 : Int) (x3 : Int) : Option Int :=
  if (K (F a0 14)).1 = 100 then if (0 : Int) ≤ x1 ∧ x1 < (K (F a0 14)).2 then am_lt (I (F a0 14) x1) (fun x4_3 => X12_beside_h11 N K F I a0 N x2 x3 x4_3) else none else none
theorem w_X12_beside {η : am_E} {l : Launch} {N : Nat} {n : Nat} {K : am_K} {I : am_I} {F : am_F} {a0 : Nat} {r0 : Int} {x1 : Int} {x2 : Int} {x3 : Int} (h0 : (K a0).1 = 12) : X12_beside N K F I a0 x1 x2 x3 = some r0 → Ok η l M_X12_beside (am_qm η (am_pS 1 (r0, I) n K F) 0 0) 0 [(0, qr a0), (1, qi x1), (2, qi x2), (3, qi x3)] [] n K I F 0 0 := by
  unfold X12_beside
  refine ok_aload_n (q := 1) 0 dX12_beside_0 rfl rfl rfl ?_
  refine ok_getR (q := 4) (ci := 12) (k := 14) (x := F a0 14) dX12_beside_1 rfl fo_X12_23 h0 rfl ?_
  refine ok_iload_n (q := 5) 1 dX12_beside_4 rfl rfl rfl ?_
  refine fi_chk (fun h_1 => ?_)
  refine fi_chk (fun h_2 => ?_)
  refine ok_iaload (q := 6) (v := I (F a0 14) x1) dX12_beside_5 rfl h_1 h_2.1 h_2.2 rfl ?_
  refine ok_istoreL (q := 8) (fun x4_3 => [(4, qi x4_3), (0, qr a0), (1, qi x1), (2, qi x2), (3, qi x3)]) dX12_beside_6 rfl (Nat.le_of_ble_eq_true rfl) (fun _ => rfl) (fun x4_3 => ?_)
  refine ok_iload_n (q := 9) 2 dX12_beside_8 rfl rfl rfl ?_
  refine ok_istore (q := 11) (ls' := [(5, qi x1), (4, qi x4_3), (0, qr a0), (1, qi x1), (2, qi x2), (3, qi x3)]) dX12_beside_9 rfl (Nat.le_of_ble_eq_true rfl) rfl ?_
  exact fun g => ok_pick [2, 4, 5, 1] rfl (w_X12_beside_h11 (N := N) h0 N _ _ _ g)
theorem ct_X12_beside {η : am_E} {l : Launch} {N : Nat} {n : Nat} {K : am_K} {I : am_I} {F : am_F} {a0 : Nat} {r0 : Int} {x1 : Int} {x2 : Int} {x3 : Int} (h0 : (K a0).1 = 12) : X12_beside N K F I a0 x1 x2 x3 = some r0 → am_Ct η l yX12_beside cX12_beside 6 (some .int) 1 21 0 0 [qr a0, qi x1, qi x2, qi x3] n K I F (am_pS 1 (r0, I) n K F) := fun g => am_Ct.of false (by decide) (by decide) (Nat.le_of_ble_eq_true rfl) (fun _ => w_X12_beside (N := N) h0 g)
def M_X12_sow : am_M := (yX12_sow.cls, cX12_sow, 5, none, am_room 2 46 0 0, false)
def X12_sow_s17 (N : Nat) (K : am_K) (F : am_F) (a0 : Nat) (k17 : am_I → Int → Int → Int → Option (Int × am_I)) (I : am_I) (x2 : Int) (x3 : Int) (x4 : Int) : Option (Int × am_I) :=
  if 0 < x3 then (am_cq (X12_beside N K F I a0 x4 1 x2) (fun v_2 => if (K (F a0 16)).1 = 100 then if (0 : Int) ≤ v_2 ∧ v_2 < (K (F a0 16)).2 then if am_inI ((I (F a0 16) v_2) + 1) then if F a0 16 ≠ 1 then am_lt (am_u2 I (F a0 16) v_2 ((I (F a0 16) v_2) + 1)) (fun I_7 => if am_inI (x3 + (-1)) then am_lt (x3 + (-1)) (fun x3_9 => k17 I_7 x2 x3_9 v_2) else none) else none else none else none else none)) else (am_lt (am_u2 I a0 19 x4) (fun I_1 => some (0, I_1)))
theorem w_X12_sow_s17 {η : am_E} {l : Launch} {N : Nat} {n : Nat} {K : am_K} {I : am_I} {F : am_F} {a0 : Nat} {r0 : Int × am_I} {k17 : am_I → Int → Int → Int → Option (Int × am_I)} {x2 : Int} {x3 : Int} {x4 : Int} (h0 : (K a0).1 = 12) (H17 : ∀ (I : am_I) (x2 : Int) (x3 : Int) (x4 : Int), k17 I x2 x3 x4 = some r0 → Ok η l M_X12_sow (am_qm η (am_pS 0 r0 n K F) 0 0) 17 [(0, qr a0), (2, qi x2), (3, qi x3), (4, qi x4)] [] n K I F 0 0) : X12_sow_s17 N K F a0 k17 I x2 x3 x4 = some r0 → Ok η l M_X12_sow (am_qm η (am_pS 0 r0 n K F) 0 0) 17 [(0, qr a0), (2, qi x2), (3, qi x3), (4, qi x4)] [] n K I F 0 0 := by
  unfold X12_sow_s17
  refine ok_iload_n (q := 18) 2 dX12_sow_17 rfl rfl rfl ?_
  refine ok_if_le (q := 48) (q2 := 21) dX12_sow_18 rfl rfl ?_ ?_
  · skip
    refine ok_aload_n (q := 49) 0 dX12_sow_48 rfl rfl rfl ?_
    refine ok_iload (q := 51) 3 dX12_sow_49 rfl rfl ?_
    refine ok_putI (q := 54) (ci := 12) (k := 19) dX12_sow_51 rfl fo_X12_145 h0 ft_12_19 ff_12_19 (fun I_1 => ?_)
    exact fi_returnS dX12_sow_54 rfl
  · skip
    refine ok_aload_n (q := 22) 0 dX12_sow_21 rfl rfl rfl ?_
    refine ok_iload (q := 24) 3 dX12_sow_22 rfl rfl ?_
    refine ok_iconst (q := 25) (x := 1) dX12_sow_24 rfl rfl (by decide) ?_
    refine ok_iload_n (q := 26) 1 dX12_sow_25 rfl rfl rfl ?_
    refine fi_callV1P (q := 29) (as := [qi x4, qi 1, qi x2]) (st := []) dX12_sow_26 rfl mo_X12_141 h0 rfl (Nat.le_of_ble_eq_true rfl) rfl rfl (Nat.le_of_ble_eq_true rfl) (Nat.le_of_ble_eq_true rfl) (Nat.le_of_ble_eq_true rfl) (Nat.zero_le _) (Nat.zero_le _) (fun _ hr => ct_X12_beside (N := N) h0 hr) (fun v_2 => ?_)
    refine ok_istore (q := 31) (ls' := [(4, qi v_2), (0, qr a0), (2, qi x2), (3, qi x3)]) dX12_sow_29 rfl (Nat.le_of_ble_eq_true rfl) rfl ?_
    refine ok_aload_n (q := 32) 1 dX12_sow_31 rfl rfl rfl ?_
    refine ok_getR (q := 35) (ci := 12) (k := 16) (x := F a0 16) dX12_sow_32 rfl fo_X12_26 h0 rfl ?_
    refine ok_iload (q := 37) 0 dX12_sow_35 rfl rfl ?_
    refine ok_dup2 (q := 38) dX12_sow_37 rfl rfl rfl ?_
    refine fi_chk (fun h_3 => ?_)
    refine fi_chk (fun h_4 => ?_)
    refine ok_iaload (q := 39) (v := I (F a0 16) v_2) dX12_sow_38 rfl h_3 h_4.1 h_4.2 rfl ?_
    refine ok_iconst (q := 40) (x := 1) dX12_sow_39 rfl rfl (by decide) ?_
    refine fi_chk (fun h_5 => ?_)
    refine ok_iadd (q := 41) dX12_sow_40 rfl h_5 ?_
    refine fi_chk (fun h_6 => ?_)
    refine ok_iastore (q := 42) dX12_sow_41 rfl h_3 h_6 h_4.1 h_4.2 (fun I_7 => ?_)
    refine fi_chk (fun h_8 => ?_)
    refine ok_iincL (q := 45) (fun x3_9 => [(3, qi x3_9), (4, qi v_2), (0, qr a0), (2, qi x2)]) 3 dX12_sow_42 rfl rfl h_8 (Nat.le_of_ble_eq_true rfl) (fun _ => rfl) (fun x3_9 => ?_)
    refine ok_goto (q := 17) dX12_sow_45 rfl ?_
    exact fun g => ok_pick [2, 3, 0, 1] rfl (H17 _ _ _ _ g)
def X12_sow_h17 (N : Nat) (K : am_K) (F : am_F) (a0 : Nat) : Nat → am_I → Int → Int → Int → Option (Int × am_I) := am_it (fun kh => X12_sow_s17 N K F a0 kh) (fun _ _ _ _ => none)
theorem w_X12_sow_h17 {η : am_E} {l : Launch} {N : Nat} {n : Nat} {K : am_K} {F : am_F} {a0 : Nat} {r0 : Int × am_I} (h0 : (K a0).1 = 12) (f : Nat) : ∀ (I : am_I) (x2 : Int) (x3 : Int) (x4 : Int), X12_sow_h17 N K F a0 f I x2 x3 x4 = some r0 → Ok η l M_X12_sow (am_qm η (am_pS 0 r0 n K F) 0 0) 17 [(0, qr a0), (2, qi x2), (3, qi x3), (4, qi x4)] [] n K I F 0 0 := by
  induction f with
  | zero => intro I x2 x3 x4 g; exact fi_none g
  | succ f ih => intro I x2 x3 x4 g; exact w_X12_sow_s17 (N := N) h0 ih g
def X12_sow (N : Nat) (K : am_K) (F : am_F) (a0 : Nat) (I : am_I) (x1 : Int) (x2 : Int) : Option (Int × am_I) :=
  if (K (F a0 16)).1 = 100 then if (0 : Int) ≤ x1 ∧ x1 < (K (F a0 16)).2 then am_lt (I (F a0 16) x1) (fun x3_3 => if F a0 16 ≠ 1 then am_lt (am_u2 I (F a0 16) x1 0) (fun I_5 => X12_sow_h17 N K F a0 N I_5 x2 x3_3 x1) else none) else none else none
theorem w_X12_sow {η : am_E} {l : Launch} {N : Nat} {n : Nat} {K : am_K} {I : am_I} {F : am_F} {a0 : Nat} {r0 : Int × am_I} {x1 : Int} {x2 : Int} (h0 : (K a0).1 = 12) : X12_sow N K F a0 I x1 x2 = some r0 → Ok η l M_X12_sow (am_qm η (am_pS 0 r0 n K F) 0 0) 0 [(0, qr a0), (1, qi x1), (2, qi x2)] [] n K I F 0 0 := by
  unfold X12_sow
  refine ok_aload_n (q := 1) 0 dX12_sow_0 rfl rfl rfl ?_
  refine ok_getR (q := 4) (ci := 12) (k := 16) (x := F a0 16) dX12_sow_1 rfl fo_X12_26 h0 rfl ?_
  refine ok_iload_n (q := 5) 1 dX12_sow_4 rfl rfl rfl ?_
  refine fi_chk (fun h_1 => ?_)
  refine fi_chk (fun h_2 => ?_)
  refine ok_iaload (q := 6) (v := I (F a0 16) x1) dX12_sow_5 rfl h_1 h_2.1 h_2.2 rfl ?_
  refine ok_istore_nL (q := 7) (fun x3_3 => [(3, qi x3_3), (0, qr a0), (1, qi x1), (2, qi x2)]) dX12_sow_6 rfl rfl (Nat.le_of_ble_eq_true rfl) (fun _ => rfl) (fun x3_3 => ?_)
  refine ok_aload_n (q := 8) 1 dX12_sow_7 rfl rfl rfl ?_
  refine ok_getR (q := 11) (ci := 12) (k := 16) (x := F a0 16) dX12_sow_8 rfl fo_X12_26 h0 rfl ?_
  refine ok_iload_n (q := 12) 2 dX12_sow_11 rfl rfl rfl ?_
  refine ok_iconst (q := 13) (x := 0) dX12_sow_12 rfl rfl (by decide) ?_
  refine fi_chk (fun h_4 => ?_)
  refine ok_iastore (q := 14) dX12_sow_13 rfl h_1 h_4 h_2.1 h_2.2 (fun I_5 => ?_)
  refine ok_iload_n (q := 15) 2 dX12_sow_14 rfl rfl rfl ?_
  refine ok_istore (q := 17) (ls' := [(4, qi x1), (3, qi x3_3), (0, qr a0), (1, qi x1), (2, qi x2)]) dX12_sow_15 rfl (Nat.le_of_ble_eq_true rfl) rfl ?_
  exact fun g => ok_pick [2, 4, 1, 0] rfl (w_X12_sow_h17 (N := N) h0 N _ _ _ _ g)
theorem ct_X12_sow {η : am_E} {l : Launch} {N : Nat} {n : Nat} {K : am_K} {I : am_I} {F : am_F} {a0 : Nat} {r0 : Int × am_I} {x1 : Int} {x2 : Int} (h0 : (K a0).1 = 12) : X12_sow N K F a0 I x1 x2 = some r0 → am_Ct η l yX12_sow cX12_sow 5 none 2 46 0 0 [qr a0, qi x1, qi x2] n K I F (am_pS 0 r0 n K F) := fun g => am_Ct.of false (by decide) (by decide) (Nat.le_of_ble_eq_true rfl) (fun _ => w_X12_sow (N := N) h0 g)
def M_X12_take : am_M := (yX12_take.cls, cX12_take, 2, none, am_room 0 0 0 0, false)
def X12_take (N : Nat) (K : am_K) (F : am_F) (a0 : Nat) (I : am_I) (x1 : Int) : Option (Int × am_I) :=
  if (K (F a0 16)).1 = 100 then if (0 : Int) ≤ x1 ∧ x1 < (K (F a0 16)).2 then if am_inI ((I a0 17) + (I (F a0 16) x1)) then am_lt (am_u2 I a0 17 ((I a0 17) + (I (F a0 16) x1))) (fun I_4 => if F a0 16 ≠ 1 then am_lt (am_u2 I_4 (F a0 16) x1 0) (fun I_6 => some (0, I_6)) else none) else none else none else none
theorem w_X12_take {η : am_E} {l : Launch} {N : Nat} {n : Nat} {K : am_K} {I : am_I} {F : am_F} {a0 : Nat} {r0 : Int × am_I} {x1 : Int} (h0 : (K a0).1 = 12) : X12_take N K F a0 I x1 = some r0 → Ok η l M_X12_take (am_qm η (am_pS 0 r0 n K F) 0 0) 0 [(0, qr a0), (1, qi x1)] [] n K I F 0 0 := by
  unfold X12_take
  refine ok_aload_n (q := 1) 0 dX12_take_0 rfl rfl rfl ?_
  refine ok_dup (q := 2) dX12_take_1 rfl rfl ?_
  refine ok_getI (q := 5) (ci := 12) (k := 17) (x := I a0 17) dX12_take_2 rfl fo_X12_148 h0 rfl ?_
  refine ok_aload_n (q := 6) 0 dX12_take_5 rfl rfl rfl ?_
  refine ok_getR (q := 9) (ci := 12) (k := 16) (x := F a0 16) dX12_take_6 rfl fo_X12_26 h0 rfl ?_
  refine ok_iload_n (q := 10) 1 dX12_take_9 rfl rfl rfl ?_
  refine fi_chk (fun h_1 => ?_)
  refine fi_chk (fun h_2 => ?_)
  refine ok_iaload (q := 11) (v := I (F a0 16) x1) dX12_take_10 rfl h_1 h_2.1 h_2.2 rfl ?_
  refine fi_chk (fun h_3 => ?_)
  refine ok_iadd (q := 12) dX12_take_11 rfl h_3 ?_
  refine ok_putI (q := 15) (ci := 12) (k := 17) dX12_take_12 rfl fo_X12_148 h0 ft_12_17 ff_12_17 (fun I_4 => ?_)
  refine ok_aload_n (q := 16) 0 dX12_take_15 rfl rfl rfl ?_
  refine ok_getR (q := 19) (ci := 12) (k := 16) (x := F a0 16) dX12_take_16 rfl fo_X12_26 h0 rfl ?_
  refine ok_iload_n (q := 20) 1 dX12_take_19 rfl rfl rfl ?_
  refine ok_iconst (q := 21) (x := 0) dX12_take_20 rfl rfl (by decide) ?_
  refine fi_chk (fun h_5 => ?_)
  refine ok_iastore (q := 22) dX12_take_21 rfl h_1 h_5 h_2.1 h_2.2 (fun I_6 => ?_)
  exact fi_returnS dX12_take_22 rfl
theorem ct_X12_take {η : am_E} {l : Launch} {N : Nat} {n : Nat} {K : am_K} {I : am_I} {F : am_F} {a0 : Nat} {r0 : Int × am_I} {x1 : Int} (h0 : (K a0).1 = 12) : X12_take N K F a0 I x1 = some r0 → am_Ct η l yX12_take cX12_take 2 none 0 0 0 0 [qr a0, qi x1] n K I F (am_pS 0 r0 n K F) := fun g => am_Ct.of false (by decide) (by decide) (Nat.le_of_ble_eq_true rfl) (fun _ => w_X12_take (N := N) h0 g)
def M_X12_takeColumn : am_M := (yX12_takeColumn.cls, cX12_takeColumn, 4, none, am_room 1 21 0 0, false)
def X12_takeColumn_b38 (N : Nat) (K : am_K) (F : am_F) (a0 : Nat) (k7 : am_I → Int → Int → Option (Int × am_I)) (I : am_I) (x2 : Int) (x3 : Int) : Option (Int × am_I) :=
  if am_inI (x3 + (I a0 1)) then am_lt (x3 + (I a0 1)) (fun x3_2 => k7 I x2 x3_2) else none
theorem w_X12_takeColumn_b38 {η : am_E} {l : Launch} {N : Nat} {n : Nat} {K : am_K} {I : am_I} {F : am_F} {a0 : Nat} {r0 : Int × am_I} {k7 : am_I → Int → Int → Option (Int × am_I)} {x2 : Int} {x3 : Int} (h0 : (K a0).1 = 12) (H7 : ∀ (I : am_I) (x2 : Int) (x3 : Int), k7 I x2 x3 = some r0 → Ok η l M_X12_takeColumn (am_qm η (am_pS 0 r0 n K F) 0 0) 7 [(0, qr a0), (2, qi x2), (3, qi x3)] [] n K I F 0 0) : X12_takeColumn_b38 N K F a0 k7 I x2 x3 = some r0 → Ok η l M_X12_takeColumn (am_qm η (am_pS 0 r0 n K F) 0 0) 38 [(0, qr a0), (2, qi x2), (3, qi x3)] [] n K I F 0 0 := by
  unfold X12_takeColumn_b38
  refine ok_iload_n (q := 39) 2 dX12_takeColumn_38 rfl rfl rfl ?_
  refine ok_aload_n (q := 40) 0 dX12_takeColumn_39 rfl rfl rfl ?_
  refine ok_getI (q := 43) (ci := 12) (k := 1) (x := I a0 1) dX12_takeColumn_40 rfl fo_X12_93 h0 rfl ?_
  refine fi_chk (fun h_1 => ?_)
  refine ok_iadd (q := 44) dX12_takeColumn_43 rfl h_1 ?_
  refine ok_istore_nL (q := 45) (fun x3_2 => [(3, qi x3_2), (0, qr a0), (2, qi x2)]) dX12_takeColumn_44 rfl rfl (Nat.le_of_ble_eq_true rfl) (fun _ => rfl) (fun x3_2 => ?_)
  refine ok_goto (q := 7) dX12_takeColumn_45 rfl ?_
  exact fun g => ok_pick [1, 2, 0] rfl (H7 _ _ _ g)
def X12_takeColumn_s7 (N : Nat) (K : am_K) (F : am_F) (a0 : Nat) (k7 : am_I → Int → Int → Option (Int × am_I)) (I : am_I) (x2 : Int) (x3 : Int) : Option (Int × am_I) :=
  am_cq (X12_all N K F I a0) (fun v_1 => if x3 < v_1 then (am_cq (X12_sideOf N K F I a0 x3) (fun v_2 => if v_2 = x2 then (X12_takeColumn_b38 N K F a0 k7 I x2 x3) else (if (K (F a0 2)).1 = 101 then if (0 : Int) ≤ x3 ∧ x3 < (K (F a0 2)).2 then if (I (F a0 2) x3) = 0 then (am_cl (X12_take N K F a0 I x3) (fun _ I_5 => X12_takeColumn_b38 N K F a0 k7 I_5 x2 x3)) else (X12_takeColumn_b38 N K F a0 k7 I x2 x3) else none else none))) else (some (0, I)))
theorem w_X12_takeColumn_s7 {η : am_E} {l : Launch} {N : Nat} {n : Nat} {K : am_K} {I : am_I} {F : am_F} {a0 : Nat} {r0 : Int × am_I} {k7 : am_I → Int → Int → Option (Int × am_I)} {x2 : Int} {x3 : Int} (h0 : (K a0).1 = 12) (H7 : ∀ (I : am_I) (x2 : Int) (x3 : Int), k7 I x2 x3 = some r0 → Ok η l M_X12_takeColumn (am_qm η (am_pS 0 r0 n K F) 0 0) 7 [(0, qr a0), (2, qi x2), (3, qi x3)] [] n K I F 0 0) : X12_takeColumn_s7 N K F a0 k7 I x2 x3 = some r0 → Ok η l M_X12_takeColumn (am_qm η (am_pS 0 r0 n K F) 0 0) 7 [(0, qr a0), (2, qi x2), (3, qi x3)] [] n K I F 0 0 := by
  unfold X12_takeColumn_s7
  refine ok_iload_n (q := 8) 2 dX12_takeColumn_7 rfl rfl rfl ?_
  refine ok_aload_n (q := 9) 0 dX12_takeColumn_8 rfl rfl rfl ?_
  refine fi_callV1P (q := 12) (as := []) (st := [qi x3]) dX12_takeColumn_9 rfl mo_X12_133 h0 rfl (Nat.le_of_ble_eq_true rfl) rfl rfl (Nat.le_of_ble_eq_true rfl) (Nat.le_of_ble_eq_true rfl) (Nat.le_of_ble_eq_true rfl) (Nat.zero_le _) (Nat.zero_le _) (fun _ hr => ct_X12_all (N := N) h0 hr) (fun v_1 => ?_)
  refine ok_icmp_ge (q := 48) (q2 := 15) dX12_takeColumn_12 rfl rfl ?_ ?_
  · skip
    exact fi_returnS dX12_takeColumn_48 rfl
  · skip
    refine ok_aload_n (q := 16) 0 dX12_takeColumn_15 rfl rfl rfl ?_
    refine ok_iload_n (q := 17) 2 dX12_takeColumn_16 rfl rfl rfl ?_
    refine fi_callV1P (q := 20) (as := [qi x3]) (st := []) dX12_takeColumn_17 rfl mo_X12_137 h0 rfl (Nat.le_of_ble_eq_true rfl) rfl rfl (Nat.le_of_ble_eq_true rfl) (Nat.le_of_ble_eq_true rfl) (Nat.le_of_ble_eq_true rfl) (Nat.zero_le _) (Nat.zero_le _) (fun _ hr => ct_X12_sideOf (N := N) h0 hr) (fun v_2 => ?_)
    refine ok_iload_n (q := 21) 1 dX12_takeColumn_20 rfl rfl rfl ?_
    refine ok_icmp_eq (q := 38) (q2 := 24) dX12_takeColumn_21 rfl rfl ?_ ?_
    · skip
      exact fun g => ok_pick [0, 1, 2] rfl (w_X12_takeColumn_b38 (N := N) h0 H7 g)
    · skip
      refine ok_aload_n (q := 25) 0 dX12_takeColumn_24 rfl rfl rfl ?_
      refine ok_getR (q := 28) (ci := 12) (k := 2) (x := F a0 2) dX12_takeColumn_25 rfl fo_X12_9 h0 rfl ?_
      refine ok_iload_n (q := 29) 2 dX12_takeColumn_28 rfl rfl rfl ?_
      refine fi_chk (fun h_3 => ?_)
      refine fi_chk (fun h_4 => ?_)
      refine ok_baload (q := 30) (v := I (F a0 2) x3) dX12_takeColumn_29 rfl h_3 h_4.1 h_4.2 rfl ?_
      refine ok_if_ne (q := 38) (q2 := 33) dX12_takeColumn_30 rfl rfl ?_ ?_
      · skip
        exact fun g => ok_pick [0, 1, 2] rfl (w_X12_takeColumn_b38 (N := N) h0 H7 g)
      · skip
        refine ok_aload_n (q := 34) 0 dX12_takeColumn_33 rfl rfl rfl ?_
        refine ok_iload_n (q := 35) 2 dX12_takeColumn_34 rfl rfl rfl ?_
        refine fi_callV0S (q := 38) (as := [qi x3]) (st := []) dX12_takeColumn_35 rfl mo_X12_151 h0 rfl (Nat.le_of_ble_eq_true rfl) rfl rfl (Nat.le_of_ble_eq_true rfl) (Nat.le_of_ble_eq_true rfl) (Nat.le_of_ble_eq_true rfl) (Nat.zero_le _) (Nat.zero_le _) (fun _ hr => ct_X12_take (N := N) h0 hr) (fun _ I_5 => ?_)
        exact fun g => ok_pick [0, 1, 2] rfl (w_X12_takeColumn_b38 (N := N) h0 H7 g)
def X12_takeColumn_h7 (N : Nat) (K : am_K) (F : am_F) (a0 : Nat) : Nat → am_I → Int → Int → Option (Int × am_I) := am_it (fun kh => X12_takeColumn_s7 N K F a0 kh) (fun _ _ _ => none)
theorem w_X12_takeColumn_h7 {η : am_E} {l : Launch} {N : Nat} {n : Nat} {K : am_K} {F : am_F} {a0 : Nat} {r0 : Int × am_I} (h0 : (K a0).1 = 12) (f : Nat) : ∀ (I : am_I) (x2 : Int) (x3 : Int), X12_takeColumn_h7 N K F a0 f I x2 x3 = some r0 → Ok η l M_X12_takeColumn (am_qm η (am_pS 0 r0 n K F) 0 0) 7 [(0, qr a0), (2, qi x2), (3, qi x3)] [] n K I F 0 0 := by
  induction f with
  | zero => intro I x2 x3 g; exact fi_none g
  | succ f ih => intro I x2 x3 g; exact w_X12_takeColumn_s7 (N := N) h0 ih g
def X12_takeColumn (N : Nat) (K : am_K) (F : am_F) (a0 : Nat) (I : am_I) (x1 : Int) (x2 : Int) : Option (Int × am_I) :=
  if I a0 1 ≠ (0 : Int) then am_lt (am_irem x1 (I a0 1)) (fun x3_2 => X12_takeColumn_h7 N K F a0 N I x2 x3_2) else none
theorem w_X12_takeColumn {η : am_E} {l : Launch} {N : Nat} {n : Nat} {K : am_K} {I : am_I} {F : am_F} {a0 : Nat} {r0 : Int × am_I} {x1 : Int} {x2 : Int} (h0 : (K a0).1 = 12) : X12_takeColumn N K F a0 I x1 x2 = some r0 → Ok η l M_X12_takeColumn (am_qm η (am_pS 0 r0 n K F) 0 0) 0 [(0, qr a0), (1, qi x1), (2, qi x2)] [] n K I F 0 0 := by
  unfold X12_takeColumn
  refine ok_iload_n (q := 1) 1 dX12_takeColumn_0 rfl rfl rfl ?_
  refine ok_aload_n (q := 2) 0 dX12_takeColumn_1 rfl rfl rfl ?_
  refine ok_getI (q := 5) (ci := 12) (k := 1) (x := I a0 1) dX12_takeColumn_2 rfl fo_X12_93 h0 rfl ?_
  refine fi_chk (fun h_1 => ?_)
  refine ok_irem (q := 6) (r := am_irem x1 (I a0 1)) dX12_takeColumn_5 rfl h_1 rfl ?_
  refine ok_istore_nL (q := 7) (fun x3_2 => [(3, qi x3_2), (0, qr a0), (1, qi x1), (2, qi x2)]) dX12_takeColumn_6 rfl rfl (Nat.le_of_ble_eq_true rfl) (fun _ => rfl) (fun x3_2 => ?_)
  exact fun g => ok_pick [1, 3, 0] rfl (w_X12_takeColumn_h7 (N := N) h0 N _ _ _ g)
theorem ct_X12_takeColumn {η : am_E} {l : Launch} {N : Nat} {n : Nat} {K : am_K} {I : am_I} {F : am_F} {a0 : Nat} {r0 : Int × am_I} {x1 : Int} {x2 : Int} (h0 : (K a0).1 = 12) : X12_takeColumn N K F a0 I x1 x2 = some r0 → am_Ct η l yX12_takeColumn cX12_takeColumn 4 none 1 21 0 0 [qr a0, qi x1, qi x2] n K I F (am_pS 0 r0 n K F) := fun g => am_Ct.of false (by decide) (by decide) (Nat.le_of_ble_eq_true rfl) (fun _ => w_X12_takeColumn (N := N) h0 g)
def M_X12_make : am_M := (yX12_make.cls, cX12_make, 5, none, am_room 3 70 0 0, false)
def X12_make_b254 (N : Nat) (K : am_K) (F : am_F) (a0 : Nat) (I : am_I) : Option (Int × am_I) :=
  some (0, I)
theorem w_X12_make_b254 {η : am_E} {l : Launch} {N : Nat} {n : Nat} {K : am_K} {I : am_I} {F : am_F} {a0 : Nat} {r0 : Int × am_I} (h0 : (K a0).1 = 12) : X12_make_b254 N K F a0 I = some r0 → Ok η l M_X12_make (am_qm η (am_pS 0 r0 n K F) 0 0) 254 [(0, qr a0)] [] n K I F 0 0 := by
  unfold X12_make_b254
  exact fi_returnS dX12_make_254 rfl
def X12_make_s201 (N : Nat) (K : am_K) (F : am_F) (a0 : Nat) (k201 : am_I → Int → Int → Option (Int × am_I)) (I : am_I) (x2 : Int) (x4 : Int) : Option (Int × am_I) :=
  am_cq (X12_sideOf N K F I a0 x4) (fun v_1 => if v_1 = x2 then (X12_make_b254 N K F a0 I) else (if (K (F a0 16)).1 = 100 then if (0 : Int) ≤ x4 ∧ x4 < (K (F a0 16)).2 then am_cq (X12_isIn N K F I (I (F a0 16) x4) (I a0 8) (I a0 9)) (fun v_4 => if v_4 = 0 then (X12_make_b254 N K F a0 I) else (am_cl (X12_take N K F a0 I x4) (fun _ I_5 => am_cq (X12_beside N K F I_5 a0 x4 (-1) (-1)) (fun v_6 => k201 I_5 x2 v_6)))) else none else none))
theorem w_X12_make_s201 {η : am_E} {l : Launch} {N : Nat} {n : Nat} {K : am_K} {I : am_I} {F : am_F} {a0 : Nat} {r0 : Int × am_I} {k201 : am_I → Int → Int → Option (Int × am_I)} {x2 : Int} {x4 : Int} (h0 : (K a0).1 = 12) (H201 : ∀ (I : am_I) (x2 : Int) (x4 : Int), k201 I x2 x4 = some r0 → Ok η l M_X12_make (am_qm η (am_pS 0 r0 n K F) 0 0) 201 [(0, qr a0), (2, qi x2), (4, qi x4)] [] n K I F 0 0) : X12_make_s201 N K F a0 k201 I x2 x4 = some r0 → Ok η l M_X12_make (am_qm η (am_pS 0 r0 n K F) 0 0) 201 [(0, qr a0), (2, qi x2), (4, qi x4)] [] n K I F 0 0 := by
  unfold X12_make_s201
  refine ok_aload_n (q := 202) 0 dX12_make_201 rfl rfl rfl ?_
  refine ok_iload (q := 204) 2 dX12_make_202 rfl rfl ?_
  refine fi_callV1P (q := 207) (as := [qi x4]) (st := []) dX12_make_204 rfl mo_X12_137 h0 rfl (Nat.le_of_ble_eq_true rfl) rfl rfl (Nat.le_of_ble_eq_true rfl) (Nat.le_of_ble_eq_true rfl) (Nat.le_of_ble_eq_true rfl) (Nat.zero_le _) (Nat.zero_le _) (fun _ hr => ct_X12_sideOf (N := N) h0 hr) (fun v_1 => ?_)
  refine ok_iload_n (q := 208) 1 dX12_make_207 rfl rfl rfl ?_
  refine ok_icmp_eq (q := 254) (q2 := 211) dX12_make_208 rfl rfl ?_ ?_
  · skip
    exact fun g => ok_pick [0] rfl (w_X12_make_b254 (N := N) h0 g)
  · skip
    refine ok_aload_n (q := 212) 0 dX12_make_211 rfl rfl rfl ?_
    refine ok_getR (q := 215) (ci := 12) (k := 16) (x := F a0 16) dX12_make_212 rfl fo_X12_26 h0 rfl ?_
    refine ok_iload (q := 217) 2 dX12_make_215 rfl rfl ?_
    refine fi_chk (fun h_2 => ?_)
    refine fi_chk (fun h_3 => ?_)
    refine ok_iaload (q := 218) (v := I (F a0 16) x4) dX12_make_217 rfl h_2 h_3.1 h_3.2 rfl ?_
    refine ok_i2l (q := 219) dX12_make_218 rfl ?_
    refine ok_aload_n (q := 220) 0 dX12_make_219 rfl rfl rfl ?_
    refine ok_getI (q := 223) (ci := 12) (k := 8) (x := I a0 8) dX12_make_220 rfl fo_X12_105 h0 rfl ?_
    refine ok_i2l (q := 224) dX12_make_223 rfl ?_
    refine ok_aload_n (q := 225) 0 dX12_make_224 rfl rfl rfl ?_
    refine ok_getI (q := 228) (ci := 12) (k := 9) (x := I a0 9) dX12_make_225 rfl fo_X12_108 h0 rfl ?_
    refine ok_i2l (q := 229) dX12_make_228 rfl ?_
    refine fi_callS1P (q := 232) (as := [ql (I (F a0 16) x4), ql (I a0 8), ql (I a0 9)]) (st := []) dX12_make_229 rfl mo_X12_164 rfl rfl (Nat.le_of_ble_eq_true rfl) (Nat.le_of_ble_eq_true rfl) (Nat.le_of_ble_eq_true rfl) (Nat.zero_le _) (Nat.zero_le _) (fun _ hr => ct_X12_isIn (N := N) hr) (fun v_4 => ?_)
    refine ok_if_eq (q := 254) (q2 := 235) dX12_make_232 rfl rfl ?_ ?_
    · skip
      exact fun g => ok_pick [0] rfl (w_X12_make_b254 (N := N) h0 g)
    · skip
      refine ok_aload_n (q := 236) 0 dX12_make_235 rfl rfl rfl ?_
      refine ok_iload (q := 238) 2 dX12_make_236 rfl rfl ?_
      refine fi_callV0S (q := 241) (as := [qi x4]) (st := []) dX12_make_238 rfl mo_X12_151 h0 rfl (Nat.le_of_ble_eq_true rfl) rfl rfl (Nat.le_of_ble_eq_true rfl) (Nat.le_of_ble_eq_true rfl) (Nat.le_of_ble_eq_true rfl) (Nat.zero_le _) (Nat.zero_le _) (fun _ hr => ct_X12_take (N := N) h0 hr) (fun _ I_5 => ?_)
      refine ok_aload_n (q := 242) 0 dX12_make_241 rfl rfl rfl ?_
      refine ok_iload (q := 244) 2 dX12_make_242 rfl rfl ?_
      refine ok_iconst (q := 245) (x := -1) dX12_make_244 rfl rfl (by decide) ?_
      refine ok_iconst (q := 246) (x := -1) dX12_make_245 rfl rfl (by decide) ?_
      refine fi_callV1P (q := 249) (as := [qi x4, qi (-1), qi (-1)]) (st := []) dX12_make_246 rfl mo_X12_141 h0 rfl (Nat.le_of_ble_eq_true rfl) rfl rfl (Nat.le_of_ble_eq_true rfl) (Nat.le_of_ble_eq_true rfl) (Nat.le_of_ble_eq_true rfl) (Nat.zero_le _) (Nat.zero_le _) (fun _ hr => ct_X12_beside (N := N) h0 hr) (fun v_6 => ?_)
      refine ok_istore (q := 251) (ls' := [(4, qi v_6), (0, qr a0), (2, qi x2)]) dX12_make_249 rfl (Nat.le_of_ble_eq_true rfl) rfl ?_
      refine ok_goto (q := 201) dX12_make_251 rfl ?_
      exact fun g => ok_pick [1, 2, 0] rfl (H201 _ _ _ g)
def X12_make_h201 (N : Nat) (K : am_K) (F : am_F) (a0 : Nat) : Nat → am_I → Int → Int → Option (Int × am_I) := am_it (fun kh => X12_make_s201 N K F a0 kh) (fun _ _ _ => none)
theorem w_X12_make_h201 {η : am_E} {l : Launch} {N : Nat} {n : Nat} {K : am_K} {F : am_F} {a0 : Nat} {r0 : Int × am_I} (h0 : (K a0).1 = 12) (f : Nat) : ∀ (I : am_I) (x2 : Int) (x4 : Int), X12_make_h201 N K F a0 f I x2 x4 = some r0 → Ok η l M_X12_make (am_qm η (am_pS 0 r0 n K F) 0 0) 201 [(0, qr a0), (2, qi x2), (4, qi x4)] [] n K I F 0 0 := by
  induction f with
  | zero => intro I x2 x4 g; exact fi_none g
  | succ f ih => intro I x2 x4 g; exact w_X12_make_s201 (N := N) h0 ih g
def X12_make_b151 (N : Nat) (K : am_K) (F : am_F) (a0 : Nat) (I : am_I) : Option (Int × am_I) :=
  X12_make_b254 N K F a0 I
theorem w_X12_make_b151 {η : am_E} {l : Launch} {N : Nat} {n : Nat} {K : am_K} {I : am_I} {F : am_F} {a0 : Nat} {r0 : Int × am_I} (h0 : (K a0).1 = 12) : X12_make_b151 N K F a0 I = some r0 → Ok η l M_X12_make (am_qm η (am_pS 0 r0 n K F) 0 0) 151 [(0, qr a0)] [] n K I F 0 0 := by
  unfold X12_make_b151
  refine ok_goto (q := 254) dX12_make_151 rfl ?_
  exact fun g => ok_pick [0] rfl (w_X12_make_b254 (N := N) h0 g)
def X12_make_b120 (N : Nat) (K : am_K) (F : am_F) (a0 : Nat) (I : am_I) (x2 : Int) (s0 : Int) (t1 : Nat) : Option (Int × am_I) :=
  if (K t1).1 = 12 then if s0 = 0 ∨ s0 = 1 then am_lt (am_u2 I t1 18 s0) (fun I_3 => if (I_3 a0 18) = 0 then (am_cq (X12_sideOf N K F I_3 a0 (I_3 a0 19)) (fun v_4 => if v_4 = x2 then (am_cl (X12_takeColumn N K F a0 I_3 (I_3 a0 19) x2) (fun _ I_5 => X12_make_b151 N K F a0 I_5)) else (X12_make_b151 N K F a0 I_3))) else (X12_make_b151 N K F a0 I_3)) else none else none
theorem w_X12_make_b120 {η : am_E} {l : Launch} {N : Nat} {n : Nat} {K : am_K} {I : am_I} {F : am_F} {a0 : Nat} {r0 : Int × am_I} {x2 : Int} {s0 : Int} {t1 : Nat} (h0 : (K a0).1 = 12) : X12_make_b120 N K F a0 I x2 s0 t1 = some r0 → Ok η l M_X12_make (am_qm η (am_pS 0 r0 n K F) 0 0) 120 [(0, qr a0), (2, qi x2)] [qi s0, qr t1] n K I F 0 0 := by
  unfold X12_make_b120
  refine fi_chk (fun h_1 => ?_)
  refine fi_chk (fun h_2 => ?_)
  refine ok_putZ (q := 123) (ci := 12) (k := 18) dX12_make_120 rfl fo_X12_155 h_1 ft_12_18 h_2 ff_12_18 (fun I_3 => ?_)
  refine ok_aload_n (q := 124) 0 dX12_make_123 rfl rfl rfl ?_
  refine ok_getI (q := 127) (ci := 12) (k := 18) (x := I_3 a0 18) dX12_make_124 rfl fo_X12_155 h0 rfl ?_
  refine ok_if_ne (q := 151) (q2 := 130) dX12_make_127 rfl rfl ?_ ?_
  · skip
    exact fun g => ok_pick [0] rfl (w_X12_make_b151 (N := N) h0 g)
  · skip
    refine ok_aload_n (q := 131) 0 dX12_make_130 rfl rfl rfl ?_
    refine ok_aload_n (q := 132) 0 dX12_make_131 rfl rfl rfl ?_
    refine ok_getI (q := 135) (ci := 12) (k := 19) (x := I_3 a0 19) dX12_make_132 rfl fo_X12_145 h0 rfl ?_
    refine fi_callV1P (q := 138) (as := [qi (I_3 a0 19)]) (st := []) dX12_make_135 rfl mo_X12_137 h0 rfl (Nat.le_of_ble_eq_true rfl) rfl rfl (Nat.le_of_ble_eq_true rfl) (Nat.le_of_ble_eq_true rfl) (Nat.le_of_ble_eq_true rfl) (Nat.zero_le _) (Nat.zero_le _) (fun _ hr => ct_X12_sideOf (N := N) h0 hr) (fun v_4 => ?_)
    refine ok_iload_n (q := 139) 1 dX12_make_138 rfl rfl rfl ?_
    refine ok_icmp_ne (q := 151) (q2 := 142) dX12_make_139 rfl rfl ?_ ?_
    · skip
      exact fun g => ok_pick [0] rfl (w_X12_make_b151 (N := N) h0 g)
    · skip
      refine ok_aload_n (q := 143) 0 dX12_make_142 rfl rfl rfl ?_
      refine ok_aload_n (q := 144) 0 dX12_make_143 rfl rfl rfl ?_
      refine ok_getI (q := 147) (ci := 12) (k := 19) (x := I_3 a0 19) dX12_make_144 rfl fo_X12_145 h0 rfl ?_
      refine ok_iload_n (q := 148) 1 dX12_make_147 rfl rfl rfl ?_
      refine fi_callV0S (q := 151) (as := [qi (I_3 a0 19), qi x2]) (st := []) dX12_make_148 rfl mo_X12_161 h0 rfl (Nat.le_of_ble_eq_true rfl) rfl rfl (Nat.le_of_ble_eq_true rfl) (Nat.le_of_ble_eq_true rfl) (Nat.le_of_ble_eq_true rfl) (Nat.zero_le _) (Nat.zero_le _) (fun _ hr => ct_X12_takeColumn (N := N) h0 hr) (fun _ I_5 => ?_)
      exact fun g => ok_pick [0] rfl (w_X12_make_b151 (N := N) h0 g)
def X12_make_b105 (N : Nat) (K : am_K) (F : am_F) (a0 : Nat) (I : am_I) (x2 : Int) (x4 : Int) : Option (Int × am_I) :=
  if (I a0 7) < x4 then (X12_make_b120 N K F a0 I x2 1 a0) else (X12_make_b120 N K F a0 I x2 0 a0)
theorem w_X12_make_b105 {η : am_E} {l : Launch} {N : Nat} {n : Nat} {K : am_K} {I : am_I} {F : am_F} {a0 : Nat} {r0 : Int × am_I} {x2 : Int} {x4 : Int} (h0 : (K a0).1 = 12) : X12_make_b105 N K F a0 I x2 x4 = some r0 → Ok η l M_X12_make (am_qm η (am_pS 0 r0 n K F) 0 0) 105 [(0, qr a0), (2, qi x2), (4, qi x4)] [] n K I F 0 0 := by
  unfold X12_make_b105
  refine ok_aload_n (q := 106) 0 dX12_make_105 rfl rfl rfl ?_
  refine ok_iload (q := 108) 2 dX12_make_106 rfl rfl ?_
  refine ok_aload_n (q := 109) 0 dX12_make_108 rfl rfl rfl ?_
  refine ok_getI (q := 112) (ci := 12) (k := 7) (x := I a0 7) dX12_make_109 rfl fo_X12_102 h0 rfl ?_
  refine ok_icmp_le (q := 119) (q2 := 115) dX12_make_112 rfl rfl ?_ ?_
  · skip
    refine ok_iconst (q := 120) (x := 0) dX12_make_119 rfl rfl (by decide) ?_
    exact fun g => ok_pick [0, 1] rfl (w_X12_make_b120 (N := N) h0 g)
  · skip
    refine ok_iconst (q := 116) (x := 1) dX12_make_115 rfl rfl (by decide) ?_
    refine ok_goto (q := 120) dX12_make_116 rfl ?_
    exact fun g => ok_pick [0, 1] rfl (w_X12_make_b120 (N := N) h0 g)
def X12_make_s68 (N : Nat) (K : am_K) (F : am_F) (a0 : Nat) (k68 : am_I → Int → Int → Option (Int × am_I)) (I : am_I) (x2 : Int) (x4 : Int) : Option (Int × am_I) :=
  if (K (F a0 16)).1 = 100 then if (0 : Int) ≤ (I a0 19) ∧ (I a0 19) < (K (F a0 16)).2 then if 1 < (I (F a0 16) (I a0 19)) then (if x4 ≤ (I a0 7) then (am_cl (X12_sow N K F a0 I (I a0 19) (-1)) (fun _ I_3 => if am_inI (x4 + 1) then am_lt (x4 + 1) (fun x4_5 => k68 I_3 x2 x4_5) else none)) else (X12_make_b105 N K F a0 I x2 x4)) else (X12_make_b105 N K F a0 I x2 x4) else none else none
theorem w_X12_make_s68 {η : am_E} {l : Launch} {N : Nat} {n : Nat} {K : am_K} {I : am_I} {F : am_F} {a0 : Nat} {r0 : Int × am_I} {k68 : am_I → Int → Int → Option (Int × am_I)} {x2 : Int} {x4 : Int} (h0 : (K a0).1 = 12) (H68 : ∀ (I : am_I) (x2 : Int) (x4 : Int), k68 I x2 x4 = some r0 → Ok η l M_X12_make (am_qm η (am_pS 0 r0 n K F) 0 0) 68 [(0, qr a0), (2, qi x2), (4, qi x4)] [] n K I F 0 0) : X12_make_s68 N K F a0 k68 I x2 x4 = some r0 → Ok η l M_X12_make (am_qm η (am_pS 0 r0 n K F) 0 0) 68 [(0, qr a0), (2, qi x2), (4, qi x4)] [] n K I F 0 0 := by
  unfold X12_make_s68
  refine ok_aload_n (q := 69) 0 dX12_make_68 rfl rfl rfl ?_
  refine ok_getR (q := 72) (ci := 12) (k := 16) (x := F a0 16) dX12_make_69 rfl fo_X12_26 h0 rfl ?_
  refine ok_aload_n (q := 73) 0 dX12_make_72 rfl rfl rfl ?_
  refine ok_getI (q := 76) (ci := 12) (k := 19) (x := I a0 19) dX12_make_73 rfl fo_X12_145 h0 rfl ?_
  refine fi_chk (fun h_1 => ?_)
  refine fi_chk (fun h_2 => ?_)
  refine ok_iaload (q := 77) (v := I (F a0 16) (I a0 19)) dX12_make_76 rfl h_1 h_2.1 h_2.2 rfl ?_
  refine ok_iconst (q := 78) (x := 1) dX12_make_77 rfl rfl (by decide) ?_
  refine ok_icmp_le (q := 105) (q2 := 81) dX12_make_78 rfl rfl ?_ ?_
  · skip
    exact fun g => ok_pick [0, 1, 2] rfl (w_X12_make_b105 (N := N) h0 g)
  · skip
    refine ok_iload (q := 83) 2 dX12_make_81 rfl rfl ?_
    refine ok_aload_n (q := 84) 0 dX12_make_83 rfl rfl rfl ?_
    refine ok_getI (q := 87) (ci := 12) (k := 7) (x := I a0 7) dX12_make_84 rfl fo_X12_102 h0 rfl ?_
    refine ok_icmp_gt (q := 105) (q2 := 90) dX12_make_87 rfl rfl ?_ ?_
    · skip
      exact fun g => ok_pick [0, 1, 2] rfl (w_X12_make_b105 (N := N) h0 g)
    · skip
      refine ok_aload_n (q := 91) 0 dX12_make_90 rfl rfl rfl ?_
      refine ok_aload_n (q := 92) 0 dX12_make_91 rfl rfl rfl ?_
      refine ok_getI (q := 95) (ci := 12) (k := 19) (x := I a0 19) dX12_make_92 rfl fo_X12_145 h0 rfl ?_
      refine ok_iconst (q := 96) (x := -1) dX12_make_95 rfl rfl (by decide) ?_
      refine fi_callV0S (q := 99) (as := [qi (I a0 19), qi (-1)]) (st := []) dX12_make_96 rfl mo_X12_158 h0 rfl (Nat.le_of_ble_eq_true rfl) rfl rfl (Nat.le_of_ble_eq_true rfl) (Nat.le_of_ble_eq_true rfl) (Nat.le_of_ble_eq_true rfl) (Nat.zero_le _) (Nat.zero_le _) (fun _ hr => ct_X12_sow (N := N) h0 hr) (fun _ I_3 => ?_)
      refine fi_chk (fun h_4 => ?_)
      refine ok_iincL (q := 102) (fun x4_5 => [(4, qi x4_5), (0, qr a0), (2, qi x2)]) 2 dX12_make_99 rfl rfl h_4 (Nat.le_of_ble_eq_true rfl) (fun _ => rfl) (fun x4_5 => ?_)
      refine ok_goto (q := 68) dX12_make_102 rfl ?_
      exact fun g => ok_pick [1, 2, 0] rfl (H68 _ _ _ g)
def X12_make_h68 (N : Nat) (K : am_K) (F : am_F) (a0 : Nat) : Nat → am_I → Int → Int → Option (Int × am_I) := am_it (fun kh => X12_make_s68 N K F a0 kh) (fun _ _ _ => none)
theorem w_X12_make_h68 {η : am_E} {l : Launch} {N : Nat} {n : Nat} {K : am_K} {F : am_F} {a0 : Nat} {r0 : Int × am_I} (h0 : (K a0).1 = 12) (f : Nat) : ∀ (I : am_I) (x2 : Int) (x4 : Int), X12_make_h68 N K F a0 f I x2 x4 = some r0 → Ok η l M_X12_make (am_qm η (am_pS 0 r0 n K F) 0 0) 68 [(0, qr a0), (2, qi x2), (4, qi x4)] [] n K I F 0 0 := by
  induction f with
  | zero => intro I x2 x4 g; exact fi_none g
  | succ f ih => intro I x2 x4 g; exact w_X12_make_s68 (N := N) h0 ih g
def X12_make_b54 (N : Nat) (K : am_K) (F : am_F) (a0 : Nat) (I : am_I) (x2 : Int) (s0 : Int) (s1 : Int) (t2 : Nat) : Option (Int × am_I) :=
  if (K t2).1 = 12 then am_cl (X12_sow N K F t2 I s1 s0) (fun _ I_2 => if (I_2 a0 6) = 1 then (X12_make_h68 N K F a0 N I_2 x2 1) else (if (I_2 a0 6) = 3 then (if (K (F a0 16)).1 = 100 then if (0 : Int) ≤ (I_2 a0 19) ∧ (I_2 a0 19) < (K (F a0 16)).2 then if (I_2 (F a0 16) (I_2 a0 19)) = 1 then (am_cl (X12_takeColumn N K F a0 I_2 (I_2 a0 19) x2) (fun _ I_6 => X12_make_b254 N K F a0 I_6)) else (X12_make_b254 N K F a0 I_2) else none else none) else (if (I_2 a0 6) = 2 then (am_lt (I_2 a0 19) (fun x4_3 => X12_make_h201 N K F a0 N I_2 x2 x4_3)) else (X12_make_b254 N K F a0 I_2)))) else none
theorem w_X12_make_b54 {η : am_E} {l : Launch} {N : Nat} {n : Nat} {K : am_K} {I : am_I} {F : am_F} {a0 : Nat} {r0 : Int × am_I} {x2 : Int} {s0 : Int} {s1 : Int} {t2 : Nat} (h0 : (K a0).1 = 12) : X12_make_b54 N K F a0 I x2 s0 s1 t2 = some r0 → Ok η l M_X12_make (am_qm η (am_pS 0 r0 n K F) 0 0) 54 [(0, qr a0), (2, qi x2)] [qi s0, qi s1, qr t2] n K I F 0 0 := by
  unfold X12_make_b54
  refine fi_chk (fun h_1 => ?_)
  refine fi_callV0S (q := 57) (as := [qi s1, qi s0]) (st := []) dX12_make_54 rfl mo_X12_158 h_1 rfl (Nat.le_of_ble_eq_true rfl) rfl rfl (Nat.le_of_ble_eq_true rfl) (Nat.le_of_ble_eq_true rfl) (Nat.le_of_ble_eq_true rfl) (Nat.zero_le _) (Nat.zero_le _) (fun _ hr => ct_X12_sow (N := N) h_1 hr) (fun _ I_2 => ?_)
  refine ok_aload_n (q := 58) 0 dX12_make_57 rfl rfl rfl ?_
  refine ok_getI (q := 61) (ci := 12) (k := 6) (x := I_2 a0 6) dX12_make_58 rfl fo_X12_99 h0 rfl ?_
  refine ok_iconst (q := 62) (x := 1) dX12_make_61 rfl rfl (by decide) ?_
  refine ok_icmp_ne (q := 154) (q2 := 65) dX12_make_62 rfl rfl ?_ ?_
  · skip
    refine ok_aload_n (q := 155) 0 dX12_make_154 rfl rfl rfl ?_
    refine ok_getI (q := 158) (ci := 12) (k := 6) (x := I_2 a0 6) dX12_make_155 rfl fo_X12_99 h0 rfl ?_
    refine ok_iconst (q := 159) (x := 3) dX12_make_158 rfl rfl (by decide) ?_
    refine ok_icmp_ne (q := 187) (q2 := 162) dX12_make_159 rfl rfl ?_ ?_
    · skip
      refine ok_aload_n (q := 188) 0 dX12_make_187 rfl rfl rfl ?_
      refine ok_getI (q := 191) (ci := 12) (k := 6) (x := I_2 a0 6) dX12_make_188 rfl fo_X12_99 h0 rfl ?_
      refine ok_iconst (q := 192) (x := 2) dX12_make_191 rfl rfl (by decide) ?_
      refine ok_icmp_ne (q := 254) (q2 := 195) dX12_make_192 rfl rfl ?_ ?_
      · skip
        exact fun g => ok_pick [0] rfl (w_X12_make_b254 (N := N) h0 g)
      · skip
        refine ok_aload_n (q := 196) 0 dX12_make_195 rfl rfl rfl ?_
        refine ok_getI (q := 199) (ci := 12) (k := 19) (x := I_2 a0 19) dX12_make_196 rfl fo_X12_145 h0 rfl ?_
        refine ok_istoreL (q := 201) (fun x4_3 => [(4, qi x4_3), (0, qr a0), (2, qi x2)]) dX12_make_199 rfl (Nat.le_of_ble_eq_true rfl) (fun _ => rfl) (fun x4_3 => ?_)
        exact fun g => ok_pick [1, 2, 0] rfl (w_X12_make_h201 (N := N) h0 N _ _ _ g)
    · skip
      refine ok_aload_n (q := 163) 0 dX12_make_162 rfl rfl rfl ?_
      refine ok_getR (q := 166) (ci := 12) (k := 16) (x := F a0 16) dX12_make_163 rfl fo_X12_26 h0 rfl ?_
      refine ok_aload_n (q := 167) 0 dX12_make_166 rfl rfl rfl ?_
      refine ok_getI (q := 170) (ci := 12) (k := 19) (x := I_2 a0 19) dX12_make_167 rfl fo_X12_145 h0 rfl ?_
      refine fi_chk (fun h_4 => ?_)
      refine fi_chk (fun h_5 => ?_)
      refine ok_iaload (q := 171) (v := I_2 (F a0 16) (I_2 a0 19)) dX12_make_170 rfl h_4 h_5.1 h_5.2 rfl ?_
      refine ok_iconst (q := 172) (x := 1) dX12_make_171 rfl rfl (by decide) ?_
      refine ok_icmp_ne (q := 254) (q2 := 175) dX12_make_172 rfl rfl ?_ ?_
      · skip
        exact fun g => ok_pick [0] rfl (w_X12_make_b254 (N := N) h0 g)
      · skip
        refine ok_aload_n (q := 176) 0 dX12_make_175 rfl rfl rfl ?_
        refine ok_aload_n (q := 177) 0 dX12_make_176 rfl rfl rfl ?_
        refine ok_getI (q := 180) (ci := 12) (k := 19) (x := I_2 a0 19) dX12_make_177 rfl fo_X12_145 h0 rfl ?_
        refine ok_iload_n (q := 181) 1 dX12_make_180 rfl rfl rfl ?_
        refine fi_callV0S (q := 184) (as := [qi (I_2 a0 19), qi x2]) (st := []) dX12_make_181 rfl mo_X12_161 h0 rfl (Nat.le_of_ble_eq_true rfl) rfl rfl (Nat.le_of_ble_eq_true rfl) (Nat.le_of_ble_eq_true rfl) (Nat.le_of_ble_eq_true rfl) (Nat.zero_le _) (Nat.zero_le _) (fun _ hr => ct_X12_takeColumn (N := N) h0 hr) (fun _ I_6 => ?_)
        refine ok_goto (q := 254) dX12_make_184 rfl ?_
        exact fun g => ok_pick [0] rfl (w_X12_make_b254 (N := N) h0 g)
  · skip
    refine ok_iconst (q := 66) (x := 1) dX12_make_65 rfl rfl (by decide) ?_
    refine ok_istore (q := 68) (ls' := [(4, qi 1), (0, qr a0), (2, qi x2)]) dX12_make_66 rfl (Nat.le_of_ble_eq_true rfl) rfl ?_
    exact fun g => ok_pick [1, 2, 0] rfl (w_X12_make_h68 (N := N) h0 N _ _ _ g)
def X12_make_s3 (N : Nat) (K : am_K) (F : am_F) (a0 : Nat) (k3 : am_I → Nat → Int → Int → Int → Option (Int × am_I)) (I : am_I) (a1 : Nat) (x2 : Int) (x3 : Int) (x4 : Int) : Option (Int × am_I) :=
  am_cq (X12_all N K F I a0) (fun v_1 => if x4 < v_1 then (if (K a1).1 = 100 then if (0 : Int) ≤ x4 ∧ x4 < (K a1).2 then if (K (F a0 16)).1 = 100 then if F a0 16 ≠ 1 then if (0 : Int) ≤ x4 ∧ x4 < (K (F a0 16)).2 then am_lt (am_u2 I (F a0 16) x4 (I a1 x4)) (fun I_9 => if am_inI (x4 + 1) then am_lt (x4 + 1) (fun x4_11 => k3 I_9 a1 x2 x3 x4_11) else none) else none else none else none else none else none) else (am_lt (am_u2 I a0 17 0) (fun I_2 => am_lt (am_u2 I_2 a0 18 0) (fun I_3 => if (I_3 a0 6) = 3 then (X12_make_b54 N K F a0 I_3 x2 x2 x3 a0) else (X12_make_b54 N K F a0 I_3 x2 (-1) x3 a0)))))
theorem w_X12_make_s3 {η : am_E} {l : Launch} {N : Nat} {n : Nat} {K : am_K} {I : am_I} {F : am_F} {a0 : Nat} {r0 : Int × am_I} {k3 : am_I → Nat → Int → Int → Int → Option (Int × am_I)} {a1 : Nat} {x2 : Int} {x3 : Int} {x4 : Int} (h0 : (K a0).1 = 12) (H3 : ∀ (I : am_I) (a1 : Nat) (x2 : Int) (x3 : Int) (x4 : Int), k3 I a1 x2 x3 x4 = some r0 → Ok η l M_X12_make (am_qm η (am_pS 0 r0 n K F) 0 0) 3 [(0, qr a0), (1, qr a1), (2, qi x2), (3, qi x3), (4, qi x4)] [] n K I F 0 0) : X12_make_s3 N K F a0 k3 I a1 x2 x3 x4 = some r0 → Ok η l M_X12_make (am_qm η (am_pS 0 r0 n K F) 0 0) 3 [(0, qr a0), (1, qr a1), (2, qi x2), (3, qi x3), (4, qi x4)] [] n K I F 0 0 := by
  unfold X12_make_s3
  refine ok_iload (q := 5) 4 dX12_make_3 rfl rfl ?_
  refine ok_aload_n (q := 6) 0 dX12_make_5 rfl rfl rfl ?_
  refine fi_callV1P (q := 9) (as := []) (st := [qi x4]) dX12_make_6 rfl mo_X12_133 h0 rfl (Nat.le_of_ble_eq_true rfl) rfl rfl (Nat.le_of_ble_eq_true rfl) (Nat.le_of_ble_eq_true rfl) (Nat.le_of_ble_eq_true rfl) (Nat.zero_le _) (Nat.zero_le _) (fun _ hr => ct_X12_all (N := N) h0 hr) (fun v_1 => ?_)
  refine ok_icmp_ge (q := 29) (q2 := 12) dX12_make_9 rfl rfl ?_ ?_
  · skip
    refine ok_aload_n (q := 30) 0 dX12_make_29 rfl rfl rfl ?_
    refine ok_iconst (q := 31) (x := 0) dX12_make_30 rfl rfl (by decide) ?_
    refine ok_putI (q := 34) (ci := 12) (k := 17) dX12_make_31 rfl fo_X12_148 h0 ft_12_17 ff_12_17 (fun I_2 => ?_)
    refine ok_aload_n (q := 35) 0 dX12_make_34 rfl rfl rfl ?_
    refine ok_iconst (q := 36) (x := 0) dX12_make_35 rfl rfl (by decide) ?_
    refine ok_putZ (q := 39) (ci := 12) (k := 18) dX12_make_36 rfl fo_X12_155 h0 ft_12_18 (by decide) ff_12_18 (fun I_3 => ?_)
    refine ok_aload_n (q := 40) 0 dX12_make_39 rfl rfl rfl ?_
    refine ok_iload_n (q := 41) 3 dX12_make_40 rfl rfl rfl ?_
    refine ok_aload_n (q := 42) 0 dX12_make_41 rfl rfl rfl ?_
    refine ok_getI (q := 45) (ci := 12) (k := 6) (x := I_3 a0 6) dX12_make_42 rfl fo_X12_99 h0 rfl ?_
    refine ok_iconst (q := 46) (x := 3) dX12_make_45 rfl rfl (by decide) ?_
    refine ok_icmp_ne (q := 53) (q2 := 49) dX12_make_46 rfl rfl ?_ ?_
    · skip
      refine ok_iconst (q := 54) (x := -1) dX12_make_53 rfl rfl (by decide) ?_
      exact fun g => ok_pick [0, 2] rfl (w_X12_make_b54 (N := N) h0 g)
    · skip
      refine ok_iload_n (q := 50) 2 dX12_make_49 rfl rfl rfl ?_
      refine ok_goto (q := 54) dX12_make_50 rfl ?_
      exact fun g => ok_pick [0, 2] rfl (w_X12_make_b54 (N := N) h0 g)
  · skip
    refine ok_aload_n (q := 13) 0 dX12_make_12 rfl rfl rfl ?_
    refine ok_getR (q := 16) (ci := 12) (k := 16) (x := F a0 16) dX12_make_13 rfl fo_X12_26 h0 rfl ?_
    refine ok_iload (q := 18) 4 dX12_make_16 rfl rfl ?_
    refine ok_aload_n (q := 19) 1 dX12_make_18 rfl rfl rfl ?_
    refine ok_iload (q := 21) 4 dX12_make_19 rfl rfl ?_
    refine fi_chk (fun h_4 => ?_)
    refine fi_chk (fun h_5 => ?_)
    refine ok_iaload (q := 22) (v := I a1 x4) dX12_make_21 rfl h_4 h_5.1 h_5.2 rfl ?_
    refine fi_chk (fun h_6 => ?_)
    refine fi_chk (fun h_7 => ?_)
    refine fi_chk (fun h_8 => ?_)
    refine ok_iastore (q := 23) dX12_make_22 rfl h_6 h_7 h_8.1 h_8.2 (fun I_9 => ?_)
    refine fi_chk (fun h_10 => ?_)
    refine ok_iincL (q := 26) (fun x4_11 => [(4, qi x4_11), (0, qr a0), (1, qr a1), (2, qi x2), (3, qi x3)]) 4 dX12_make_23 rfl rfl h_10 (Nat.le_of_ble_eq_true rfl) (fun _ => rfl) (fun x4_11 => ?_)
    refine ok_goto (q := 3) dX12_make_26 rfl ?_
    exact fun g => ok_pick [1, 2, 3, 4, 0] rfl (H3 _ _ _ _ _ g)
def X12_make_h3 (N : Nat) (K : am_K) (F : am_F) (a0 : Nat) : Nat → am_I → Nat → Int → Int → Int → Option (Int × am_I) := am_it (fun kh => X12_make_s3 N K F a0 kh) (fun _ _ _ _ _ => none)
theorem w_X12_make_h3 {η : am_E} {l : Launch} {N : Nat} {n : Nat} {K : am_K} {F : am_F} {a0 : Nat} {r0 : Int × am_I} (h0 : (K a0).1 = 12) (f : Nat) : ∀ (I : am_I) (a1 : Nat) (x2 : Int) (x3 : Int) (x4 : Int), X12_make_h3 N K F a0 f I a1 x2 x3 x4 = some r0 → Ok η l M_X12_make (am_qm η (am_pS 0 r0 n K F) 0 0) 3 [(0, qr a0), (1, qr a1), (2, qi x2), (3, qi x3), (4, qi x4)] [] n K I F 0 0 := by
  induction f with
  | zero => intro I a1 x2 x3 x4 g; exact fi_none g
  | succ f ih => intro I a1 x2 x3 x4 g; exact w_X12_make_s3 (N := N) h0 ih g
def X12_make (N : Nat) (K : am_K) (F : am_F) (a0 : Nat) (I : am_I) (a1 : Nat) (x2 : Int) (x3 : Int) : Option (Int × am_I) :=
  X12_make_h3 N K F a0 N I a1 x2 x3 0
theorem w_X12_make {η : am_E} {l : Launch} {N : Nat} {n : Nat} {K : am_K} {I : am_I} {F : am_F} {a0 : Nat} {r0 : Int × am_I} {a1 : Nat} {x2 : Int} {x3 : Int} (h0 : (K a0).1 = 12) : X12_make N K F a0 I a1 x2 x3 = some r0 → Ok η l M_X12_make (am_qm η (am_pS 0 r0 n K F) 0 0) 0 [(0, qr a0), (1, qr a1), (2, qi x2), (3, qi x3)] [] n K I F 0 0 := by
  unfold X12_make
  refine ok_iconst (q := 1) (x := 0) dX12_make_0 rfl rfl (by decide) ?_
  refine ok_istore (q := 3) (ls' := [(4, qi 0), (0, qr a0), (1, qr a1), (2, qi x2), (3, qi x3)]) dX12_make_1 rfl (Nat.le_of_ble_eq_true rfl) rfl ?_
  exact fun g => ok_pick [1, 2, 3, 4, 0] rfl (w_X12_make_h3 (N := N) h0 N _ _ _ _ _ g)
theorem ct_X12_make {η : am_E} {l : Launch} {N : Nat} {n : Nat} {K : am_K} {I : am_I} {F : am_F} {a0 : Nat} {r0 : Int × am_I} {a1 : Nat} {x2 : Int} {x3 : Int} (h0 : (K a0).1 = 12) : X12_make N K F a0 I a1 x2 x3 = some r0 → am_Ct η l yX12_make cX12_make 5 none 3 70 0 0 [qr a0, qr a1, qi x2, qi x3] n K I F (am_pS 0 r0 n K F) := fun g => am_Ct.of false (by decide) (by decide) (Nat.le_of_ble_eq_true rfl) (fun _ => w_X12_make (N := N) h0 g)
