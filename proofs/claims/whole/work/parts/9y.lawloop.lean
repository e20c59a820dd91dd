-- THE LAW's LOOP (made by gen_law.py)
section LAWL
variable {η : am_E} {l : Launch} {L : Nat} {xs : Nat → Int32} {N n k : Nat} {K : am_K} {I : am_I} {F : am_F} {c z : Nat} {i : Int}
theorem law_sw (hI : yIv n K F I c z k) (hs : ySc L xs K I) (hb : li_b L i) (hk : k ≤ 511) (hN : 2000000 < N) (w : Int) (kk : ∀ n K F I c z, yIv n K F I c z (k + 1) → Ok η l M_law (lq η L xs) 1275 [(0, qr 1), (1, qr 2), (2, qr 85), (3, qi i)] [] n K I F c z) (k0 : Ok η l M_law (lq η L xs) 1275 [(0, qr 1), (1, qr 2), (2, qr 85), (3, qi i)] [] n K I F c z) : Ok η l M_law (lq η L xs) 32 [(0, qr 1), (1, qr 2), (2, qr 85), (3, qi i)] [qi w] n K I F c z := by
  by_cases g0 : w = 0
  · exact ok_table_in (G := True) (q := 216) dL_law_32 (by omega) (by omega) (by rw [g0]; rfl) rfl (fun _ => lc_board hI hs hb hk hN kk) trivial
  by_cases g1 : w = 1
  · exact ok_table_in (G := True) (q := 249) dL_law_32 (by omega) (by omega) (by rw [g1]; rfl) rfl (fun _ => lc_lack hI hs hb hk hN kk) trivial
  by_cases g2 : w = 2
  · exact ok_table_in (G := True) (q := 282) dL_law_32 (by omega) (by omega) (by rw [g2]; rfl) rfl (fun _ => lc_seeds hI hs hb hk hN kk) trivial
  by_cases g3 : w = 3
  · exact ok_table_in (G := True) (q := 325) dL_law_32 (by omega) (by omega) (by rw [g3]; rfl) rfl (fun _ => lc_store hI hs hb hk hN kk) trivial
  by_cases g4 : w = 4
  · exact ok_table_in (G := True) (q := 358) dL_law_32 (by omega) (by omega) (by rw [g4]; rfl) rfl (fun _ => lc_side hI hs hb hk hN kk) trivial
  by_cases g5 : w = 5
  · exact ok_table_in (G := True) (q := 381) dL_law_32 (by omega) (by omega) (by rw [g5]; rfl) rfl (fun _ => lc_rule hI hs hb hk hN kk) trivial
  by_cases g6 : w = 6
  · exact ok_table_in (G := True) (q := 404) dL_law_32 (by omega) (by omega) (by rw [g6]; rfl) rfl (fun _ => lc_rounds hI hs hb hk hN kk) trivial
  by_cases g7 : w = 7
  · exact ok_table_in (G := True) (q := 427) dL_law_32 (by omega) (by omega) (by rw [g7]; rfl) rfl (fun _ => lc_takes hI hs hb hk hN kk) trivial
  by_cases g8 : w = 8
  · exact ok_table_in (G := True) (q := 460) dL_law_32 (by omega) (by omega) (by rw [g8]; rfl) rfl (fun _ => lc_least hI hs hb hk hN kk) trivial
  by_cases g9 : w = 9
  · exact ok_table_in (G := True) (q := 483) dL_law_32 (by omega) (by omega) (by rw [g9]; rfl) rfl (fun _ => lc_feeding hI hs hb hk hN kk) trivial
  by_cases g10 : w = 10
  · exact ok_table_in (G := True) (q := 506) dL_law_32 (by omega) (by omega) (by rw [g10]; rfl) rfl (fun _ => lc_ends hI hs hb hk hN kk) trivial
  by_cases g11 : w = 11
  · exact ok_table_in (G := True) (q := 529) dL_law_32 (by omega) (by omega) (by rw [g11]; rfl) rfl (fun _ => lc_move hI hs hb hk hN kk) trivial
  by_cases g12 : w = 12
  · exact ok_table_in (G := True) (q := 562) dL_law_32 (by omega) (by omega) (by rw [g12]; rfl) rfl (fun _ => lc_undo hI hs hb hk hN kk) trivial
  by_cases g13 : w = 13
  · exact ok_table_in (G := True) (q := 575) dL_law_32 (by omega) (by omega) (by rw [g13]; rfl) rfl (fun _ => lc_redo hI hs hb hk hN kk) trivial
  by_cases g14 : w = 14
  · exact ok_table_in (G := True) (q := 588) dL_law_32 (by omega) (by omega) (by rw [g14]; rfl) rfl (fun _ => lc_pit hI hs hb hk hN kk) trivial
  by_cases g15 : w = 15
  · exact ok_table_in (G := True) (q := 621) dL_law_32 (by omega) (by omega) (by rw [g15]; rfl) rfl (fun _ => lc_stored hI hs hb hk hN kk) trivial
  by_cases g16 : w = 16
  · exact ok_table_in (G := True) (q := 644) dL_law_32 (by omega) (by omega) (by rw [g16]; rfl) rfl (fun _ => lc_score hI hs hb hk hN kk) trivial
  by_cases g17 : w = 17
  · exact ok_table_in (G := True) (q := 667) dL_law_32 (by omega) (by omega) (by rw [g17]; rfl) rfl (fun _ => lc_turn hI hs hb hk hN kk) trivial
  by_cases g18 : w = 18
  · exact ok_table_in (G := True) (q := 680) dL_law_32 (by omega) (by omega) (by rw [g18]; rfl) rfl (fun _ => lc_over hI hs hb hk hN kk) trivial
  by_cases g19 : w = 19
  · exact ok_table_in (G := True) (q := 693) dL_law_32 (by omega) (by omega) (by rw [g19]; rfl) rfl (fun _ => lc_moves hI hs hb hk hN kk) trivial
  by_cases g20 : w = 20
  · exact ok_table_in (G := True) (q := 706) dL_law_32 (by omega) (by omega) (by rw [g20]; rfl) rfl (fun _ => lc_allowed hI hs hb hk hN kk) trivial
  by_cases g21 : w = 21
  · exact ok_table_in (G := True) (q := 719) dL_law_32 (by omega) (by omega) (by rw [g21]; rfl) rfl (fun _ => lc_positions hI hs hb hk hN kk) trivial
  by_cases g22 : w = 22
  · exact ok_table_in (G := True) (q := 743) dL_law_32 (by omega) (by omega) (by rw [g22]; rfl) rfl (fun _ => lc_place hI hs hb hk hN kk) trivial
  by_cases g23 : w = 23
  · exact ok_table_in (G := True) (q := 757) dL_law_32 (by omega) (by omega) (by rw [g23]; rfl) rfl (fun _ => lc_ofPlace hI hs hb hk hN kk) trivial
  by_cases g24 : w = 24
  · exact ok_table_in (G := True) (q := 820) dL_law_32 (by omega) (by omega) (by rw [g24]; rfl) rfl (fun _ => lc_solve hI hs hb hk hN kk) trivial
  by_cases g25 : w = 25
  · exact ok_table_in (G := True) (q := 843) dL_law_32 (by omega) (by omega) (by rw [g25]; rfl) rfl (fun _ => lc_goOn hI hs hb hk hN kk) trivial
  by_cases g26 : w = 26
  · exact ok_table_in (G := True) (q := 866) dL_law_32 (by omega) (by omega) (by rw [g26]; rfl) rfl (fun _ => lc_value hI hs hb hk hN kk) trivial
  by_cases g27 : w = 27
  · exact ok_table_in (G := True) (q := 889) dL_law_32 (by omega) (by omega) (by rw [g27]; rfl) rfl (fun _ => lc_rank hI hs hb hk hN kk) trivial
  by_cases g28 : w = 28
  · exact ok_table_in (G := True) (q := 912) dL_law_32 (by omega) (by omega) (by rw [g28]; rfl) rfl (fun _ => lc_best hI hs hb hk hN kk) trivial
  by_cases g29 : w = 29
  · exact ok_table_in (G := True) (q := 935) dL_law_32 (by omega) (by omega) (by rw [g29]; rfl) rfl (fun _ => lc_reaches hI hs hb hk hN kk) trivial
  by_cases g30 : w = 30
  · exact ok_table_in (G := True) (q := 968) dL_law_32 (by omega) (by omega) (by rw [g30]; rfl) rfl (fun _ => lc_count hI hs hb hk hN kk) trivial
  by_cases g31 : w = 31
  · exact ok_table_in (G := True) (q := 991) dL_law_32 (by omega) (by omega) (by rw [g31]; rfl) rfl (fun _ => lc_find hI hs hb hk hN kk) trivial
  by_cases g32 : w = 32
  · exact ok_table_in (G := True) (q := 1024) dL_law_32 (by omega) (by omega) (by rw [g32]; rfl) rfl (fun _ => lc_claim hI hs hb hk hN kk) trivial
  by_cases g33 : w = 33
  · exact ok_table_in (G := True) (q := 1067) dL_law_32 (by omega) (by omega) (by rw [g33]; rfl) rfl (fun _ => lc_copy hI hs hb hk hN kk) trivial
  by_cases g34 : w = 34
  · exact ok_table_in (G := True) (q := 1080) dL_law_32 (by omega) (by omega) (by rw [g34]; rfl) rfl (fun _ => lc_check hI hs hb hk hN kk) trivial
  by_cases g35 : w = 35
  · exact ok_table_in (G := True) (q := 1093) dL_law_32 (by omega) (by omega) (by rw [g35]; rfl) rfl (fun _ => lc_line hI hs hb hk hN kk) trivial
  by_cases g36 : w = 36
  · exact ok_table_in (G := True) (q := 1116) dL_law_32 (by omega) (by omega) (by rw [g36]; rfl) rfl (fun _ => lc_lineAt hI hs hb hk hN kk) trivial
  by_cases g37 : w = 37
  · exact ok_table_in (G := True) (q := 1139) dL_law_32 (by omega) (by omega) (by rw [g37]; rfl) rfl (fun _ => lc_ring hI hs hb hk hN kk) trivial
  by_cases g38 : w = 38
  · exact ok_table_in (G := True) (q := 1152) dL_law_32 (by omega) (by omega) (by rw [g38]; rfl) rfl (fun _ => lc_player hI hs hb hk hN kk) trivial
  by_cases g39 : w = 39
  · exact ok_table_in (G := True) (q := 1225) dL_law_32 (by omega) (by omega) (by rw [g39]; rfl) rfl (fun _ => lc_play hI hs hb hk hN kk) trivial
  by_cases g40 : w = 40
  · exact ok_table_in (G := True) (q := 1248) dL_law_32 (by omega) (by omega) (by rw [g40]; rfl) rfl (fun _ => lc_status hI hs hb hk hN kk) trivial
  by_cases g41 : w = 41
  · exact ok_table_in (G := True) (q := 1261) dL_law_32 (by omega) (by omega) (by rw [g41]; rfl) rfl (fun _ => lc_digest hI hs hb hk hN kk) trivial
  exact ok_table_out (G := True) (q := 1275) dL_law_32 (by omega) rfl (fun _ => k0) trivial
theorem law_loop (hL : L ≤ 2560) (hN : 2000000 < N) : ∀ (f k n : Nat) (K : am_K) (F : am_F) (I : am_I) (c z : Nat), L ≤ 5 * k + f → 5 * k ≤ L → yIv n K F I c z k → Ok η l M_law (lq η L xs) 18 [(0, qr 1), (1, qr 2), (2, qr 85), (3, qi (5 * (k : Int)))] [] n K I F c z := by
  intro f
  induction f with
  | zero =>
    intro k n K F I c z h1 h2 hI
    refine ok_scr (fun hs => ?_)
    refine ok_iload_n (G := True) (q := 19) 3 dL_law_18 rfl rfl rfl ?_ trivial
    refine ok_aload_n (q := 20) 0 dL_law_19 rfl rfl rfl ?_
    refine ok_arraylength (q := 21) (i := 0) (x := (L : Int)) dL_law_20 rfl hs.1 (by decide) rfl hs.2.1 ⟨by omega, by omega⟩ ?_
    refine ok_iconst (q := 22) (x := 5) dL_law_21 rfl rfl (by decide) ?_
    refine ok_isub (q := 23) dL_law_22 rfl ⟨by omega, by omega⟩ ?_
    refine fun _ => ok_icmp_gt (q := 1281) (q2 := 26) (t1 := some ()) (t2 := none) (r0 := ()) dL_law_23 rfl rfl (fun _ => ?_) (fun g => by cases g) (if_neg (by omega))
    refine ok_iconst (G := True) (q := 1282) (x := 1) dL_law_1281 rfl rfl (by decide) (fun _ => ?_) trivial
    exact ok_lawret dL_law_1282 (hI.rc (by omega)) hI.rz
  | succ f ih =>
    intro k n K F I c z h1 h2 hI
    refine ok_scr (fun hs => ?_)
    refine ok_iload_n (G := True) (q := 19) 3 dL_law_18 rfl rfl rfl ?_ trivial
    refine ok_aload_n (q := 20) 0 dL_law_19 rfl rfl rfl ?_
    refine ok_arraylength (q := 21) (i := 0) (x := (L : Int)) dL_law_20 rfl hs.1 (by decide) rfl hs.2.1 ⟨by omega, by omega⟩ ?_
    refine ok_iconst (q := 22) (x := 5) dL_law_21 rfl rfl (by decide) ?_
    refine ok_isub (q := 23) dL_law_22 rfl ⟨by omega, by omega⟩ ?_
    by_cases hE : 5 * k + 5 ≤ L
    · refine fun _ => ok_icmp_gt (q := 1281) (q2 := 26) (t1 := none) (t2 := some ()) (r0 := ()) dL_law_23 rfl rfl (fun g => by cases g) (fun _ => ?_) (if_pos (by omega))
      have hb : li_b L (5 * (k : Int)) := li_b_of (by omega) (by omega) (by omega)
      have kk : ∀ n K F I c z, yIv n K F I c z (k + 1) → Ok η l M_law (lq η L xs) 1275 [(0, qr 1), (1, qr 2), (2, qr 85), (3, qi (5 * (k : Int)))] [] n K I F c z := by
        intro n K F I c z h
        refine ok_iinc (G := True) (q := 1278) (ls' := [(3, qi (5 * (k : Int) + 5)), (0, qr 1), (1, qr 2), (2, qr 85)]) 3 dL_law_1275 rfl rfl ⟨by omega, by omega⟩ (Nat.le_of_ble_eq_true rfl) rfl ?_ trivial
        refine ok_goto (q := 18) dL_law_1278 rfl ?_
        intro _
        refine ok_pick [1, 2, 3, 0] rfl ?_
        have h5 : 5 * (k : Int) + 5 = 5 * ((k + 1 : Nat) : Int) := by omega
        rw [h5]
        exact ih (k + 1) n K F I c z (by omega) (by omega) h
      refine ok_aload_n (G := True) (q := 27) 0 dL_law_26 rfl rfl rfl ?_ trivial
      refine ok_iload_n (q := 28) 3 dL_law_27 rfl rfl rfl ?_
      refine ok_iaload (q := 29) (v := ls_y xs (5 * (k : Int))) dL_law_28 rfl hs.1 (by omega) (hs.lt (by omega)) (hs.2.2 _ (by omega) (by omega)) ?_
      refine ok_bipush (q := 31) (x := 63) dL_law_29 rfl rfl (by decide) ?_
      refine ok_iand (q := 32) (r := am_iand (ls_y xs (5 * (k : Int))) 63) dL_law_31 rfl rfl ?_
      exact fun _ => law_sw hI hs hb (by omega) hN _ kk (kk n K F I c z hI.up)
    · refine fun _ => ok_icmp_gt (q := 1281) (q2 := 26) (t1 := some ()) (t2 := none) (r0 := ()) dL_law_23 rfl rfl (fun _ => ?_) (fun g => by cases g) (if_neg (by omega))
      refine ok_iconst (G := True) (q := 1282) (x := 1) dL_law_1281 rfl rfl (by decide) (fun _ => ?_) trivial
      exact ok_lawret dL_law_1282 (hI.rc (by omega)) hI.rz
end LAWL
