-- THE LAW's CASES (made by gen_law.py)
section LAWC
variable {η : am_E} {l : Launch} {L : Nat} {xs : Nat → Int32} {N n k : Nat} {K : am_K} {I : am_I} {F : am_F} {c z : Nat} {i : Int}
theorem lc_pit (hI : yIv n K F I c z k) (hs : ySc L xs K I) (hb : li_b L i) (hk : k ≤ 511) (hN : 2000000 < N) (kk : ∀ n K F I c z, yIv n K F I c z (k + 1) → Ok η l M_law (lq η L xs) 1275 [(0, qr 1), (1, qr 2), (2, qr 85), (3, qi i)] [] n K I F c z) : Ok η l M_law (lq η L xs) 588 [(0, qr 1), (1, qr 2), (2, qr 85), (3, qi i)] [] n K I F c z := by
  have hN1 : 100 < N := by omega
  have hk1 : k + 1 ≤ 512 := by omega
  have hk0 : k ≤ 512 := by omega
  obtain ⟨hb1, hb2, hb3, hb4⟩ := hb
  obtain ⟨R, C, A, lk, U, S, hS, h⟩ := hI.ex
  have k2 : (K 2).1 = 11 := by rw [cwK_2 h.a.c]
  have k85 : (K 85).1 = 12 := by rw [mwK_85 h.a.m]
  have hc0 := hI.rc hk0
  have hz0 := hI.rz
  have hc1 := hc0
  have hz1 := hz0
  obtain ⟨v, J, J', hx, hy, h2, hst⟩ := e_pit (N := N) (x := (ls_y xs (i + 1))) (y := (ls_y xs (i + 2))) h 
  have hF := yIv.nx hI h2 (by clear h h2; omega) hst
  refine ok_aload_n (G := True) (q := 589) 1 dL_law_588 rfl rfl rfl ?_ trivial
  refine ok_aload_n (q := 590) 0 dL_law_589 rfl rfl rfl ?_
  refine ok_iload_n (q := 591) 3 dL_law_590 rfl rfl rfl ?_
  refine ok_iconst (q := 592) (x := 1) dL_law_591 rfl rfl (by decide) ?_
  refine ok_iadd (q := 593) dL_law_592 rfl hb1.1 ?_
  refine ok_iaload (q := 594) (v := ls_y xs (i + 1)) dL_law_593 rfl hs.1 hb1.2.1 (hs.lt hb1.2.2) (hs.2.2 _ hb1.2.1 hb1.2.2) ?_
  refine ok_aload_n (q := 595) 0 dL_law_594 rfl rfl rfl ?_
  refine ok_iload_n (q := 596) 3 dL_law_595 rfl rfl rfl ?_
  refine ok_iconst (q := 597) (x := 2) dL_law_596 rfl rfl (by decide) ?_
  refine ok_iadd (q := 598) dL_law_597 rfl hb2.1 ?_
  refine ok_iaload (q := 599) (v := ls_y xs (i + 2)) dL_law_598 rfl hs.1 hb2.2.1 (hs.lt hb2.2.2) (hs.2.2 _ hb2.2.1 hb2.2.2) ?_
  refine fun _ => ok_callV (q := 602) (as := [qi (ls_y xs (i + 1)), qi (ls_y xs (i + 2))]) (st := []) dL_law_599 rfl mo_L_73 k2 rfl (Nat.le_of_ble_eq_true rfl) rfl rfl (Nat.le_of_ble_eq_true rfl) (Nat.le_of_ble_eq_true rfl) (Nat.le_of_ble_eq_true rfl) hc0 hz0 (ct_X11_pit (N := N) k2 hx) (fun v' n'' K'' I'' F'' hp => ?_)
  obtain ⟨rfl, rfl, rfl, rfl, rfl⟩ := hp
  refine ok_scr (fun hs2 => ?_)
  refine ok_aload_n (G := True) (q := 603) 2 dL_law_602 rfl rfl rfl ?_ trivial
  refine ok_aload_n (q := 604) 0 dL_law_603 rfl rfl rfl ?_
  refine ok_iload_n (q := 605) 3 dL_law_604 rfl rfl rfl ?_
  refine ok_iconst (q := 606) (x := 1) dL_law_605 rfl rfl (by decide) ?_
  refine ok_iadd (q := 607) dL_law_606 rfl hb1.1 ?_
  refine ok_iaload (q := 608) (v := ls_y xs (i + 1)) dL_law_607 rfl hs2.1 hb1.2.1 (hs2.lt hb1.2.2) (hs2.2.2 _ hb1.2.1 hb1.2.2) ?_
  refine ok_aload_n (q := 609) 0 dL_law_608 rfl rfl rfl ?_
  refine ok_iload_n (q := 610) 3 dL_law_609 rfl rfl rfl ?_
  refine ok_iconst (q := 611) (x := 2) dL_law_610 rfl rfl (by decide) ?_
  refine ok_iadd (q := 612) dL_law_611 rfl hb2.1 ?_
  refine ok_iaload (q := 613) (v := ls_y xs (i + 2)) dL_law_612 rfl hs2.1 hb2.2.1 (hs2.lt hb2.2.2) (hs2.2.2 _ hb2.2.1 hb2.2.2) ?_
  refine fun _ => ok_callV (q := 616) (as := [qi (ls_y xs (i + 1)), qi (ls_y xs (i + 2))]) (st := [qi v]) dL_law_613 rfl mo_L_76 k85 rfl (Nat.le_of_ble_eq_true rfl) rfl rfl (Nat.le_of_ble_eq_true rfl) (Nat.le_of_ble_eq_true rfl) (Nat.le_of_ble_eq_true rfl) hc1 hz1 (ct_X12_pit (N := N) k85 hy) (fun v' n'' K'' I'' F'' hp => ?_)
  obtain ⟨rfl, rfl, rfl, rfl, rfl⟩ := hp
  exact ok_icmp_eq (q := 1275) (q2 := 619) (x := v) (y := v) (t1 := some ()) (t2 := none) (r0 := ()) dL_law_616 rfl rfl (fun _ => kk _ _ _ _ _ _ hF) (fun g => by cases g) (if_pos rfl)
theorem lc_stored (hI : yIv n K F I c z k) (hs : ySc L xs K I) (hb : li_b L i) (hk : k ≤ 511) (hN : 2000000 < N) (kk : ∀ n K F I c z, yIv n K F I c z (k + 1) → Ok η l M_law (lq η L xs) 1275 [(0, qr 1), (1, qr 2), (2, qr 85), (3, qi i)] [] n K I F c z) : Ok η l M_law (lq η L xs) 621 [(0, qr 1), (1, qr 2), (2, qr 85), (3, qi i)] [] n K I F c z := by
  have hN1 : 100 < N := by omega
  have hk1 : k + 1 ≤ 512 := by omega
  have hk0 : k ≤ 512 := by omega
  obtain ⟨hb1, hb2, hb3, hb4⟩ := hb
  obtain ⟨R, C, A, lk, U, S, hS, h⟩ := hI.ex
  have k2 : (K 2).1 = 11 := by rw [cwK_2 h.a.c]
  have k85 : (K 85).1 = 12 := by rw [mwK_85 h.a.m]
  have hc0 := hI.rc hk0
  have hz0 := hI.rz
  have hc1 := hc0
  have hz1 := hz0
  obtain ⟨v, J, J', hx, hy, h2, hst⟩ := e_stored (N := N) (x := (ls_y xs (i + 1))) h 
  have hF := yIv.nx hI h2 (by clear h h2; omega) hst
  refine ok_aload_n (G := True) (q := 622) 1 dL_law_621 rfl rfl rfl ?_ trivial
  refine ok_aload_n (q := 623) 0 dL_law_622 rfl rfl rfl ?_
  refine ok_iload_n (q := 624) 3 dL_law_623 rfl rfl rfl ?_
  refine ok_iconst (q := 625) (x := 1) dL_law_624 rfl rfl (by decide) ?_
  refine ok_iadd (q := 626) dL_law_625 rfl hb1.1 ?_
  refine ok_iaload (q := 627) (v := ls_y xs (i + 1)) dL_law_626 rfl hs.1 hb1.2.1 (hs.lt hb1.2.2) (hs.2.2 _ hb1.2.1 hb1.2.2) ?_
  refine fun _ => ok_callV (q := 630) (as := [qi (ls_y xs (i + 1))]) (st := []) dL_law_627 rfl mo_L_77 k2 rfl (Nat.le_of_ble_eq_true rfl) rfl rfl (Nat.le_of_ble_eq_true rfl) (Nat.le_of_ble_eq_true rfl) (Nat.le_of_ble_eq_true rfl) hc0 hz0 (ct_X11_stored (N := N) k2 hx) (fun v' n'' K'' I'' F'' hp => ?_)
  obtain ⟨rfl, rfl, rfl, rfl, rfl⟩ := hp
  refine ok_scr (fun hs2 => ?_)
  refine ok_aload_n (G := True) (q := 631) 2 dL_law_630 rfl rfl rfl ?_ trivial
  refine ok_aload_n (q := 632) 0 dL_law_631 rfl rfl rfl ?_
  refine ok_iload_n (q := 633) 3 dL_law_632 rfl rfl rfl ?_
  refine ok_iconst (q := 634) (x := 1) dL_law_633 rfl rfl (by decide) ?_
  refine ok_iadd (q := 635) dL_law_634 rfl hb1.1 ?_
  refine ok_iaload (q := 636) (v := ls_y xs (i + 1)) dL_law_635 rfl hs2.1 hb1.2.1 (hs2.lt hb1.2.2) (hs2.2.2 _ hb1.2.1 hb1.2.2) ?_
  refine fun _ => ok_callV (q := 639) (as := [qi (ls_y xs (i + 1))]) (st := [qi v]) dL_law_636 rfl mo_L_80 k85 rfl (Nat.le_of_ble_eq_true rfl) rfl rfl (Nat.le_of_ble_eq_true rfl) (Nat.le_of_ble_eq_true rfl) (Nat.le_of_ble_eq_true rfl) hc1 hz1 (ct_X12_stored (N := N) k85 hy) (fun v' n'' K'' I'' F'' hp => ?_)
  obtain ⟨rfl, rfl, rfl, rfl, rfl⟩ := hp
  exact ok_icmp_eq (q := 1275) (q2 := 642) (x := v) (y := v) (t1 := some ()) (t2 := none) (r0 := ()) dL_law_639 rfl rfl (fun _ => kk _ _ _ _ _ _ hF) (fun g => by cases g) (if_pos rfl)
theorem lc_score (hI : yIv n K F I c z k) (hs : ySc L xs K I) (hb : li_b L i) (hk : k ≤ 511) (hN : 2000000 < N) (kk : ∀ n K F I c z, yIv n K F I c z (k + 1) → Ok η l M_law (lq η L xs) 1275 [(0, qr 1), (1, qr 2), (2, qr 85), (3, qi i)] [] n K I F c z) : Ok η l M_law (lq η L xs) 644 [(0, qr 1), (1, qr 2), (2, qr 85), (3, qi i)] [] n K I F c z := by
  have hN1 : 100 < N := by omega
  have hk1 : k + 1 ≤ 512 := by omega
  have hk0 : k ≤ 512 := by omega
  obtain ⟨hb1, hb2, hb3, hb4⟩ := hb
  obtain ⟨R, C, A, lk, U, S, hS, h⟩ := hI.ex
  have k2 : (K 2).1 = 11 := by rw [cwK_2 h.a.c]
  have k85 : (K 85).1 = 12 := by rw [mwK_85 h.a.m]
  have hc0 := hI.rc hk0
  have hz0 := hI.rz
  have hc1 := hc0
  have hz1 := hz0
  obtain ⟨v, J, J', hx, hy, h2, hst⟩ := e_score (N := N) (x := (ls_y xs (i + 1))) h hN
  have hF := yIv.nx hI h2 (by clear h h2; omega) hst
  refine ok_aload_n (G := True) (q := 645) 1 dL_law_644 rfl rfl rfl ?_ trivial
  refine ok_aload_n (q := 646) 0 dL_law_645 rfl rfl rfl ?_
  refine ok_iload_n (q := 647) 3 dL_law_646 rfl rfl rfl ?_
  refine ok_iconst (q := 648) (x := 1) dL_law_647 rfl rfl (by decide) ?_
  refine ok_iadd (q := 649) dL_law_648 rfl hb1.1 ?_
  refine ok_iaload (q := 650) (v := ls_y xs (i + 1)) dL_law_649 rfl hs.1 hb1.2.1 (hs.lt hb1.2.2) (hs.2.2 _ hb1.2.1 hb1.2.2) ?_
  refine fun _ => ok_callV (q := 653) (as := [qi (ls_y xs (i + 1))]) (st := []) dL_law_650 rfl mo_L_81 k2 rfl (Nat.le_of_ble_eq_true rfl) rfl rfl (Nat.le_of_ble_eq_true rfl) (Nat.le_of_ble_eq_true rfl) (Nat.le_of_ble_eq_true rfl) hc0 hz0 (ct_X11_score (N := N) k2 hx) (fun v' n'' K'' I'' F'' hp => ?_)
  obtain ⟨rfl, rfl, rfl, rfl, rfl⟩ := hp
  refine ok_scr (fun hs2 => ?_)
  refine ok_aload_n (G := True) (q := 654) 2 dL_law_653 rfl rfl rfl ?_ trivial
  refine ok_aload_n (q := 655) 0 dL_law_654 rfl rfl rfl ?_
  refine ok_iload_n (q := 656) 3 dL_law_655 rfl rfl rfl ?_
  refine ok_iconst (q := 657) (x := 1) dL_law_656 rfl rfl (by decide) ?_
  refine ok_iadd (q := 658) dL_law_657 rfl hb1.1 ?_
  refine ok_iaload (q := 659) (v := ls_y xs (i + 1)) dL_law_658 rfl hs2.1 hb1.2.1 (hs2.lt hb1.2.2) (hs2.2.2 _ hb1.2.1 hb1.2.2) ?_
  refine fun _ => ok_callV (q := 662) (as := [qi (ls_y xs (i + 1))]) (st := [qi v]) dL_law_659 rfl mo_L_84 k85 rfl (Nat.le_of_ble_eq_true rfl) rfl rfl (Nat.le_of_ble_eq_true rfl) (Nat.le_of_ble_eq_true rfl) (Nat.le_of_ble_eq_true rfl) hc1 hz1 (ct_X12_score (N := N) k85 hy) (fun v' n'' K'' I'' F'' hp => ?_)
  obtain ⟨rfl, rfl, rfl, rfl, rfl⟩ := hp
  exact ok_icmp_eq (q := 1275) (q2 := 665) (x := v) (y := v) (t1 := some ()) (t2 := none) (r0 := ()) dL_law_662 rfl rfl (fun _ => kk _ _ _ _ _ _ hF) (fun g => by cases g) (if_pos rfl)
theorem lc_turn (hI : yIv n K F I c z k) (hs : ySc L xs K I) (hb : li_b L i) (hk : k ≤ 511) (hN : 2000000 < N) (kk : ∀ n K F I c z, yIv n K F I c z (k + 1) → Ok η l M_law (lq η L xs) 1275 [(0, qr 1), (1, qr 2), (2, qr 85), (3, qi i)] [] n K I F c z) : Ok η l M_law (lq η L xs) 667 [(0, qr 1), (1, qr 2), (2, qr 85), (3, qi i)] [] n K I F c z := by
  have hN1 : 100 < N := by omega
  have hk1 : k + 1 ≤ 512 := by omega
  have hk0 : k ≤ 512 := by omega
  obtain ⟨hb1, hb2, hb3, hb4⟩ := hb
  obtain ⟨R, C, A, lk, U, S, hS, h⟩ := hI.ex
  have k2 : (K 2).1 = 11 := by rw [cwK_2 h.a.c]
  have k85 : (K 85).1 = 12 := by rw [mwK_85 h.a.m]
  have hc0 := hI.rc hk0
  have hz0 := hI.rz
  have hc1 := hc0
  have hz1 := hz0
  obtain ⟨hx, hy⟩ := e_turn (N := N) h
  generalize hv : I 85 5 = v at hx hy
  have hF := yIv.nx (J := I) hI h (by clear h; omega) hI.st
  refine ok_aload_n (G := True) (q := 668) 1 dL_law_667 rfl rfl rfl ?_ trivial
  refine fun _ => ok_callV (q := 671) (as := []) (st := []) dL_law_668 rfl mo_L_85 k2 rfl (Nat.le_of_ble_eq_true rfl) rfl rfl (Nat.le_of_ble_eq_true rfl) (Nat.le_of_ble_eq_true rfl) (Nat.le_of_ble_eq_true rfl) hc0 hz0 (ct_X11_turn (N := N) k2 hx) (fun v' n'' K'' I'' F'' hp => ?_)
  obtain ⟨rfl, rfl, rfl, rfl, rfl⟩ := hp
  refine ok_scr (fun hs2 => ?_)
  refine ok_aload_n (G := True) (q := 672) 2 dL_law_671 rfl rfl rfl ?_ trivial
  refine fun _ => ok_callV (q := 675) (as := []) (st := [qi v]) dL_law_672 rfl mo_L_88 k85 rfl (Nat.le_of_ble_eq_true rfl) rfl rfl (Nat.le_of_ble_eq_true rfl) (Nat.le_of_ble_eq_true rfl) (Nat.le_of_ble_eq_true rfl) hc1 hz1 (ct_X12_turn (N := N) k85 hy) (fun v' n'' K'' I'' F'' hp => ?_)
  obtain ⟨rfl, rfl, rfl, rfl, rfl⟩ := hp
  exact ok_icmp_eq (q := 1275) (q2 := 678) (x := v) (y := v) (t1 := some ()) (t2 := none) (r0 := ()) dL_law_675 rfl rfl (fun _ => kk _ _ _ _ _ _ hF) (fun g => by cases g) (if_pos rfl)
theorem lc_over (hI : yIv n K F I c z k) (hs : ySc L xs K I) (hb : li_b L i) (hk : k ≤ 511) (hN : 2000000 < N) (kk : ∀ n K F I c z, yIv n K F I c z (k + 1) → Ok η l M_law (lq η L xs) 1275 [(0, qr 1), (1, qr 2), (2, qr 85), (3, qi i)] [] n K I F c z) : Ok η l M_law (lq η L xs) 680 [(0, qr 1), (1, qr 2), (2, qr 85), (3, qi i)] [] n K I F c z := by
  have hN1 : 100 < N := by omega
  have hk1 : k + 1 ≤ 512 := by omega
  have hk0 : k ≤ 512 := by omega
  obtain ⟨hb1, hb2, hb3, hb4⟩ := hb
  obtain ⟨R, C, A, lk, U, S, hS, h⟩ := hI.ex
  have k2 : (K 2).1 = 11 := by rw [cwK_2 h.a.c]
  have k85 : (K 85).1 = 12 := by rw [mwK_85 h.a.m]
  have hc0 := hI.rc hk0
  have hz0 := hI.rz
  have hc1 := hc0
  have hz1 := hz0
  obtain ⟨v, J, J', hx, hy, h2, hst⟩ := e_over (N := N)  h hN hI.st
  have hF := yIv.nx hI h2 (by clear h h2; omega) hst
  refine ok_aload_n (G := True) (q := 681) 1 dL_law_680 rfl rfl rfl ?_ trivial
  refine fun _ => ok_callV (q := 684) (as := []) (st := []) dL_law_681 rfl mo_L_89 k2 rfl (Nat.le_of_ble_eq_true rfl) rfl rfl (Nat.le_of_ble_eq_true rfl) (Nat.le_of_ble_eq_true rfl) (Nat.le_of_ble_eq_true rfl) hc0 hz0 (ct_X11_over (N := N) k2 hx) (fun v' n'' K'' I'' F'' hp => ?_)
  obtain ⟨rfl, rfl, rfl, rfl, rfl⟩ := hp
  refine ok_scr (fun hs2 => ?_)
  refine ok_aload_n (G := True) (q := 685) 2 dL_law_684 rfl rfl rfl ?_ trivial
  refine fun _ => ok_callV (q := 688) (as := []) (st := [qi v]) dL_law_685 rfl mo_L_92 k85 rfl (Nat.le_of_ble_eq_true rfl) rfl rfl (Nat.le_of_ble_eq_true rfl) (Nat.le_of_ble_eq_true rfl) (Nat.le_of_ble_eq_true rfl) hc1 hz1 (ct_X12_over (N := N) k85 hy) (fun v' n'' K'' I'' F'' hp => ?_)
  obtain ⟨rfl, rfl, rfl, rfl, rfl⟩ := hp
  exact ok_icmp_eq (q := 1275) (q2 := 691) (x := v) (y := v) (t1 := some ()) (t2 := none) (r0 := ()) dL_law_688 rfl rfl (fun _ => kk _ _ _ _ _ _ hF) (fun g => by cases g) (if_pos rfl)
theorem lc_moves (hI : yIv n K F I c z k) (hs : ySc L xs K I) (hb : li_b L i) (hk : k ≤ 511) (hN : 2000000 < N) (kk : ∀ n K F I c z, yIv n K F I c z (k + 1) → Ok η l M_law (lq η L xs) 1275 [(0, qr 1), (1, qr 2), (2, qr 85), (3, qi i)] [] n K I F c z) : Ok η l M_law (lq η L xs) 693 [(0, qr 1), (1, qr 2), (2, qr 85), (3, qi i)] [] n K I F c z := by
  have hN1 : 100 < N := by omega
  have hk1 : k + 1 ≤ 512 := by omega
  have hk0 : k ≤ 512 := by omega
  obtain ⟨hb1, hb2, hb3, hb4⟩ := hb
  obtain ⟨R, C, A, lk, U, S, hS, h⟩ := hI.ex
  have k2 : (K 2).1 = 11 := by rw [cwK_2 h.a.c]
  have k85 : (K 85).1 = 12 := by rw [mwK_85 h.a.m]
  have hc0 := hI.rc hk0
  have hz0 := hI.rz
  have hc1 := hc0
  have hz1 := hz0
  obtain ⟨hx, hy⟩ := e_moves (N := N) h
  generalize hv : I 85 37 = v at hx hy
  have hF := yIv.nx (J := I) hI h (by clear h; omega) hI.st
  refine ok_aload_n (G := True) (q := 694) 1 dL_law_693 rfl rfl rfl ?_ trivial
  refine fun _ => ok_callV (q := 697) (as := []) (st := []) dL_law_694 rfl mo_L_93 k2 rfl (Nat.le_of_ble_eq_true rfl) rfl rfl (Nat.le_of_ble_eq_true rfl) (Nat.le_of_ble_eq_true rfl) (Nat.le_of_ble_eq_true rfl) hc0 hz0 (ct_X11_moves (N := N) k2 hx) (fun v' n'' K'' I'' F'' hp => ?_)
  obtain ⟨rfl, rfl, rfl, rfl, rfl⟩ := hp
  refine ok_scr (fun hs2 => ?_)
  refine ok_aload_n (G := True) (q := 698) 2 dL_law_697 rfl rfl rfl ?_ trivial
  refine fun _ => ok_callV (q := 701) (as := []) (st := [qi v]) dL_law_698 rfl mo_L_96 k85 rfl (Nat.le_of_ble_eq_true rfl) rfl rfl (Nat.le_of_ble_eq_true rfl) (Nat.le_of_ble_eq_true rfl) (Nat.le_of_ble_eq_true rfl) hc1 hz1 (ct_X12_moves (N := N) k85 hy) (fun v' n'' K'' I'' F'' hp => ?_)
  obtain ⟨rfl, rfl, rfl, rfl, rfl⟩ := hp
  exact ok_icmp_eq (q := 1275) (q2 := 704) (x := v) (y := v) (t1 := some ()) (t2 := none) (r0 := ()) dL_law_701 rfl rfl (fun _ => kk _ _ _ _ _ _ hF) (fun g => by cases g) (if_pos rfl)
theorem lc_allowed (hI : yIv n K F I c z k) (hs : ySc L xs K I) (hb : li_b L i) (hk : k ≤ 511) (hN : 2000000 < N) (kk : ∀ n K F I c z, yIv n K F I c z (k + 1) → Ok η l M_law (lq η L xs) 1275 [(0, qr 1), (1, qr 2), (2, qr 85), (3, qi i)] [] n K I F c z) : Ok η l M_law (lq η L xs) 706 [(0, qr 1), (1, qr 2), (2, qr 85), (3, qi i)] [] n K I F c z := by
  have hN1 : 100 < N := by omega
  have hk1 : k + 1 ≤ 512 := by omega
  have hk0 : k ≤ 512 := by omega
  obtain ⟨hb1, hb2, hb3, hb4⟩ := hb
  obtain ⟨R, C, A, lk, U, S, hS, h⟩ := hI.ex
  have k2 : (K 2).1 = 11 := by rw [cwK_2 h.a.c]
  have k85 : (K 85).1 = 12 := by rw [mwK_85 h.a.m]
  have hc0 := hI.rc hk0
  have hz0 := hI.rz
  have hc1 := hc0
  have hz1 := hz0
  obtain ⟨v, J, J', hx, hy, h2, hst⟩ := e_allowed (N := N)  h hN hI.st
  have hF := yIv.nx hI h2 (by clear h h2; omega) hst
  refine ok_aload_n (G := True) (q := 707) 1 dL_law_706 rfl rfl rfl ?_ trivial
  refine fun _ => ok_callV (q := 710) (as := []) (st := []) dL_law_707 rfl mo_L_97 k2 rfl (Nat.le_of_ble_eq_true rfl) rfl rfl (Nat.le_of_ble_eq_true rfl) (Nat.le_of_ble_eq_true rfl) (Nat.le_of_ble_eq_true rfl) hc0 hz0 (ct_X11_allowed (N := N) k2 hx) (fun v' n'' K'' I'' F'' hp => ?_)
  obtain ⟨rfl, rfl, rfl, rfl, rfl⟩ := hp
  refine ok_scr (fun hs2 => ?_)
  refine ok_aload_n (G := True) (q := 711) 2 dL_law_710 rfl rfl rfl ?_ trivial
  refine fun _ => ok_callV (q := 714) (as := []) (st := [qi v]) dL_law_711 rfl mo_L_100 k85 rfl (Nat.le_of_ble_eq_true rfl) rfl rfl (Nat.le_of_ble_eq_true rfl) (Nat.le_of_ble_eq_true rfl) (Nat.le_of_ble_eq_true rfl) hc1 hz1 (ct_X12_allowed (N := N) k85 hy) (fun v' n'' K'' I'' F'' hp => ?_)
  obtain ⟨rfl, rfl, rfl, rfl, rfl⟩ := hp
  exact ok_icmp_eq (q := 1275) (q2 := 717) (x := v) (y := v) (t1 := some ()) (t2 := none) (r0 := ()) dL_law_714 rfl rfl (fun _ => kk _ _ _ _ _ _ hF) (fun g => by cases g) (if_pos rfl)
theorem lc_positions (hI : yIv n K F I c z k) (hs : ySc L xs K I) (hb : li_b L i) (hk : k ≤ 511) (hN : 2000000 < N) (kk : ∀ n K F I c z, yIv n K F I c z (k + 1) → Ok η l M_law (lq η L xs) 1275 [(0, qr 1), (1, qr 2), (2, qr 85), (3, qi i)] [] n K I F c z) : Ok η l M_law (lq η L xs) 719 [(0, qr 1), (1, qr 2), (2, qr 85), (3, qi i)] [] n K I F c z := by
  have hN1 : 100 < N := by omega
  have hk1 : k + 1 ≤ 512 := by omega
  have hk0 : k ≤ 512 := by omega
  obtain ⟨hb1, hb2, hb3, hb4⟩ := hb
  obtain ⟨R, C, A, lk, U, S, hS, h⟩ := hI.ex
  have k2 : (K 2).1 = 11 := by rw [cwK_2 h.a.c]
  have k85 : (K 85).1 = 12 := by rw [mwK_85 h.a.m]
  have hc0 := hI.rc hk0
  have hz0 := hI.rz
  have hc1 := hc0
  have hz1 := hz0
  obtain ⟨v, J, J', hx, hy, h2, hst⟩ := e_positions (N := N) (x := (ls_y xs (i + 1))) h hN1
  have hF := yIv.nx hI h2 (by clear h h2; omega) hst
  refine ok_aload_n (G := True) (q := 720) 1 dL_law_719 rfl rfl rfl ?_ trivial
  refine ok_aload_n (q := 721) 0 dL_law_720 rfl rfl rfl ?_
  refine ok_iload_n (q := 722) 3 dL_law_721 rfl rfl rfl ?_
  refine ok_iconst (q := 723) (x := 1) dL_law_722 rfl rfl (by decide) ?_
  refine ok_iadd (q := 724) dL_law_723 rfl hb1.1 ?_
  refine ok_iaload (q := 725) (v := ls_y xs (i + 1)) dL_law_724 rfl hs.1 hb1.2.1 (hs.lt hb1.2.2) (hs.2.2 _ hb1.2.1 hb1.2.2) ?_
  refine fun _ => ok_callV (q := 728) (as := [qi (ls_y xs (i + 1))]) (st := []) dL_law_725 rfl mo_L_101 k2 rfl (Nat.le_of_ble_eq_true rfl) rfl rfl (Nat.le_of_ble_eq_true rfl) (Nat.le_of_ble_eq_true rfl) (Nat.le_of_ble_eq_true rfl) hc0 hz0 (ct_X11_positions (N := N) k2 hx) (fun v' n'' K'' I'' F'' hp => ?_)
  obtain ⟨rfl, rfl, rfl, rfl, rfl⟩ := hp
  refine ok_scr (fun hs2 => ?_)
  refine ok_aload_n (G := True) (q := 729) 2 dL_law_728 rfl rfl rfl ?_ trivial
  refine ok_aload_n (q := 730) 0 dL_law_729 rfl rfl rfl ?_
  refine ok_iload_n (q := 731) 3 dL_law_730 rfl rfl rfl ?_
  refine ok_iconst (q := 732) (x := 1) dL_law_731 rfl rfl (by decide) ?_
  refine ok_iadd (q := 733) dL_law_732 rfl hb1.1 ?_
  refine ok_iaload (q := 734) (v := ls_y xs (i + 1)) dL_law_733 rfl hs2.1 hb1.2.1 (hs2.lt hb1.2.2) (hs2.2.2 _ hb1.2.1 hb1.2.2) ?_
  refine fun _ => ok_callV (q := 737) (as := [qi (ls_y xs (i + 1))]) (st := [ql v]) dL_law_734 rfl mo_L_105 k85 rfl (Nat.le_of_ble_eq_true rfl) rfl rfl (Nat.le_of_ble_eq_true rfl) (Nat.le_of_ble_eq_true rfl) (Nat.le_of_ble_eq_true rfl) hc1 hz1 (ct_X12_positions (N := N) k85 hy) (fun v' n'' K'' I'' F'' hp => ?_)
  obtain ⟨rfl, rfl, rfl, rfl, rfl⟩ := hp
  refine ok_lcmp (G := True) (q := 738) dL_law_737 rfl ?_ trivial
  exact fun _ => ok_if_eq (q := 1275) (q2 := 741) (x := am_cmp v v) (t1 := some ()) (t2 := none) (r0 := ()) dL_law_738 rfl rfl (fun _ => kk _ _ _ _ _ _ hF) (fun g => by cases g) (if_pos (am_cmp_v v))
theorem lc_place (hI : yIv n K F I c z k) (hs : ySc L xs K I) (hb : li_b L i) (hk : k ≤ 511) (hN : 2000000 < N) (kk : ∀ n K F I c z, yIv n K F I c z (k + 1) → Ok η l M_law (lq η L xs) 1275 [(0, qr 1), (1, qr 2), (2, qr 85), (3, qi i)] [] n K I F c z) : Ok η l M_law (lq η L xs) 743 [(0, qr 1), (1, qr 2), (2, qr 85), (3, qi i)] [] n K I F c z := by
  have hN1 : 100 < N := by omega
  have hk1 : k + 1 ≤ 512 := by omega
  have hk0 : k ≤ 512 := by omega
  obtain ⟨hb1, hb2, hb3, hb4⟩ := hb
  obtain ⟨R, C, A, lk, U, S, hS, h⟩ := hI.ex
  have k2 : (K 2).1 = 11 := by rw [cwK_2 h.a.c]
  have k85 : (K 85).1 = 12 := by rw [mwK_85 h.a.m]
  have hc0 := hI.rc hk0
  have hz0 := hI.rz
  have hc1 := hc0
  have hz1 := hz0
  obtain ⟨v, J, J', hx, hy, h2, hst⟩ := e_place (N := N)  h hN1
  have hF := yIv.nx hI h2 (by clear h h2; omega) hst
  refine ok_aload_n (G := True) (q := 744) 1 dL_law_743 rfl rfl rfl ?_ trivial
  refine fun _ => ok_callV (q := 747) (as := []) (st := []) dL_law_744 rfl mo_L_106 k2 rfl (Nat.le_of_ble_eq_true rfl) rfl rfl (Nat.le_of_ble_eq_true rfl) (Nat.le_of_ble_eq_true rfl) (Nat.le_of_ble_eq_true rfl) hc0 hz0 (ct_X11_place (N := N) k2 hx) (fun v' n'' K'' I'' F'' hp => ?_)
  obtain ⟨rfl, rfl, rfl, rfl, rfl⟩ := hp
  refine ok_scr (fun hs2 => ?_)
  refine ok_aload_n (G := True) (q := 748) 2 dL_law_747 rfl rfl rfl ?_ trivial
  refine fun _ => ok_callV (q := 751) (as := []) (st := [ql v]) dL_law_748 rfl mo_L_110 k85 rfl (Nat.le_of_ble_eq_true rfl) rfl rfl (Nat.le_of_ble_eq_true rfl) (Nat.le_of_ble_eq_true rfl) (Nat.le_of_ble_eq_true rfl) hc1 hz1 (ct_X12_place (N := N) k85 hy) (fun v' n'' K'' I'' F'' hp => ?_)
  obtain ⟨rfl, rfl, rfl, rfl, rfl⟩ := hp
  refine ok_lcmp (G := True) (q := 752) dL_law_751 rfl ?_ trivial
  exact fun _ => ok_if_eq (q := 1275) (q2 := 755) (x := am_cmp v v) (t1 := some ()) (t2 := none) (r0 := ()) dL_law_752 rfl rfl (fun _ => kk _ _ _ _ _ _ hF) (fun g => by cases g) (if_pos (am_cmp_v v))
theorem lc_ofPlace (hI : yIv n K F I c z k) (hs : ySc L xs K I) (hb : li_b L i) (hk : k ≤ 511) (hN : 2000000 < N) (kk : ∀ n K F I c z, yIv n K F I c z (k + 1) → Ok η l M_law (lq η L xs) 1275 [(0, qr 1), (1, qr 2), (2, qr 85), (3, qi i)] [] n K I F c z) : Ok η l M_law (lq η L xs) 757 [(0, qr 1), (1, qr 2), (2, qr 85), (3, qi i)] [] n K I F c z := by
  have hN1 : 100 < N := by omega
  have hk1 : k + 1 ≤ 512 := by omega
  have hk0 : k ≤ 512 := by omega
  obtain ⟨hb1, hb2, hb3, hb4⟩ := hb
  obtain ⟨R, C, A, lk, U, S, hS, h⟩ := hI.ex
  have k2 : (K 2).1 = 11 := by rw [cwK_2 h.a.c]
  have k85 : (K 85).1 = 12 := by rw [mwK_85 h.a.m]
  have hc0 := hI.rc hk0
  have hz0 := hI.rz
  have hc1 := hc0
  have hz1 := hz0
  obtain ⟨v, J, J', hx, hy, h2, hst⟩ := e_ofPlace (N := N) (x := (am_lor (am_lshl (ls_y xs (i + 1)) 32) (am_land (ls_y xs (i + 2)) 4294967295))) (y := (ls_y xs (i + 3))) h hN1 (am_rgL _)
  have hF := yIv.nx hI h2 (by clear h h2; omega) hst
  refine ok_aload_n (G := True) (q := 758) 1 dL_law_757 rfl rfl rfl ?_ trivial
  refine ok_aload_n (q := 759) 0 dL_law_758 rfl rfl rfl ?_
  refine ok_iload_n (q := 760) 3 dL_law_759 rfl rfl rfl ?_
  refine ok_iconst (q := 761) (x := 1) dL_law_760 rfl rfl (by decide) ?_
  refine ok_iadd (q := 762) dL_law_761 rfl hb1.1 ?_
  refine ok_iaload (q := 763) (v := ls_y xs (i + 1)) dL_law_762 rfl hs.1 hb1.2.1 (hs.lt hb1.2.2) (hs.2.2 _ hb1.2.1 hb1.2.2) ?_
  refine ok_i2l (q := 764) dL_law_763 rfl ?_
  refine ok_bipush (q := 766) (x := 32) dL_law_764 rfl rfl (by decide) ?_
  refine ok_lshl (q := 767) (r := am_lshl (ls_y xs (i + 1)) 32) dL_law_766 rfl rfl ?_
  refine ok_aload_n (q := 768) 0 dL_law_767 rfl rfl rfl ?_
  refine ok_iload_n (q := 769) 3 dL_law_768 rfl rfl rfl ?_
  refine ok_iconst (q := 770) (x := 2) dL_law_769 rfl rfl (by decide) ?_
  refine ok_iadd (q := 771) dL_law_770 rfl hb2.1 ?_
  refine ok_iaload (q := 772) (v := ls_y xs (i + 2)) dL_law_771 rfl hs.1 hb2.2.1 (hs.lt hb2.2.2) (hs.2.2 _ hb2.2.1 hb2.2.2) ?_
  refine ok_i2l (q := 773) dL_law_772 rfl ?_
  refine ok_ldc2 (q := 776) (x := 4294967295) (v := 4294967295) dL_law_773 rfl kc_L_111 rfl (by decide) ?_
  refine ok_land (q := 777) (r := am_land (ls_y xs (i + 2)) 4294967295) dL_law_776 rfl rfl ?_
  refine ok_lor (q := 778) (r := am_lor (am_lshl (ls_y xs (i + 1)) 32) (am_land (ls_y xs (i + 2)) 4294967295)) dL_law_777 rfl rfl ?_
  refine ok_aload_n (q := 779) 0 dL_law_778 rfl rfl rfl ?_
  refine ok_iload_n (q := 780) 3 dL_law_779 rfl rfl rfl ?_
  refine ok_iconst (q := 781) (x := 3) dL_law_780 rfl rfl (by decide) ?_
  refine ok_iadd (q := 782) dL_law_781 rfl hb3.1 ?_
  refine ok_iaload (q := 783) (v := ls_y xs (i + 3)) dL_law_782 rfl hs.1 hb3.2.1 (hs.lt hb3.2.2) (hs.2.2 _ hb3.2.1 hb3.2.2) ?_
  refine fun _ => ok_callV (q := 786) (as := [ql (am_lor (am_lshl (ls_y xs (i + 1)) 32) (am_land (ls_y xs (i + 2)) 4294967295)), qi (ls_y xs (i + 3))]) (st := []) dL_law_783 rfl mo_L_113 k2 rfl (Nat.le_of_ble_eq_true rfl) rfl rfl (Nat.le_of_ble_eq_true rfl) (Nat.le_of_ble_eq_true rfl) (Nat.le_of_ble_eq_true rfl) hc0 hz0 (ct_X11_ofPlace (N := N) k2 hx) (fun v' n'' K'' I'' F'' hp => ?_)
  obtain ⟨rfl, rfl, rfl, rfl, rfl⟩ := hp
  refine ok_scr (fun hs2 => ?_)
  refine ok_aload_n (G := True) (q := 787) 2 dL_law_786 rfl rfl rfl ?_ trivial
  refine ok_aload_n (q := 788) 0 dL_law_787 rfl rfl rfl ?_
  refine ok_iload_n (q := 789) 3 dL_law_788 rfl rfl rfl ?_
  refine ok_iconst (q := 790) (x := 1) dL_law_789 rfl rfl (by decide) ?_
  refine ok_iadd (q := 791) dL_law_790 rfl hb1.1 ?_
  refine ok_iaload (q := 792) (v := ls_y xs (i + 1)) dL_law_791 rfl hs2.1 hb1.2.1 (hs2.lt hb1.2.2) (hs2.2.2 _ hb1.2.1 hb1.2.2) ?_
  refine ok_i2l (q := 793) dL_law_792 rfl ?_
  refine ok_bipush (q := 795) (x := 32) dL_law_793 rfl rfl (by decide) ?_
  refine ok_lshl (q := 796) (r := am_lshl (ls_y xs (i + 1)) 32) dL_law_795 rfl rfl ?_
  refine ok_aload_n (q := 797) 0 dL_law_796 rfl rfl rfl ?_
  refine ok_iload_n (q := 798) 3 dL_law_797 rfl rfl rfl ?_
  refine ok_iconst (q := 799) (x := 2) dL_law_798 rfl rfl (by decide) ?_
  refine ok_iadd (q := 800) dL_law_799 rfl hb2.1 ?_
  refine ok_iaload (q := 801) (v := ls_y xs (i + 2)) dL_law_800 rfl hs2.1 hb2.2.1 (hs2.lt hb2.2.2) (hs2.2.2 _ hb2.2.1 hb2.2.2) ?_
  refine ok_i2l (q := 802) dL_law_801 rfl ?_
  refine ok_ldc2 (q := 805) (x := 4294967295) (v := 4294967295) dL_law_802 rfl kc_L_111 rfl (by decide) ?_
  refine ok_land (q := 806) (r := am_land (ls_y xs (i + 2)) 4294967295) dL_law_805 rfl rfl ?_
  refine ok_lor (q := 807) (r := am_lor (am_lshl (ls_y xs (i + 1)) 32) (am_land (ls_y xs (i + 2)) 4294967295)) dL_law_806 rfl rfl ?_
  refine ok_aload_n (q := 808) 0 dL_law_807 rfl rfl rfl ?_
  refine ok_iload_n (q := 809) 3 dL_law_808 rfl rfl rfl ?_
  refine ok_iconst (q := 810) (x := 3) dL_law_809 rfl rfl (by decide) ?_
  refine ok_iadd (q := 811) dL_law_810 rfl hb3.1 ?_
  refine ok_iaload (q := 812) (v := ls_y xs (i + 3)) dL_law_811 rfl hs2.1 hb3.2.1 (hs2.lt hb3.2.2) (hs2.2.2 _ hb3.2.1 hb3.2.2) ?_
  refine fun _ => ok_callV (q := 815) (as := [ql (am_lor (am_lshl (ls_y xs (i + 1)) 32) (am_land (ls_y xs (i + 2)) 4294967295)), qi (ls_y xs (i + 3))]) (st := [qi v]) dL_law_812 rfl mo_L_117 k85 rfl (Nat.le_of_ble_eq_true rfl) rfl rfl (Nat.le_of_ble_eq_true rfl) (Nat.le_of_ble_eq_true rfl) (Nat.le_of_ble_eq_true rfl) hc1 hz1 (ct_X12_ofPlace (N := N) k85 hy) (fun v' n'' K'' I'' F'' hp => ?_)
  obtain ⟨rfl, rfl, rfl, rfl, rfl⟩ := hp
  exact ok_icmp_eq (q := 1275) (q2 := 818) (x := v) (y := v) (t1 := some ()) (t2 := none) (r0 := ()) dL_law_815 rfl rfl (fun _ => kk _ _ _ _ _ _ hF) (fun g => by cases g) (if_pos rfl)
theorem lc_solve (hI : yIv n K F I c z k) (hs : ySc L xs K I) (hb : li_b L i) (hk : k ≤ 511) (hN : 2000000 < N) (kk : ∀ n K F I c z, yIv n K F I c z (k + 1) → Ok η l M_law (lq η L xs) 1275 [(0, qr 1), (1, qr 2), (2, qr 85), (3, qi i)] [] n K I F c z) : Ok η l M_law (lq η L xs) 820 [(0, qr 1), (1, qr 2), (2, qr 85), (3, qi i)] [] n K I F c z := by
  have hN1 : 100 < N := by omega
  have hk1 : k + 1 ≤ 512 := by omega
  have hk0 : k ≤ 512 := by omega
  obtain ⟨hb1, hb2, hb3, hb4⟩ := hb
  obtain ⟨R, C, A, lk, U, S, hS, h⟩ := hI.ex
  have k2 : (K 2).1 = 11 := by rw [cwK_2 h.a.c]
  obtain ⟨v, n', K', J, F', c', z', J', hx, hy, ⟨h2, hr⟩, hst⟩ := e_solve (N := N) (x := (ls_y xs (i + 1))) h hN
  have hF := yIv.nxA hI h2 (by clear h h2; omega) hst hr
  have k85 : (K' 85).1 = 12 := by rw [mwK_85 h2.a.m]
  have hc0 : c + c' ≤ M_law.2.2.2.2.1.cells := hF.rc hk1
  have hz0 : z + z' ≤ M_law.2.2.2.2.1.slots := hF.rz
  have hc1 : c + c' + 0 ≤ M_law.2.2.2.2.1.cells := hF.rc hk1
  have hz1 : z + z' + 0 ≤ M_law.2.2.2.2.1.slots := hF.rz
  refine ok_aload_n (G := True) (q := 821) 1 dL_law_820 rfl rfl rfl ?_ trivial
  refine ok_aload_n (q := 822) 0 dL_law_821 rfl rfl rfl ?_
  refine ok_iload_n (q := 823) 3 dL_law_822 rfl rfl rfl ?_
  refine ok_iconst (q := 824) (x := 1) dL_law_823 rfl rfl (by decide) ?_
  refine ok_iadd (q := 825) dL_law_824 rfl hb1.1 ?_
  refine ok_iaload (q := 826) (v := ls_y xs (i + 1)) dL_law_825 rfl hs.1 hb1.2.1 (hs.lt hb1.2.2) (hs.2.2 _ hb1.2.1 hb1.2.2) ?_
  refine fun _ => ?_
  have hct1 := ct_X11_solve (η := η) (l := l) (N := N) k2 hx
  refine ok_callV (mc := c') (ms := z') (q := 829) (as := [qi (ls_y xs (i + 1))]) (st := []) dL_law_826 rfl mo_L_118 k2 rfl (Nat.le_of_ble_eq_true rfl) rfl rfl (Nat.le_of_ble_eq_true rfl) (Nat.le_of_ble_eq_true rfl) (Nat.le_of_ble_eq_true rfl) hc0 hz0 hct1 (fun v' n'' K'' I'' F'' hp => ?_)
  obtain ⟨rfl, rfl, rfl, rfl, rfl⟩ := hp
  refine ok_scr (fun hs2 => ?_)
  refine ok_aload_n (G := True) (q := 830) 2 dL_law_829 rfl rfl rfl ?_ trivial
  refine ok_aload_n (q := 831) 0 dL_law_830 rfl rfl rfl ?_
  refine ok_iload_n (q := 832) 3 dL_law_831 rfl rfl rfl ?_
  refine ok_iconst (q := 833) (x := 1) dL_law_832 rfl rfl (by decide) ?_
  refine ok_iadd (q := 834) dL_law_833 rfl hb1.1 ?_
  refine ok_iaload (q := 835) (v := ls_y xs (i + 1)) dL_law_834 rfl hs2.1 hb1.2.1 (hs2.lt hb1.2.2) (hs2.2.2 _ hb1.2.1 hb1.2.2) ?_
  refine fun _ => ok_callV (mc := 0) (ms := 0) (q := 838) (as := [qi (ls_y xs (i + 1))]) (st := [qi v]) dL_law_835 rfl mo_L_121 k85 rfl (Nat.le_of_ble_eq_true rfl) rfl rfl (Nat.le_of_ble_eq_true rfl) (Nat.le_of_ble_eq_true rfl) (Nat.le_of_ble_eq_true rfl) hc1 hz1 (ct_X12_solve (N := N) k85 hy) (fun v' n'' K'' I'' F'' hp => ?_)
  obtain ⟨rfl, rfl, rfl, rfl, rfl⟩ := hp
  exact ok_icmp_eq (q := 1275) (q2 := 841) (x := v) (y := v) (t1 := some ()) (t2 := none) (r0 := ()) dL_law_838 rfl rfl (fun _ => kk _ _ _ _ _ _ hF) (fun g => by cases g) (if_pos rfl)
theorem lc_goOn (hI : yIv n K F I c z k) (hs : ySc L xs K I) (hb : li_b L i) (hk : k ≤ 511) (hN : 2000000 < N) (kk : ∀ n K F I c z, yIv n K F I c z (k + 1) → Ok η l M_law (lq η L xs) 1275 [(0, qr 1), (1, qr 2), (2, qr 85), (3, qi i)] [] n K I F c z) : Ok η l M_law (lq η L xs) 843 [(0, qr 1), (1, qr 2), (2, qr 85), (3, qi i)] [] n K I F c z := by
  have hN1 : 100 < N := by omega
  have hk1 : k + 1 ≤ 512 := by omega
  have hk0 : k ≤ 512 := by omega
  obtain ⟨hb1, hb2, hb3, hb4⟩ := hb
  obtain ⟨R, C, A, lk, U, S, hS, h⟩ := hI.ex
  have k2 : (K 2).1 = 11 := by rw [cwK_2 h.a.c]
  obtain ⟨v, n', K', J, F', c', z', J', F'', hx, hy, ⟨h2, hr⟩, hst⟩ := e_goOn (N := N) (x := (ls_y xs (i + 1))) h hN
  have hF := yIv.nxA hI h2 (by clear h h2; omega) hst hr
  have k85 : (K' 85).1 = 12 := by rw [mwK_85 h2.a.m]
  have hc0 : c + c' ≤ M_law.2.2.2.2.1.cells := hF.rc hk1
  have hz0 : z + z' ≤ M_law.2.2.2.2.1.slots := hF.rz
  have hc1 : c + c' + 0 ≤ M_law.2.2.2.2.1.cells := hF.rc hk1
  have hz1 : z + z' + 0 ≤ M_law.2.2.2.2.1.slots := hF.rz
  refine ok_aload_n (G := True) (q := 844) 1 dL_law_843 rfl rfl rfl ?_ trivial
  refine ok_aload_n (q := 845) 0 dL_law_844 rfl rfl rfl ?_
  refine ok_iload_n (q := 846) 3 dL_law_845 rfl rfl rfl ?_
  refine ok_iconst (q := 847) (x := 1) dL_law_846 rfl rfl (by decide) ?_
  refine ok_iadd (q := 848) dL_law_847 rfl hb1.1 ?_
  refine ok_iaload (q := 849) (v := ls_y xs (i + 1)) dL_law_848 rfl hs.1 hb1.2.1 (hs.lt hb1.2.2) (hs.2.2 _ hb1.2.1 hb1.2.2) ?_
  refine fun _ => ?_
  have hct1 := ct_X11_goOn (η := η) (l := l) (N := N) k2 hx
  refine ok_callV (mc := c') (ms := z') (q := 852) (as := [qi (ls_y xs (i + 1))]) (st := []) dL_law_849 rfl mo_L_122 k2 rfl (Nat.le_of_ble_eq_true rfl) rfl rfl (Nat.le_of_ble_eq_true rfl) (Nat.le_of_ble_eq_true rfl) (Nat.le_of_ble_eq_true rfl) hc0 hz0 hct1 (fun v' n'' K'' I'' F'' hp => ?_)
  obtain ⟨rfl, rfl, rfl, rfl, rfl⟩ := hp
  refine ok_scr (fun hs2 => ?_)
  refine ok_aload_n (G := True) (q := 853) 2 dL_law_852 rfl rfl rfl ?_ trivial
  refine ok_aload_n (q := 854) 0 dL_law_853 rfl rfl rfl ?_
  refine ok_iload_n (q := 855) 3 dL_law_854 rfl rfl rfl ?_
  refine ok_iconst (q := 856) (x := 1) dL_law_855 rfl rfl (by decide) ?_
  refine ok_iadd (q := 857) dL_law_856 rfl hb1.1 ?_
  refine ok_iaload (q := 858) (v := ls_y xs (i + 1)) dL_law_857 rfl hs2.1 hb1.2.1 (hs2.lt hb1.2.2) (hs2.2.2 _ hb1.2.1 hb1.2.2) ?_
  refine fun _ => ?_
  have hct2 := ct_X12_goOn (η := η) (l := l) (N := N) k85 hy
  refine ok_callV (mc := 0) (ms := 0) (q := 861) (as := [qi (ls_y xs (i + 1))]) (st := [qi v]) dL_law_858 rfl mo_L_125 k85 rfl (Nat.le_of_ble_eq_true rfl) rfl rfl (Nat.le_of_ble_eq_true rfl) (Nat.le_of_ble_eq_true rfl) (Nat.le_of_ble_eq_true rfl) hc1 hz1 hct2 (fun v' n'' K'' I'' F'' hp => ?_)
  obtain ⟨rfl, rfl, rfl, rfl, rfl⟩ := hp
  exact ok_icmp_eq (q := 1275) (q2 := 864) (x := v) (y := v) (t1 := some ()) (t2 := none) (r0 := ()) dL_law_861 rfl rfl (fun _ => kk _ _ _ _ _ _ hF) (fun g => by cases g) (if_pos rfl)
theorem lc_value (hI : yIv n K F I c z k) (hs : ySc L xs K I) (hb : li_b L i) (hk : k ≤ 511) (hN : 2000000 < N) (kk : ∀ n K F I c z, yIv n K F I c z (k + 1) → Ok η l M_law (lq η L xs) 1275 [(0, qr 1), (1, qr 2), (2, qr 85), (3, qi i)] [] n K I F c z) : Ok η l M_law (lq η L xs) 866 [(0, qr 1), (1, qr 2), (2, qr 85), (3, qi i)] [] n K I F c z := by
  have hN1 : 100 < N := by omega
  have hk1 : k + 1 ≤ 512 := by omega
  have hk0 : k ≤ 512 := by omega
  obtain ⟨hb1, hb2, hb3, hb4⟩ := hb
  obtain ⟨R, C, A, lk, U, S, hS, h⟩ := hI.ex
  have k2 : (K 2).1 = 11 := by rw [cwK_2 h.a.c]
  have k85 : (K 85).1 = 12 := by rw [mwK_85 h.a.m]
  have hc0 := hI.rc hk0
  have hz0 := hI.rz
  have hc1 := hc0
  have hz1 := hz0
  obtain ⟨v, J, J', hx, hy, h2, hst⟩ := e_value (N := N) (x := (ls_y xs (i + 1))) h hN1
  have hF := yIv.nx hI h2 (by clear h h2; omega) hst
  refine ok_aload_n (G := True) (q := 867) 1 dL_law_866 rfl rfl rfl ?_ trivial
  refine ok_aload_n (q := 868) 0 dL_law_867 rfl rfl rfl ?_
  refine ok_iload_n (q := 869) 3 dL_law_868 rfl rfl rfl ?_
  refine ok_iconst (q := 870) (x := 1) dL_law_869 rfl rfl (by decide) ?_
  refine ok_iadd (q := 871) dL_law_870 rfl hb1.1 ?_
  refine ok_iaload (q := 872) (v := ls_y xs (i + 1)) dL_law_871 rfl hs.1 hb1.2.1 (hs.lt hb1.2.2) (hs.2.2 _ hb1.2.1 hb1.2.2) ?_
  refine fun _ => ok_callV (q := 875) (as := [qi (ls_y xs (i + 1))]) (st := []) dL_law_872 rfl mo_L_126 k2 rfl (Nat.le_of_ble_eq_true rfl) rfl rfl (Nat.le_of_ble_eq_true rfl) (Nat.le_of_ble_eq_true rfl) (Nat.le_of_ble_eq_true rfl) hc0 hz0 (ct_X11_value (N := N) k2 hx) (fun v' n'' K'' I'' F'' hp => ?_)
  obtain ⟨rfl, rfl, rfl, rfl, rfl⟩ := hp
  refine ok_scr (fun hs2 => ?_)
  refine ok_aload_n (G := True) (q := 876) 2 dL_law_875 rfl rfl rfl ?_ trivial
  refine ok_aload_n (q := 877) 0 dL_law_876 rfl rfl rfl ?_
  refine ok_iload_n (q := 878) 3 dL_law_877 rfl rfl rfl ?_
  refine ok_iconst (q := 879) (x := 1) dL_law_878 rfl rfl (by decide) ?_
  refine ok_iadd (q := 880) dL_law_879 rfl hb1.1 ?_
  refine ok_iaload (q := 881) (v := ls_y xs (i + 1)) dL_law_880 rfl hs2.1 hb1.2.1 (hs2.lt hb1.2.2) (hs2.2.2 _ hb1.2.1 hb1.2.2) ?_
  refine fun _ => ok_callV (q := 884) (as := [qi (ls_y xs (i + 1))]) (st := [qi v]) dL_law_881 rfl mo_L_129 k85 rfl (Nat.le_of_ble_eq_true rfl) rfl rfl (Nat.le_of_ble_eq_true rfl) (Nat.le_of_ble_eq_true rfl) (Nat.le_of_ble_eq_true rfl) hc1 hz1 (ct_X12_value (N := N) k85 hy) (fun v' n'' K'' I'' F'' hp => ?_)
  obtain ⟨rfl, rfl, rfl, rfl, rfl⟩ := hp
  exact ok_icmp_eq (q := 1275) (q2 := 887) (x := v) (y := v) (t1 := some ()) (t2 := none) (r0 := ()) dL_law_884 rfl rfl (fun _ => kk _ _ _ _ _ _ hF) (fun g => by cases g) (if_pos rfl)
theorem lc_rank (hI : yIv n K F I c z k) (hs : ySc L xs K I) (hb : li_b L i) (hk : k ≤ 511) (hN : 2000000 < N) (kk : ∀ n K F I c z, yIv n K F I c z (k + 1) → Ok η l M_law (lq η L xs) 1275 [(0, qr 1), (1, qr 2), (2, qr 85), (3, qi i)] [] n K I F c z) : Ok η l M_law (lq η L xs) 889 [(0, qr 1), (1, qr 2), (2, qr 85), (3, qi i)] [] n K I F c z := by
  have hN1 : 100 < N := by omega
  have hk1 : k + 1 ≤ 512 := by omega
  have hk0 : k ≤ 512 := by omega
  obtain ⟨hb1, hb2, hb3, hb4⟩ := hb
  obtain ⟨R, C, A, lk, U, S, hS, h⟩ := hI.ex
  have k2 : (K 2).1 = 11 := by rw [cwK_2 h.a.c]
  have k85 : (K 85).1 = 12 := by rw [mwK_85 h.a.m]
  have hc0 := hI.rc hk0
  have hz0 := hI.rz
  have hc1 := hc0
  have hz1 := hz0
  obtain ⟨v, J, J', hx, hy, h2, hst⟩ := e_rank (N := N) (x := (ls_y xs (i + 1))) h hN1
  have hF := yIv.nx hI h2 (by clear h h2; omega) hst
  refine ok_aload_n (G := True) (q := 890) 1 dL_law_889 rfl rfl rfl ?_ trivial
  refine ok_aload_n (q := 891) 0 dL_law_890 rfl rfl rfl ?_
  refine ok_iload_n (q := 892) 3 dL_law_891 rfl rfl rfl ?_
  refine ok_iconst (q := 893) (x := 1) dL_law_892 rfl rfl (by decide) ?_
  refine ok_iadd (q := 894) dL_law_893 rfl hb1.1 ?_
  refine ok_iaload (q := 895) (v := ls_y xs (i + 1)) dL_law_894 rfl hs.1 hb1.2.1 (hs.lt hb1.2.2) (hs.2.2 _ hb1.2.1 hb1.2.2) ?_
  refine fun _ => ok_callV (q := 898) (as := [qi (ls_y xs (i + 1))]) (st := []) dL_law_895 rfl mo_L_130 k2 rfl (Nat.le_of_ble_eq_true rfl) rfl rfl (Nat.le_of_ble_eq_true rfl) (Nat.le_of_ble_eq_true rfl) (Nat.le_of_ble_eq_true rfl) hc0 hz0 (ct_X11_rank (N := N) k2 hx) (fun v' n'' K'' I'' F'' hp => ?_)
  obtain ⟨rfl, rfl, rfl, rfl, rfl⟩ := hp
  refine ok_scr (fun hs2 => ?_)
  refine ok_aload_n (G := True) (q := 899) 2 dL_law_898 rfl rfl rfl ?_ trivial
  refine ok_aload_n (q := 900) 0 dL_law_899 rfl rfl rfl ?_
  refine ok_iload_n (q := 901) 3 dL_law_900 rfl rfl rfl ?_
  refine ok_iconst (q := 902) (x := 1) dL_law_901 rfl rfl (by decide) ?_
  refine ok_iadd (q := 903) dL_law_902 rfl hb1.1 ?_
  refine ok_iaload (q := 904) (v := ls_y xs (i + 1)) dL_law_903 rfl hs2.1 hb1.2.1 (hs2.lt hb1.2.2) (hs2.2.2 _ hb1.2.1 hb1.2.2) ?_
  refine fun _ => ok_callV (q := 907) (as := [qi (ls_y xs (i + 1))]) (st := [qi v]) dL_law_904 rfl mo_L_133 k85 rfl (Nat.le_of_ble_eq_true rfl) rfl rfl (Nat.le_of_ble_eq_true rfl) (Nat.le_of_ble_eq_true rfl) (Nat.le_of_ble_eq_true rfl) hc1 hz1 (ct_X12_rank (N := N) k85 hy) (fun v' n'' K'' I'' F'' hp => ?_)
  obtain ⟨rfl, rfl, rfl, rfl, rfl⟩ := hp
  exact ok_icmp_eq (q := 1275) (q2 := 910) (x := v) (y := v) (t1 := some ()) (t2 := none) (r0 := ()) dL_law_907 rfl rfl (fun _ => kk _ _ _ _ _ _ hF) (fun g => by cases g) (if_pos rfl)
end LAWC
