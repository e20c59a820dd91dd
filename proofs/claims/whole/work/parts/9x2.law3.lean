-- THE LAW's CASES (made by gen_law.py)
section LAWC
variable {η : am_E} {l : Launch} {L : Nat} {xs : Nat → Int32} {N n k : Nat} {K : am_K} {I : am_I} {F : am_F} {c z : Nat} {i : Int}
theorem lc_best (hI : yIv n K F I c z k) (hs : ySc L xs K I) (hb : li_b L i) (hk : k ≤ 511) (hN : 2000000 < N) (kk : ∀ n K F I c z, yIv n K F I c z (k + 1) → Ok η l M_law (lq η L xs) 1275 [(0, qr 1), (1, qr 2), (2, qr 85), (3, qi i)] [] n K I F c z) : Ok η l M_law (lq η L xs) 912 [(0, qr 1), (1, qr 2), (2, qr 85), (3, qi i)] [] n K I F c z := by
  have hN1 : 100 < N := by omega
  have hk1 : k + 1 ≤ 512 := by omega
  have hk0 : k ≤ 512 := by omega
  obtain ⟨hb1, hb2, hb3, hb4⟩ := hb
  obtain ⟨R, C, A, lk, U, S, hS, h⟩ := hI.ex
  have k2 : (K 2).1 = 11 := by rw [cwK_2 h.a.c]
  have k85 : (K 85).1 = 12 := by rw [mwK_85 h.a.m]
  have hc0 := hI.rc hk0
  have hz0 := hI.rz
  have hc1 := hc0
  have hz1 := hz0
  obtain ⟨v, J, J', hx, hy, h2, hst⟩ := e_best (N := N) (x := (ls_y xs (i + 1))) h hN
  have hF := yIv.nx hI h2 (by clear h h2; omega) hst
  refine ok_aload_n (G := True) (q := 913) 1 dL_law_912 rfl rfl rfl ?_ trivial
  refine ok_aload_n (q := 914) 0 dL_law_913 rfl rfl rfl ?_
  refine ok_iload_n (q := 915) 3 dL_law_914 rfl rfl rfl ?_
  refine ok_iconst (q := 916) (x := 1) dL_law_915 rfl rfl (by decide) ?_
  refine ok_iadd (q := 917) dL_law_916 rfl hb1.1 ?_
  refine ok_iaload (q := 918) (v := ls_y xs (i + 1)) dL_law_917 rfl hs.1 hb1.2.1 (hs.lt hb1.2.2) (hs.2.2 _ hb1.2.1 hb1.2.2) ?_
  refine fun _ => ok_callV (q := 921) (as := [qi (ls_y xs (i + 1))]) (st := []) dL_law_918 rfl mo_L_134 k2 rfl (Nat.le_of_ble_eq_true rfl) rfl rfl (Nat.le_of_ble_eq_true rfl) (Nat.le_of_ble_eq_true rfl) (Nat.le_of_ble_eq_true rfl) hc0 hz0 (ct_X11_best (N := N) k2 hx) (fun v' n'' K'' I'' F'' hp => ?_)
  obtain ⟨rfl, rfl, rfl, rfl, rfl⟩ := hp
  refine ok_scr (fun hs2 => ?_)
  refine ok_aload_n (G := True) (q := 922) 2 dL_law_921 rfl rfl rfl ?_ trivial
  refine ok_aload_n (q := 923) 0 dL_law_922 rfl rfl rfl ?_
  refine ok_iload_n (q := 924) 3 dL_law_923 rfl rfl rfl ?_
  refine ok_iconst (q := 925) (x := 1) dL_law_924 rfl rfl (by decide) ?_
  refine ok_iadd (q := 926) dL_law_925 rfl hb1.1 ?_
  refine ok_iaload (q := 927) (v := ls_y xs (i + 1)) dL_law_926 rfl hs2.1 hb1.2.1 (hs2.lt hb1.2.2) (hs2.2.2 _ hb1.2.1 hb1.2.2) ?_
  refine fun _ => ok_callV (q := 930) (as := [qi (ls_y xs (i + 1))]) (st := [qi v]) dL_law_927 rfl mo_L_137 k85 rfl (Nat.le_of_ble_eq_true rfl) rfl rfl (Nat.le_of_ble_eq_true rfl) (Nat.le_of_ble_eq_true rfl) (Nat.le_of_ble_eq_true rfl) hc1 hz1 (ct_X12_best (N := N) k85 hy) (fun v' n'' K'' I'' F'' hp => ?_)
  obtain ⟨rfl, rfl, rfl, rfl, rfl⟩ := hp
  exact ok_icmp_eq (q := 1275) (q2 := 933) (x := v) (y := v) (t1 := some ()) (t2 := none) (r0 := ()) dL_law_930 rfl rfl (fun _ => kk _ _ _ _ _ _ hF) (fun g => by cases g) (if_pos rfl)
theorem lc_reaches (hI : yIv n K F I c z k) (hs : ySc L xs K I) (hb : li_b L i) (hk : k ≤ 511) (hN : 2000000 < N) (kk : ∀ n K F I c z, yIv n K F I c z (k + 1) → Ok η l M_law (lq η L xs) 1275 [(0, qr 1), (1, qr 2), (2, qr 85), (3, qi i)] [] n K I F c z) : Ok η l M_law (lq η L xs) 935 [(0, qr 1), (1, qr 2), (2, qr 85), (3, qi i)] [] n K I F c z := by
  have hN1 : 100 < N := by omega
  have hk1 : k + 1 ≤ 512 := by omega
  have hk0 : k ≤ 512 := by omega
  obtain ⟨hb1, hb2, hb3, hb4⟩ := hb
  obtain ⟨R, C, A, lk, U, S, hS, h⟩ := hI.ex
  have k2 : (K 2).1 = 11 := by rw [cwK_2 h.a.c]
  have k85 : (K 85).1 = 12 := by rw [mwK_85 h.a.m]
  have hc0 := hI.rc hk0
  have hz0 := hI.rz
  have hc1 := hc0
  have hz1 := hz0
  obtain ⟨v, J, J', hx, hy, h2, hst⟩ := e_reaches (N := N) (x := (ls_y xs (i + 1))) (y := (ls_y xs (i + 2))) h hN
  have hF := yIv.nx hI h2 (by clear h h2; omega) hst
  refine ok_aload_n (G := True) (q := 936) 1 dL_law_935 rfl rfl rfl ?_ trivial
  refine ok_aload_n (q := 937) 0 dL_law_936 rfl rfl rfl ?_
  refine ok_iload_n (q := 938) 3 dL_law_937 rfl rfl rfl ?_
  refine ok_iconst (q := 939) (x := 1) dL_law_938 rfl rfl (by decide) ?_
  refine ok_iadd (q := 940) dL_law_939 rfl hb1.1 ?_
  refine ok_iaload (q := 941) (v := ls_y xs (i + 1)) dL_law_940 rfl hs.1 hb1.2.1 (hs.lt hb1.2.2) (hs.2.2 _ hb1.2.1 hb1.2.2) ?_
  refine ok_aload_n (q := 942) 0 dL_law_941 rfl rfl rfl ?_
  refine ok_iload_n (q := 943) 3 dL_law_942 rfl rfl rfl ?_
  refine ok_iconst (q := 944) (x := 2) dL_law_943 rfl rfl (by decide) ?_
  refine ok_iadd (q := 945) dL_law_944 rfl hb2.1 ?_
  refine ok_iaload (q := 946) (v := ls_y xs (i + 2)) dL_law_945 rfl hs.1 hb2.2.1 (hs.lt hb2.2.2) (hs.2.2 _ hb2.2.1 hb2.2.2) ?_
  refine fun _ => ok_callV (q := 949) (as := [qi (ls_y xs (i + 1)), qi (ls_y xs (i + 2))]) (st := []) dL_law_946 rfl mo_L_138 k2 rfl (Nat.le_of_ble_eq_true rfl) rfl rfl (Nat.le_of_ble_eq_true rfl) (Nat.le_of_ble_eq_true rfl) (Nat.le_of_ble_eq_true rfl) hc0 hz0 (ct_X11_reaches (N := N) k2 hx) (fun v' n'' K'' I'' F'' hp => ?_)
  obtain ⟨rfl, rfl, rfl, rfl, rfl⟩ := hp
  refine ok_scr (fun hs2 => ?_)
  refine ok_aload_n (G := True) (q := 950) 2 dL_law_949 rfl rfl rfl ?_ trivial
  refine ok_aload_n (q := 951) 0 dL_law_950 rfl rfl rfl ?_
  refine ok_iload_n (q := 952) 3 dL_law_951 rfl rfl rfl ?_
  refine ok_iconst (q := 953) (x := 1) dL_law_952 rfl rfl (by decide) ?_
  refine ok_iadd (q := 954) dL_law_953 rfl hb1.1 ?_
  refine ok_iaload (q := 955) (v := ls_y xs (i + 1)) dL_law_954 rfl hs2.1 hb1.2.1 (hs2.lt hb1.2.2) (hs2.2.2 _ hb1.2.1 hb1.2.2) ?_
  refine ok_aload_n (q := 956) 0 dL_law_955 rfl rfl rfl ?_
  refine ok_iload_n (q := 957) 3 dL_law_956 rfl rfl rfl ?_
  refine ok_iconst (q := 958) (x := 2) dL_law_957 rfl rfl (by decide) ?_
  refine ok_iadd (q := 959) dL_law_958 rfl hb2.1 ?_
  refine ok_iaload (q := 960) (v := ls_y xs (i + 2)) dL_law_959 rfl hs2.1 hb2.2.1 (hs2.lt hb2.2.2) (hs2.2.2 _ hb2.2.1 hb2.2.2) ?_
  refine fun _ => ok_callV (q := 963) (as := [qi (ls_y xs (i + 1)), qi (ls_y xs (i + 2))]) (st := [qi v]) dL_law_960 rfl mo_L_141 k85 rfl (Nat.le_of_ble_eq_true rfl) rfl rfl (Nat.le_of_ble_eq_true rfl) (Nat.le_of_ble_eq_true rfl) (Nat.le_of_ble_eq_true rfl) hc1 hz1 (ct_X12_reaches (N := N) k85 hy) (fun v' n'' K'' I'' F'' hp => ?_)
  obtain ⟨rfl, rfl, rfl, rfl, rfl⟩ := hp
  exact ok_icmp_eq (q := 1275) (q2 := 966) (x := v) (y := v) (t1 := some ()) (t2 := none) (r0 := ()) dL_law_963 rfl rfl (fun _ => kk _ _ _ _ _ _ hF) (fun g => by cases g) (if_pos rfl)
theorem lc_count (hI : yIv n K F I c z k) (hs : ySc L xs K I) (hb : li_b L i) (hk : k ≤ 511) (hN : 2000000 < N) (kk : ∀ n K F I c z, yIv n K F I c z (k + 1) → Ok η l M_law (lq η L xs) 1275 [(0, qr 1), (1, qr 2), (2, qr 85), (3, qi i)] [] n K I F c z) : Ok η l M_law (lq η L xs) 968 [(0, qr 1), (1, qr 2), (2, qr 85), (3, qi i)] [] n K I F c z := by
  have hN1 : 100 < N := by omega
  have hk1 : k + 1 ≤ 512 := by omega
  have hk0 : k ≤ 512 := by omega
  obtain ⟨hb1, hb2, hb3, hb4⟩ := hb
  obtain ⟨R, C, A, lk, U, S, hS, h⟩ := hI.ex
  have k2 : (K 2).1 = 11 := by rw [cwK_2 h.a.c]
  have k85 : (K 85).1 = 12 := by rw [mwK_85 h.a.m]
  have hc0 := hI.rc hk0
  have hz0 := hI.rz
  have hc1 := hc0
  have hz1 := hz0
  obtain ⟨v, J, J', hx, hy, h2, hst⟩ := e_count (N := N) (x := (ls_y xs (i + 1))) h hN
  have hF := yIv.nx hI h2 (by clear h h2; omega) hst
  refine ok_aload_n (G := True) (q := 969) 1 dL_law_968 rfl rfl rfl ?_ trivial
  refine ok_aload_n (q := 970) 0 dL_law_969 rfl rfl rfl ?_
  refine ok_iload_n (q := 971) 3 dL_law_970 rfl rfl rfl ?_
  refine ok_iconst (q := 972) (x := 1) dL_law_971 rfl rfl (by decide) ?_
  refine ok_iadd (q := 973) dL_law_972 rfl hb1.1 ?_
  refine ok_iaload (q := 974) (v := ls_y xs (i + 1)) dL_law_973 rfl hs.1 hb1.2.1 (hs.lt hb1.2.2) (hs.2.2 _ hb1.2.1 hb1.2.2) ?_
  refine fun _ => ok_callV (q := 977) (as := [qi (ls_y xs (i + 1))]) (st := []) dL_law_974 rfl mo_L_142 k2 rfl (Nat.le_of_ble_eq_true rfl) rfl rfl (Nat.le_of_ble_eq_true rfl) (Nat.le_of_ble_eq_true rfl) (Nat.le_of_ble_eq_true rfl) hc0 hz0 (ct_X11_count (N := N) k2 hx) (fun v' n'' K'' I'' F'' hp => ?_)
  obtain ⟨rfl, rfl, rfl, rfl, rfl⟩ := hp
  refine ok_scr (fun hs2 => ?_)
  refine ok_aload_n (G := True) (q := 978) 2 dL_law_977 rfl rfl rfl ?_ trivial
  refine ok_aload_n (q := 979) 0 dL_law_978 rfl rfl rfl ?_
  refine ok_iload_n (q := 980) 3 dL_law_979 rfl rfl rfl ?_
  refine ok_iconst (q := 981) (x := 1) dL_law_980 rfl rfl (by decide) ?_
  refine ok_iadd (q := 982) dL_law_981 rfl hb1.1 ?_
  refine ok_iaload (q := 983) (v := ls_y xs (i + 1)) dL_law_982 rfl hs2.1 hb1.2.1 (hs2.lt hb1.2.2) (hs2.2.2 _ hb1.2.1 hb1.2.2) ?_
  refine fun _ => ok_callV (q := 986) (as := [qi (ls_y xs (i + 1))]) (st := [qi v]) dL_law_983 rfl mo_L_145 k85 rfl (Nat.le_of_ble_eq_true rfl) rfl rfl (Nat.le_of_ble_eq_true rfl) (Nat.le_of_ble_eq_true rfl) (Nat.le_of_ble_eq_true rfl) hc1 hz1 (ct_X12_count (N := N) k85 hy) (fun v' n'' K'' I'' F'' hp => ?_)
  obtain ⟨rfl, rfl, rfl, rfl, rfl⟩ := hp
  exact ok_icmp_eq (q := 1275) (q2 := 989) (x := v) (y := v) (t1 := some ()) (t2 := none) (r0 := ()) dL_law_986 rfl rfl (fun _ => kk _ _ _ _ _ _ hF) (fun g => by cases g) (if_pos rfl)
theorem lc_find (hI : yIv n K F I c z k) (hs : ySc L xs K I) (hb : li_b L i) (hk : k ≤ 511) (hN : 2000000 < N) (kk : ∀ n K F I c z, yIv n K F I c z (k + 1) → Ok η l M_law (lq η L xs) 1275 [(0, qr 1), (1, qr 2), (2, qr 85), (3, qi i)] [] n K I F c z) : Ok η l M_law (lq η L xs) 991 [(0, qr 1), (1, qr 2), (2, qr 85), (3, qi i)] [] n K I F c z := by
  have hN1 : 100 < N := by omega
  have hk1 : k + 1 ≤ 512 := by omega
  have hk0 : k ≤ 512 := by omega
  obtain ⟨hb1, hb2, hb3, hb4⟩ := hb
  obtain ⟨R, C, A, lk, U, S, hS, h⟩ := hI.ex
  have k2 : (K 2).1 = 11 := by rw [cwK_2 h.a.c]
  have k85 : (K 85).1 = 12 := by rw [mwK_85 h.a.m]
  have hc0 := hI.rc hk0
  have hz0 := hI.rz
  have hc1 := hc0
  have hz1 := hz0
  obtain ⟨v, J, J', hx, hy, h2, hst⟩ := e_find (N := N) (x := (ls_y xs (i + 1))) (y := (ls_y xs (i + 2))) h hN (ls_in _).2
  have hF := yIv.nx hI h2 (by clear h h2; omega) hst
  refine ok_aload_n (G := True) (q := 992) 1 dL_law_991 rfl rfl rfl ?_ trivial
  refine ok_aload_n (q := 993) 0 dL_law_992 rfl rfl rfl ?_
  refine ok_iload_n (q := 994) 3 dL_law_993 rfl rfl rfl ?_
  refine ok_iconst (q := 995) (x := 1) dL_law_994 rfl rfl (by decide) ?_
  refine ok_iadd (q := 996) dL_law_995 rfl hb1.1 ?_
  refine ok_iaload (q := 997) (v := ls_y xs (i + 1)) dL_law_996 rfl hs.1 hb1.2.1 (hs.lt hb1.2.2) (hs.2.2 _ hb1.2.1 hb1.2.2) ?_
  refine ok_aload_n (q := 998) 0 dL_law_997 rfl rfl rfl ?_
  refine ok_iload_n (q := 999) 3 dL_law_998 rfl rfl rfl ?_
  refine ok_iconst (q := 1000) (x := 2) dL_law_999 rfl rfl (by decide) ?_
  refine ok_iadd (q := 1001) dL_law_1000 rfl hb2.1 ?_
  refine ok_iaload (q := 1002) (v := ls_y xs (i + 2)) dL_law_1001 rfl hs.1 hb2.2.1 (hs.lt hb2.2.2) (hs.2.2 _ hb2.2.1 hb2.2.2) ?_
  refine fun _ => ok_callV (q := 1005) (as := [qi (ls_y xs (i + 1)), qi (ls_y xs (i + 2))]) (st := []) dL_law_1002 rfl mo_L_146 k2 rfl (Nat.le_of_ble_eq_true rfl) rfl rfl (Nat.le_of_ble_eq_true rfl) (Nat.le_of_ble_eq_true rfl) (Nat.le_of_ble_eq_true rfl) hc0 hz0 (ct_X11_find (N := N) k2 hx) (fun v' n'' K'' I'' F'' hp => ?_)
  obtain ⟨rfl, rfl, rfl, rfl, rfl⟩ := hp
  refine ok_scr (fun hs2 => ?_)
  refine ok_aload_n (G := True) (q := 1006) 2 dL_law_1005 rfl rfl rfl ?_ trivial
  refine ok_aload_n (q := 1007) 0 dL_law_1006 rfl rfl rfl ?_
  refine ok_iload_n (q := 1008) 3 dL_law_1007 rfl rfl rfl ?_
  refine ok_iconst (q := 1009) (x := 1) dL_law_1008 rfl rfl (by decide) ?_
  refine ok_iadd (q := 1010) dL_law_1009 rfl hb1.1 ?_
  refine ok_iaload (q := 1011) (v := ls_y xs (i + 1)) dL_law_1010 rfl hs2.1 hb1.2.1 (hs2.lt hb1.2.2) (hs2.2.2 _ hb1.2.1 hb1.2.2) ?_
  refine ok_aload_n (q := 1012) 0 dL_law_1011 rfl rfl rfl ?_
  refine ok_iload_n (q := 1013) 3 dL_law_1012 rfl rfl rfl ?_
  refine ok_iconst (q := 1014) (x := 2) dL_law_1013 rfl rfl (by decide) ?_
  refine ok_iadd (q := 1015) dL_law_1014 rfl hb2.1 ?_
  refine ok_iaload (q := 1016) (v := ls_y xs (i + 2)) dL_law_1015 rfl hs2.1 hb2.2.1 (hs2.lt hb2.2.2) (hs2.2.2 _ hb2.2.1 hb2.2.2) ?_
  refine fun _ => ok_callV (q := 1019) (as := [qi (ls_y xs (i + 1)), qi (ls_y xs (i + 2))]) (st := [qi v]) dL_law_1016 rfl mo_L_149 k85 rfl (Nat.le_of_ble_eq_true rfl) rfl rfl (Nat.le_of_ble_eq_true rfl) (Nat.le_of_ble_eq_true rfl) (Nat.le_of_ble_eq_true rfl) hc1 hz1 (ct_X12_find (N := N) k85 hy) (fun v' n'' K'' I'' F'' hp => ?_)
  obtain ⟨rfl, rfl, rfl, rfl, rfl⟩ := hp
  exact ok_icmp_eq (q := 1275) (q2 := 1022) (x := v) (y := v) (t1 := some ()) (t2 := none) (r0 := ()) dL_law_1019 rfl rfl (fun _ => kk _ _ _ _ _ _ hF) (fun g => by cases g) (if_pos rfl)
theorem lc_claim (hI : yIv n K F I c z k) (hs : ySc L xs K I) (hb : li_b L i) (hk : k ≤ 511) (hN : 2000000 < N) (kk : ∀ n K F I c z, yIv n K F I c z (k + 1) → Ok η l M_law (lq η L xs) 1275 [(0, qr 1), (1, qr 2), (2, qr 85), (3, qi i)] [] n K I F c z) : Ok η l M_law (lq η L xs) 1024 [(0, qr 1), (1, qr 2), (2, qr 85), (3, qi i)] [] n K I F c z := by
  have hN1 : 100 < N := by omega
  have hk1 : k + 1 ≤ 512 := by omega
  have hk0 : k ≤ 512 := by omega
  obtain ⟨hb1, hb2, hb3, hb4⟩ := hb
  obtain ⟨R, C, A, lk, U, S, hS, h⟩ := hI.ex
  have k2 : (K 2).1 = 11 := by rw [cwK_2 h.a.c]
  have k85 : (K 85).1 = 12 := by rw [mwK_85 h.a.m]
  have hc0 := hI.rc hk0
  have hz0 := hI.rz
  have hc1 := hc0
  have hz1 := hz0
  obtain ⟨v, J, J', hx, hy, h2, hst⟩ := e_claim (N := N) (x := (ls_y xs (i + 1))) (y := (ls_y xs (i + 2))) (z := (ls_y xs (i + 3))) h hN1
  have hF := yIv.nx hI h2 (by clear h h2; omega) hst
  refine ok_aload_n (G := True) (q := 1025) 1 dL_law_1024 rfl rfl rfl ?_ trivial
  refine ok_aload_n (q := 1026) 0 dL_law_1025 rfl rfl rfl ?_
  refine ok_iload_n (q := 1027) 3 dL_law_1026 rfl rfl rfl ?_
  refine ok_iconst (q := 1028) (x := 1) dL_law_1027 rfl rfl (by decide) ?_
  refine ok_iadd (q := 1029) dL_law_1028 rfl hb1.1 ?_
  refine ok_iaload (q := 1030) (v := ls_y xs (i + 1)) dL_law_1029 rfl hs.1 hb1.2.1 (hs.lt hb1.2.2) (hs.2.2 _ hb1.2.1 hb1.2.2) ?_
  refine ok_aload_n (q := 1031) 0 dL_law_1030 rfl rfl rfl ?_
  refine ok_iload_n (q := 1032) 3 dL_law_1031 rfl rfl rfl ?_
  refine ok_iconst (q := 1033) (x := 2) dL_law_1032 rfl rfl (by decide) ?_
  refine ok_iadd (q := 1034) dL_law_1033 rfl hb2.1 ?_
  refine ok_iaload (q := 1035) (v := ls_y xs (i + 2)) dL_law_1034 rfl hs.1 hb2.2.1 (hs.lt hb2.2.2) (hs.2.2 _ hb2.2.1 hb2.2.2) ?_
  refine ok_aload_n (q := 1036) 0 dL_law_1035 rfl rfl rfl ?_
  refine ok_iload_n (q := 1037) 3 dL_law_1036 rfl rfl rfl ?_
  refine ok_iconst (q := 1038) (x := 3) dL_law_1037 rfl rfl (by decide) ?_
  refine ok_iadd (q := 1039) dL_law_1038 rfl hb3.1 ?_
  refine ok_iaload (q := 1040) (v := ls_y xs (i + 3)) dL_law_1039 rfl hs.1 hb3.2.1 (hs.lt hb3.2.2) (hs.2.2 _ hb3.2.1 hb3.2.2) ?_
  refine fun _ => ok_callV (q := 1043) (as := [qi (ls_y xs (i + 1)), qi (ls_y xs (i + 2)), qi (ls_y xs (i + 3))]) (st := []) dL_law_1040 rfl mo_L_150 k2 rfl (Nat.le_of_ble_eq_true rfl) rfl rfl (Nat.le_of_ble_eq_true rfl) (Nat.le_of_ble_eq_true rfl) (Nat.le_of_ble_eq_true rfl) hc0 hz0 (ct_X11_claim (N := N) k2 hx) (fun v' n'' K'' I'' F'' hp => ?_)
  obtain ⟨rfl, rfl, rfl, rfl, rfl⟩ := hp
  refine ok_scr (fun hs2 => ?_)
  refine ok_aload_n (G := True) (q := 1044) 2 dL_law_1043 rfl rfl rfl ?_ trivial
  refine ok_aload_n (q := 1045) 0 dL_law_1044 rfl rfl rfl ?_
  refine ok_iload_n (q := 1046) 3 dL_law_1045 rfl rfl rfl ?_
  refine ok_iconst (q := 1047) (x := 1) dL_law_1046 rfl rfl (by decide) ?_
  refine ok_iadd (q := 1048) dL_law_1047 rfl hb1.1 ?_
  refine ok_iaload (q := 1049) (v := ls_y xs (i + 1)) dL_law_1048 rfl hs2.1 hb1.2.1 (hs2.lt hb1.2.2) (hs2.2.2 _ hb1.2.1 hb1.2.2) ?_
  refine ok_aload_n (q := 1050) 0 dL_law_1049 rfl rfl rfl ?_
  refine ok_iload_n (q := 1051) 3 dL_law_1050 rfl rfl rfl ?_
  refine ok_iconst (q := 1052) (x := 2) dL_law_1051 rfl rfl (by decide) ?_
  refine ok_iadd (q := 1053) dL_law_1052 rfl hb2.1 ?_
  refine ok_iaload (q := 1054) (v := ls_y xs (i + 2)) dL_law_1053 rfl hs2.1 hb2.2.1 (hs2.lt hb2.2.2) (hs2.2.2 _ hb2.2.1 hb2.2.2) ?_
  refine ok_aload_n (q := 1055) 0 dL_law_1054 rfl rfl rfl ?_
  refine ok_iload_n (q := 1056) 3 dL_law_1055 rfl rfl rfl ?_
  refine ok_iconst (q := 1057) (x := 3) dL_law_1056 rfl rfl (by decide) ?_
  refine ok_iadd (q := 1058) dL_law_1057 rfl hb3.1 ?_
  refine ok_iaload (q := 1059) (v := ls_y xs (i + 3)) dL_law_1058 rfl hs2.1 hb3.2.1 (hs2.lt hb3.2.2) (hs2.2.2 _ hb3.2.1 hb3.2.2) ?_
  refine fun _ => ok_callV (q := 1062) (as := [qi (ls_y xs (i + 1)), qi (ls_y xs (i + 2)), qi (ls_y xs (i + 3))]) (st := [qi v]) dL_law_1059 rfl mo_L_153 k85 rfl (Nat.le_of_ble_eq_true rfl) rfl rfl (Nat.le_of_ble_eq_true rfl) (Nat.le_of_ble_eq_true rfl) (Nat.le_of_ble_eq_true rfl) hc1 hz1 (ct_X12_claim (N := N) k85 hy) (fun v' n'' K'' I'' F'' hp => ?_)
  obtain ⟨rfl, rfl, rfl, rfl, rfl⟩ := hp
  exact ok_icmp_eq (q := 1275) (q2 := 1065) (x := v) (y := v) (t1 := some ()) (t2 := none) (r0 := ()) dL_law_1062 rfl rfl (fun _ => kk _ _ _ _ _ _ hF) (fun g => by cases g) (if_pos rfl)
theorem lc_copy (hI : yIv n K F I c z k) (hs : ySc L xs K I) (hb : li_b L i) (hk : k ≤ 511) (hN : 2000000 < N) (kk : ∀ n K F I c z, yIv n K F I c z (k + 1) → Ok η l M_law (lq η L xs) 1275 [(0, qr 1), (1, qr 2), (2, qr 85), (3, qi i)] [] n K I F c z) : Ok η l M_law (lq η L xs) 1067 [(0, qr 1), (1, qr 2), (2, qr 85), (3, qi i)] [] n K I F c z := by
  have hN1 : 100 < N := by omega
  have hk1 : k + 1 ≤ 512 := by omega
  have hk0 : k ≤ 512 := by omega
  obtain ⟨hb1, hb2, hb3, hb4⟩ := hb
  obtain ⟨R, C, A, lk, U, S, hS, h⟩ := hI.ex
  have k2 : (K 2).1 = 11 := by rw [cwK_2 h.a.c]
  have k85 : (K 85).1 = 12 := by rw [mwK_85 h.a.m]
  have hc0 := hI.rc hk0
  have hz0 := hI.rz
  have hc1 := hc0
  have hz1 := hz0
  obtain ⟨v, J, J', hx, hy, h2, hst⟩ := e_copy (N := N)  h hN
  have hF := yIv.nx hI h2 (by clear h h2; omega) hst
  refine ok_aload_n (G := True) (q := 1068) 1 dL_law_1067 rfl rfl rfl ?_ trivial
  refine fun _ => ok_callV (q := 1071) (as := []) (st := []) dL_law_1068 rfl mo_L_154 k2 rfl (Nat.le_of_ble_eq_true rfl) rfl rfl (Nat.le_of_ble_eq_true rfl) (Nat.le_of_ble_eq_true rfl) (Nat.le_of_ble_eq_true rfl) hc0 hz0 (ct_X11_copy (N := N) k2 hx) (fun v' n'' K'' I'' F'' hp => ?_)
  obtain ⟨rfl, rfl, rfl, rfl, rfl⟩ := hp
  refine ok_scr (fun hs2 => ?_)
  refine ok_aload_n (G := True) (q := 1072) 2 dL_law_1071 rfl rfl rfl ?_ trivial
  refine fun _ => ok_callV (q := 1075) (as := []) (st := [qi v]) dL_law_1072 rfl mo_L_157 k85 rfl (Nat.le_of_ble_eq_true rfl) rfl rfl (Nat.le_of_ble_eq_true rfl) (Nat.le_of_ble_eq_true rfl) (Nat.le_of_ble_eq_true rfl) hc1 hz1 (ct_X12_copy (N := N) k85 hy) (fun v' n'' K'' I'' F'' hp => ?_)
  obtain ⟨rfl, rfl, rfl, rfl, rfl⟩ := hp
  exact ok_icmp_eq (q := 1275) (q2 := 1078) (x := v) (y := v) (t1 := some ()) (t2 := none) (r0 := ()) dL_law_1075 rfl rfl (fun _ => kk _ _ _ _ _ _ hF) (fun g => by cases g) (if_pos rfl)
theorem lc_check (hI : yIv n K F I c z k) (hs : ySc L xs K I) (hb : li_b L i) (hk : k ≤ 511) (hN : 2000000 < N) (kk : ∀ n K F I c z, yIv n K F I c z (k + 1) → Ok η l M_law (lq η L xs) 1275 [(0, qr 1), (1, qr 2), (2, qr 85), (3, qi i)] [] n K I F c z) : Ok η l M_law (lq η L xs) 1080 [(0, qr 1), (1, qr 2), (2, qr 85), (3, qi i)] [] n K I F c z := by
  have hN1 : 100 < N := by omega
  have hk1 : k + 1 ≤ 512 := by omega
  have hk0 : k ≤ 512 := by omega
  obtain ⟨hb1, hb2, hb3, hb4⟩ := hb
  obtain ⟨R, C, A, lk, U, S, hS, h⟩ := hI.ex
  have k2 : (K 2).1 = 11 := by rw [cwK_2 h.a.c]
  have k85 : (K 85).1 = 12 := by rw [mwK_85 h.a.m]
  have hc0 := hI.rc hk0
  have hz0 := hI.rz
  have hc1 := hc0
  have hz1 := hz0
  obtain ⟨v, J, J', hx, hy, h2, hst⟩ := e_check (N := N)  h hN
  have hF := yIv.nx hI h2 (by clear h h2; omega) hst
  refine ok_aload_n (G := True) (q := 1081) 1 dL_law_1080 rfl rfl rfl ?_ trivial
  refine fun _ => ok_callV (q := 1084) (as := []) (st := []) dL_law_1081 rfl mo_L_158 k2 rfl (Nat.le_of_ble_eq_true rfl) rfl rfl (Nat.le_of_ble_eq_true rfl) (Nat.le_of_ble_eq_true rfl) (Nat.le_of_ble_eq_true rfl) hc0 hz0 (ct_X11_check (N := N) k2 hx) (fun v' n'' K'' I'' F'' hp => ?_)
  obtain ⟨rfl, rfl, rfl, rfl, rfl⟩ := hp
  refine ok_scr (fun hs2 => ?_)
  refine ok_aload_n (G := True) (q := 1085) 2 dL_law_1084 rfl rfl rfl ?_ trivial
  refine fun _ => ok_callV (q := 1088) (as := []) (st := [qi v]) dL_law_1085 rfl mo_L_161 k85 rfl (Nat.le_of_ble_eq_true rfl) rfl rfl (Nat.le_of_ble_eq_true rfl) (Nat.le_of_ble_eq_true rfl) (Nat.le_of_ble_eq_true rfl) hc1 hz1 (ct_X12_check (N := N) k85 hy) (fun v' n'' K'' I'' F'' hp => ?_)
  obtain ⟨rfl, rfl, rfl, rfl, rfl⟩ := hp
  exact ok_icmp_eq (q := 1275) (q2 := 1091) (x := v) (y := v) (t1 := some ()) (t2 := none) (r0 := ()) dL_law_1088 rfl rfl (fun _ => kk _ _ _ _ _ _ hF) (fun g => by cases g) (if_pos rfl)
theorem lc_line (hI : yIv n K F I c z k) (hs : ySc L xs K I) (hb : li_b L i) (hk : k ≤ 511) (hN : 2000000 < N) (kk : ∀ n K F I c z, yIv n K F I c z (k + 1) → Ok η l M_law (lq η L xs) 1275 [(0, qr 1), (1, qr 2), (2, qr 85), (3, qi i)] [] n K I F c z) : Ok η l M_law (lq η L xs) 1093 [(0, qr 1), (1, qr 2), (2, qr 85), (3, qi i)] [] n K I F c z := by
  have hN1 : 100 < N := by omega
  have hk1 : k + 1 ≤ 512 := by omega
  have hk0 : k ≤ 512 := by omega
  obtain ⟨hb1, hb2, hb3, hb4⟩ := hb
  obtain ⟨R, C, A, lk, U, S, hS, h⟩ := hI.ex
  have k2 : (K 2).1 = 11 := by rw [cwK_2 h.a.c]
  have k85 : (K 85).1 = 12 := by rw [mwK_85 h.a.m]
  have hc0 := hI.rc hk0
  have hz0 := hI.rz
  have hc1 := hc0
  have hz1 := hz0
  obtain ⟨v, J, J', hx, hy, h2, hst⟩ := e_line (N := N) (x := (ls_y xs (i + 1))) h hN
  have hF := yIv.nx hI h2 (by clear h h2; omega) hst
  refine ok_aload_n (G := True) (q := 1094) 1 dL_law_1093 rfl rfl rfl ?_ trivial
  refine ok_aload_n (q := 1095) 0 dL_law_1094 rfl rfl rfl ?_
  refine ok_iload_n (q := 1096) 3 dL_law_1095 rfl rfl rfl ?_
  refine ok_iconst (q := 1097) (x := 1) dL_law_1096 rfl rfl (by decide) ?_
  refine ok_iadd (q := 1098) dL_law_1097 rfl hb1.1 ?_
  refine ok_iaload (q := 1099) (v := ls_y xs (i + 1)) dL_law_1098 rfl hs.1 hb1.2.1 (hs.lt hb1.2.2) (hs.2.2 _ hb1.2.1 hb1.2.2) ?_
  refine fun _ => ok_callV (q := 1102) (as := [qi (ls_y xs (i + 1))]) (st := []) dL_law_1099 rfl mo_L_162 k2 rfl (Nat.le_of_ble_eq_true rfl) rfl rfl (Nat.le_of_ble_eq_true rfl) (Nat.le_of_ble_eq_true rfl) (Nat.le_of_ble_eq_true rfl) hc0 hz0 (ct_X11_line (N := N) k2 hx) (fun v' n'' K'' I'' F'' hp => ?_)
  obtain ⟨rfl, rfl, rfl, rfl, rfl⟩ := hp
  refine ok_scr (fun hs2 => ?_)
  refine ok_aload_n (G := True) (q := 1103) 2 dL_law_1102 rfl rfl rfl ?_ trivial
  refine ok_aload_n (q := 1104) 0 dL_law_1103 rfl rfl rfl ?_
  refine ok_iload_n (q := 1105) 3 dL_law_1104 rfl rfl rfl ?_
  refine ok_iconst (q := 1106) (x := 1) dL_law_1105 rfl rfl (by decide) ?_
  refine ok_iadd (q := 1107) dL_law_1106 rfl hb1.1 ?_
  refine ok_iaload (q := 1108) (v := ls_y xs (i + 1)) dL_law_1107 rfl hs2.1 hb1.2.1 (hs2.lt hb1.2.2) (hs2.2.2 _ hb1.2.1 hb1.2.2) ?_
  refine fun _ => ok_callV (q := 1111) (as := [qi (ls_y xs (i + 1))]) (st := [qi v]) dL_law_1108 rfl mo_L_165 k85 rfl (Nat.le_of_ble_eq_true rfl) rfl rfl (Nat.le_of_ble_eq_true rfl) (Nat.le_of_ble_eq_true rfl) (Nat.le_of_ble_eq_true rfl) hc1 hz1 (ct_X12_line (N := N) k85 hy) (fun v' n'' K'' I'' F'' hp => ?_)
  obtain ⟨rfl, rfl, rfl, rfl, rfl⟩ := hp
  exact ok_icmp_eq (q := 1275) (q2 := 1114) (x := v) (y := v) (t1 := some ()) (t2 := none) (r0 := ()) dL_law_1111 rfl rfl (fun _ => kk _ _ _ _ _ _ hF) (fun g => by cases g) (if_pos rfl)
theorem lc_lineAt (hI : yIv n K F I c z k) (hs : ySc L xs K I) (hb : li_b L i) (hk : k ≤ 511) (hN : 2000000 < N) (kk : ∀ n K F I c z, yIv n K F I c z (k + 1) → Ok η l M_law (lq η L xs) 1275 [(0, qr 1), (1, qr 2), (2, qr 85), (3, qi i)] [] n K I F c z) : Ok η l M_law (lq η L xs) 1116 [(0, qr 1), (1, qr 2), (2, qr 85), (3, qi i)] [] n K I F c z := by
  have hN1 : 100 < N := by omega
  have hk1 : k + 1 ≤ 512 := by omega
  have hk0 : k ≤ 512 := by omega
  obtain ⟨hb1, hb2, hb3, hb4⟩ := hb
  obtain ⟨R, C, A, lk, U, S, hS, h⟩ := hI.ex
  have k2 : (K 2).1 = 11 := by rw [cwK_2 h.a.c]
  have k85 : (K 85).1 = 12 := by rw [mwK_85 h.a.m]
  have hc0 := hI.rc hk0
  have hz0 := hI.rz
  have hc1 := hc0
  have hz1 := hz0
  obtain ⟨v, J, J', hx, hy, h2, hst⟩ := e_lineAt (N := N) (x := (ls_y xs (i + 1))) h 
  have hF := yIv.nx hI h2 (by clear h h2; omega) hst
  refine ok_aload_n (G := True) (q := 1117) 1 dL_law_1116 rfl rfl rfl ?_ trivial
  refine ok_aload_n (q := 1118) 0 dL_law_1117 rfl rfl rfl ?_
  refine ok_iload_n (q := 1119) 3 dL_law_1118 rfl rfl rfl ?_
  refine ok_iconst (q := 1120) (x := 1) dL_law_1119 rfl rfl (by decide) ?_
  refine ok_iadd (q := 1121) dL_law_1120 rfl hb1.1 ?_
  refine ok_iaload (q := 1122) (v := ls_y xs (i + 1)) dL_law_1121 rfl hs.1 hb1.2.1 (hs.lt hb1.2.2) (hs.2.2 _ hb1.2.1 hb1.2.2) ?_
  refine fun _ => ok_callV (q := 1125) (as := [qi (ls_y xs (i + 1))]) (st := []) dL_law_1122 rfl mo_L_166 k2 rfl (Nat.le_of_ble_eq_true rfl) rfl rfl (Nat.le_of_ble_eq_true rfl) (Nat.le_of_ble_eq_true rfl) (Nat.le_of_ble_eq_true rfl) hc0 hz0 (ct_X11_lineAt (N := N) k2 hx) (fun v' n'' K'' I'' F'' hp => ?_)
  obtain ⟨rfl, rfl, rfl, rfl, rfl⟩ := hp
  refine ok_scr (fun hs2 => ?_)
  refine ok_aload_n (G := True) (q := 1126) 2 dL_law_1125 rfl rfl rfl ?_ trivial
  refine ok_aload_n (q := 1127) 0 dL_law_1126 rfl rfl rfl ?_
  refine ok_iload_n (q := 1128) 3 dL_law_1127 rfl rfl rfl ?_
  refine ok_iconst (q := 1129) (x := 1) dL_law_1128 rfl rfl (by decide) ?_
  refine ok_iadd (q := 1130) dL_law_1129 rfl hb1.1 ?_
  refine ok_iaload (q := 1131) (v := ls_y xs (i + 1)) dL_law_1130 rfl hs2.1 hb1.2.1 (hs2.lt hb1.2.2) (hs2.2.2 _ hb1.2.1 hb1.2.2) ?_
  refine fun _ => ok_callV (q := 1134) (as := [qi (ls_y xs (i + 1))]) (st := [qi v]) dL_law_1131 rfl mo_L_169 k85 rfl (Nat.le_of_ble_eq_true rfl) rfl rfl (Nat.le_of_ble_eq_true rfl) (Nat.le_of_ble_eq_true rfl) (Nat.le_of_ble_eq_true rfl) hc1 hz1 (ct_X12_lineAt (N := N) k85 hy) (fun v' n'' K'' I'' F'' hp => ?_)
  obtain ⟨rfl, rfl, rfl, rfl, rfl⟩ := hp
  exact ok_icmp_eq (q := 1275) (q2 := 1137) (x := v) (y := v) (t1 := some ()) (t2 := none) (r0 := ()) dL_law_1134 rfl rfl (fun _ => kk _ _ _ _ _ _ hF) (fun g => by cases g) (if_pos rfl)
theorem lc_ring (hI : yIv n K F I c z k) (hs : ySc L xs K I) (hb : li_b L i) (hk : k ≤ 511) (hN : 2000000 < N) (kk : ∀ n K F I c z, yIv n K F I c z (k + 1) → Ok η l M_law (lq η L xs) 1275 [(0, qr 1), (1, qr 2), (2, qr 85), (3, qi i)] [] n K I F c z) : Ok η l M_law (lq η L xs) 1139 [(0, qr 1), (1, qr 2), (2, qr 85), (3, qi i)] [] n K I F c z := by
  have hN1 : 100 < N := by omega
  have hk1 : k + 1 ≤ 512 := by omega
  have hk0 : k ≤ 512 := by omega
  obtain ⟨hb1, hb2, hb3, hb4⟩ := hb
  obtain ⟨R, C, A, lk, U, S, hS, h⟩ := hI.ex
  have k2 : (K 2).1 = 11 := by rw [cwK_2 h.a.c]
  have k85 : (K 85).1 = 12 := by rw [mwK_85 h.a.m]
  have hc0 := hI.rc hk0
  have hz0 := hI.rz
  have hc1 := hc0
  have hz1 := hz0
  obtain ⟨v, J, J', hx, hy, h2, hst⟩ := e_ring (N := N)  h 
  have hF := yIv.nx hI h2 (by clear h h2; omega) hst
  refine ok_aload_n (G := True) (q := 1140) 1 dL_law_1139 rfl rfl rfl ?_ trivial
  refine fun _ => ok_callV (q := 1143) (as := []) (st := []) dL_law_1140 rfl mo_L_170 k2 rfl (Nat.le_of_ble_eq_true rfl) rfl rfl (Nat.le_of_ble_eq_true rfl) (Nat.le_of_ble_eq_true rfl) (Nat.le_of_ble_eq_true rfl) hc0 hz0 (ct_X11_ring (N := N) k2 hx) (fun v' n'' K'' I'' F'' hp => ?_)
  obtain ⟨rfl, rfl, rfl, rfl, rfl⟩ := hp
  refine ok_scr (fun hs2 => ?_)
  refine ok_aload_n (G := True) (q := 1144) 2 dL_law_1143 rfl rfl rfl ?_ trivial
  refine fun _ => ok_callV (q := 1147) (as := []) (st := [qi v]) dL_law_1144 rfl mo_L_173 k85 rfl (Nat.le_of_ble_eq_true rfl) rfl rfl (Nat.le_of_ble_eq_true rfl) (Nat.le_of_ble_eq_true rfl) (Nat.le_of_ble_eq_true rfl) hc1 hz1 (ct_X12_ring (N := N) k85 hy) (fun v' n'' K'' I'' F'' hp => ?_)
  obtain ⟨rfl, rfl, rfl, rfl, rfl⟩ := hp
  exact ok_icmp_eq (q := 1275) (q2 := 1150) (x := v) (y := v) (t1 := some ()) (t2 := none) (r0 := ()) dL_law_1147 rfl rfl (fun _ => kk _ _ _ _ _ _ hF) (fun g => by cases g) (if_pos rfl)
theorem lc_player (hI : yIv n K F I c z k) (hs : ySc L xs K I) (hb : li_b L i) (hk : k ≤ 511) (hN : 2000000 < N) (kk : ∀ n K F I c z, yIv n K F I c z (k + 1) → Ok η l M_law (lq η L xs) 1275 [(0, qr 1), (1, qr 2), (2, qr 85), (3, qi i)] [] n K I F c z) : Ok η l M_law (lq η L xs) 1152 [(0, qr 1), (1, qr 2), (2, qr 85), (3, qi i)] [] n K I F c z := by
  have hN1 : 100 < N := by omega
  have hk1 : k + 1 ≤ 512 := by omega
  have hk0 : k ≤ 512 := by omega
  obtain ⟨hb1, hb2, hb3, hb4⟩ := hb
  obtain ⟨R, C, A, lk, U, S, hS, h⟩ := hI.ex
  have k2 : (K 2).1 = 11 := by rw [cwK_2 h.a.c]
  have k85 : (K 85).1 = 12 := by rw [mwK_85 h.a.m]
  have hc0 := hI.rc hk0
  have hz0 := hI.rz
  have hc1 := hc0
  have hz1 := hz0
  obtain ⟨v, J, J', hx, hy, h2, hst⟩ := e_player (N := N) (x := (ls_y xs (i + 1))) (y := (ls_y xs (i + 2))) (z := (am_lor (am_lshl (ls_y xs (i + 3)) 32) (am_land (ls_y xs (i + 4)) 4294967295))) h 
  have hF := yIv.nx hI h2 (by clear h h2; omega) hst
  refine ok_aload_n (G := True) (q := 1153) 1 dL_law_1152 rfl rfl rfl ?_ trivial
  refine ok_aload_n (q := 1154) 0 dL_law_1153 rfl rfl rfl ?_
  refine ok_iload_n (q := 1155) 3 dL_law_1154 rfl rfl rfl ?_
  refine ok_iconst (q := 1156) (x := 1) dL_law_1155 rfl rfl (by decide) ?_
  refine ok_iadd (q := 1157) dL_law_1156 rfl hb1.1 ?_
  refine ok_iaload (q := 1158) (v := ls_y xs (i + 1)) dL_law_1157 rfl hs.1 hb1.2.1 (hs.lt hb1.2.2) (hs.2.2 _ hb1.2.1 hb1.2.2) ?_
  refine ok_aload_n (q := 1159) 0 dL_law_1158 rfl rfl rfl ?_
  refine ok_iload_n (q := 1160) 3 dL_law_1159 rfl rfl rfl ?_
  refine ok_iconst (q := 1161) (x := 2) dL_law_1160 rfl rfl (by decide) ?_
  refine ok_iadd (q := 1162) dL_law_1161 rfl hb2.1 ?_
  refine ok_iaload (q := 1163) (v := ls_y xs (i + 2)) dL_law_1162 rfl hs.1 hb2.2.1 (hs.lt hb2.2.2) (hs.2.2 _ hb2.2.1 hb2.2.2) ?_
  refine ok_aload_n (q := 1164) 0 dL_law_1163 rfl rfl rfl ?_
  refine ok_iload_n (q := 1165) 3 dL_law_1164 rfl rfl rfl ?_
  refine ok_iconst (q := 1166) (x := 3) dL_law_1165 rfl rfl (by decide) ?_
  refine ok_iadd (q := 1167) dL_law_1166 rfl hb3.1 ?_
  refine ok_iaload (q := 1168) (v := ls_y xs (i + 3)) dL_law_1167 rfl hs.1 hb3.2.1 (hs.lt hb3.2.2) (hs.2.2 _ hb3.2.1 hb3.2.2) ?_
  refine ok_i2l (q := 1169) dL_law_1168 rfl ?_
  refine ok_bipush (q := 1171) (x := 32) dL_law_1169 rfl rfl (by decide) ?_
  refine ok_lshl (q := 1172) (r := am_lshl (ls_y xs (i + 3)) 32) dL_law_1171 rfl rfl ?_
  refine ok_aload_n (q := 1173) 0 dL_law_1172 rfl rfl rfl ?_
  refine ok_iload_n (q := 1174) 3 dL_law_1173 rfl rfl rfl ?_
  refine ok_iconst (q := 1175) (x := 4) dL_law_1174 rfl rfl (by decide) ?_
  refine ok_iadd (q := 1176) dL_law_1175 rfl hb4.1 ?_
  refine ok_iaload (q := 1177) (v := ls_y xs (i + 4)) dL_law_1176 rfl hs.1 hb4.2.1 (hs.lt hb4.2.2) (hs.2.2 _ hb4.2.1 hb4.2.2) ?_
  refine ok_i2l (q := 1178) dL_law_1177 rfl ?_
  refine ok_ldc2 (q := 1181) (x := 4294967295) (v := 4294967295) dL_law_1178 rfl kc_L_111 rfl (by decide) ?_
  refine ok_land (q := 1182) (r := am_land (ls_y xs (i + 4)) 4294967295) dL_law_1181 rfl rfl ?_
  refine ok_lor (q := 1183) (r := am_lor (am_lshl (ls_y xs (i + 3)) 32) (am_land (ls_y xs (i + 4)) 4294967295)) dL_law_1182 rfl rfl ?_
  refine fun _ => ok_callV (q := 1186) (as := [qi (ls_y xs (i + 1)), qi (ls_y xs (i + 2)), ql (am_lor (am_lshl (ls_y xs (i + 3)) 32) (am_land (ls_y xs (i + 4)) 4294967295))]) (st := []) dL_law_1183 rfl mo_L_174 k2 rfl (Nat.le_of_ble_eq_true rfl) rfl rfl (Nat.le_of_ble_eq_true rfl) (Nat.le_of_ble_eq_true rfl) (Nat.le_of_ble_eq_true rfl) hc0 hz0 (ct_X11_player (N := N) k2 hx) (fun v' n'' K'' I'' F'' hp => ?_)
  obtain ⟨rfl, rfl, rfl, rfl, rfl⟩ := hp
  refine ok_scr (fun hs2 => ?_)
  refine ok_aload_n (G := True) (q := 1187) 2 dL_law_1186 rfl rfl rfl ?_ trivial
  refine ok_aload_n (q := 1188) 0 dL_law_1187 rfl rfl rfl ?_
  refine ok_iload_n (q := 1189) 3 dL_law_1188 rfl rfl rfl ?_
  refine ok_iconst (q := 1190) (x := 1) dL_law_1189 rfl rfl (by decide) ?_
  refine ok_iadd (q := 1191) dL_law_1190 rfl hb1.1 ?_
  refine ok_iaload (q := 1192) (v := ls_y xs (i + 1)) dL_law_1191 rfl hs2.1 hb1.2.1 (hs2.lt hb1.2.2) (hs2.2.2 _ hb1.2.1 hb1.2.2) ?_
  refine ok_aload_n (q := 1193) 0 dL_law_1192 rfl rfl rfl ?_
  refine ok_iload_n (q := 1194) 3 dL_law_1193 rfl rfl rfl ?_
  refine ok_iconst (q := 1195) (x := 2) dL_law_1194 rfl rfl (by decide) ?_
  refine ok_iadd (q := 1196) dL_law_1195 rfl hb2.1 ?_
  refine ok_iaload (q := 1197) (v := ls_y xs (i + 2)) dL_law_1196 rfl hs2.1 hb2.2.1 (hs2.lt hb2.2.2) (hs2.2.2 _ hb2.2.1 hb2.2.2) ?_
  refine ok_aload_n (q := 1198) 0 dL_law_1197 rfl rfl rfl ?_
  refine ok_iload_n (q := 1199) 3 dL_law_1198 rfl rfl rfl ?_
  refine ok_iconst (q := 1200) (x := 3) dL_law_1199 rfl rfl (by decide) ?_
  refine ok_iadd (q := 1201) dL_law_1200 rfl hb3.1 ?_
  refine ok_iaload (q := 1202) (v := ls_y xs (i + 3)) dL_law_1201 rfl hs2.1 hb3.2.1 (hs2.lt hb3.2.2) (hs2.2.2 _ hb3.2.1 hb3.2.2) ?_
  refine ok_i2l (q := 1203) dL_law_1202 rfl ?_
  refine ok_bipush (q := 1205) (x := 32) dL_law_1203 rfl rfl (by decide) ?_
  refine ok_lshl (q := 1206) (r := am_lshl (ls_y xs (i + 3)) 32) dL_law_1205 rfl rfl ?_
  refine ok_aload_n (q := 1207) 0 dL_law_1206 rfl rfl rfl ?_
  refine ok_iload_n (q := 1208) 3 dL_law_1207 rfl rfl rfl ?_
  refine ok_iconst (q := 1209) (x := 4) dL_law_1208 rfl rfl (by decide) ?_
  refine ok_iadd (q := 1210) dL_law_1209 rfl hb4.1 ?_
  refine ok_iaload (q := 1211) (v := ls_y xs (i + 4)) dL_law_1210 rfl hs2.1 hb4.2.1 (hs2.lt hb4.2.2) (hs2.2.2 _ hb4.2.1 hb4.2.2) ?_
  refine ok_i2l (q := 1212) dL_law_1211 rfl ?_
  refine ok_ldc2 (q := 1215) (x := 4294967295) (v := 4294967295) dL_law_1212 rfl kc_L_111 rfl (by decide) ?_
  refine ok_land (q := 1216) (r := am_land (ls_y xs (i + 4)) 4294967295) dL_law_1215 rfl rfl ?_
  refine ok_lor (q := 1217) (r := am_lor (am_lshl (ls_y xs (i + 3)) 32) (am_land (ls_y xs (i + 4)) 4294967295)) dL_law_1216 rfl rfl ?_
  refine fun _ => ok_callV (q := 1220) (as := [qi (ls_y xs (i + 1)), qi (ls_y xs (i + 2)), ql (am_lor (am_lshl (ls_y xs (i + 3)) 32) (am_land (ls_y xs (i + 4)) 4294967295))]) (st := [qi v]) dL_law_1217 rfl mo_L_178 k85 rfl (Nat.le_of_ble_eq_true rfl) rfl rfl (Nat.le_of_ble_eq_true rfl) (Nat.le_of_ble_eq_true rfl) (Nat.le_of_ble_eq_true rfl) hc1 hz1 (ct_X12_player (N := N) k85 hy) (fun v' n'' K'' I'' F'' hp => ?_)
  obtain ⟨rfl, rfl, rfl, rfl, rfl⟩ := hp
  exact ok_icmp_eq (q := 1275) (q2 := 1223) (x := v) (y := v) (t1 := some ()) (t2 := none) (r0 := ()) dL_law_1220 rfl rfl (fun _ => kk _ _ _ _ _ _ hF) (fun g => by cases g) (if_pos rfl)
theorem lc_play (hI : yIv n K F I c z k) (hs : ySc L xs K I) (hb : li_b L i) (hk : k ≤ 511) (hN : 2000000 < N) (kk : ∀ n K F I c z, yIv n K F I c z (k + 1) → Ok η l M_law (lq η L xs) 1275 [(0, qr 1), (1, qr 2), (2, qr 85), (3, qi i)] [] n K I F c z) : Ok η l M_law (lq η L xs) 1225 [(0, qr 1), (1, qr 2), (2, qr 85), (3, qi i)] [] n K I F c z := by
  have hN1 : 100 < N := by omega
  have hk1 : k + 1 ≤ 512 := by omega
  have hk0 : k ≤ 512 := by omega
  obtain ⟨hb1, hb2, hb3, hb4⟩ := hb
  obtain ⟨R, C, A, lk, U, S, hS, h⟩ := hI.ex
  have k2 : (K 2).1 = 11 := by rw [cwK_2 h.a.c]
  obtain ⟨v, n', K', J, F', c', z', J', hx, hy, ⟨h2, hr⟩, hst⟩ := e_play (N := N) (x := (ls_y xs (i + 1))) h hN
  have hF := yIv.nxA hI h2 (by clear h h2; omega) hst hr
  have k85 : (K' 85).1 = 12 := by rw [mwK_85 h2.a.m]
  have hc0 : c + c' ≤ M_law.2.2.2.2.1.cells := hF.rc hk1
  have hz0 : z + z' ≤ M_law.2.2.2.2.1.slots := hF.rz
  have hc1 : c + c' + 0 ≤ M_law.2.2.2.2.1.cells := hF.rc hk1
  have hz1 : z + z' + 0 ≤ M_law.2.2.2.2.1.slots := hF.rz
  refine ok_aload_n (G := True) (q := 1226) 1 dL_law_1225 rfl rfl rfl ?_ trivial
  refine ok_aload_n (q := 1227) 0 dL_law_1226 rfl rfl rfl ?_
  refine ok_iload_n (q := 1228) 3 dL_law_1227 rfl rfl rfl ?_
  refine ok_iconst (q := 1229) (x := 1) dL_law_1228 rfl rfl (by decide) ?_
  refine ok_iadd (q := 1230) dL_law_1229 rfl hb1.1 ?_
  refine ok_iaload (q := 1231) (v := ls_y xs (i + 1)) dL_law_1230 rfl hs.1 hb1.2.1 (hs.lt hb1.2.2) (hs.2.2 _ hb1.2.1 hb1.2.2) ?_
  refine fun _ => ?_
  have hct1 := ct_X11_play (η := η) (l := l) (N := N) k2 hx
  refine ok_callV (mc := c') (ms := z') (q := 1234) (as := [qi (ls_y xs (i + 1))]) (st := []) dL_law_1231 rfl mo_L_179 k2 rfl (Nat.le_of_ble_eq_true rfl) rfl rfl (Nat.le_of_ble_eq_true rfl) (Nat.le_of_ble_eq_true rfl) (Nat.le_of_ble_eq_true rfl) hc0 hz0 hct1 (fun v' n'' K'' I'' F'' hp => ?_)
  obtain ⟨rfl, rfl, rfl, rfl, rfl⟩ := hp
  refine ok_scr (fun hs2 => ?_)
  refine ok_aload_n (G := True) (q := 1235) 2 dL_law_1234 rfl rfl rfl ?_ trivial
  refine ok_aload_n (q := 1236) 0 dL_law_1235 rfl rfl rfl ?_
  refine ok_iload_n (q := 1237) 3 dL_law_1236 rfl rfl rfl ?_
  refine ok_iconst (q := 1238) (x := 1) dL_law_1237 rfl rfl (by decide) ?_
  refine ok_iadd (q := 1239) dL_law_1238 rfl hb1.1 ?_
  refine ok_iaload (q := 1240) (v := ls_y xs (i + 1)) dL_law_1239 rfl hs2.1 hb1.2.1 (hs2.lt hb1.2.2) (hs2.2.2 _ hb1.2.1 hb1.2.2) ?_
  refine fun _ => ok_callV (mc := 0) (ms := 0) (q := 1243) (as := [qi (ls_y xs (i + 1))]) (st := [qi v]) dL_law_1240 rfl mo_L_182 k85 rfl (Nat.le_of_ble_eq_true rfl) rfl rfl (Nat.le_of_ble_eq_true rfl) (Nat.le_of_ble_eq_true rfl) (Nat.le_of_ble_eq_true rfl) hc1 hz1 (ct_X12_play (N := N) k85 hy) (fun v' n'' K'' I'' F'' hp => ?_)
  obtain ⟨rfl, rfl, rfl, rfl, rfl⟩ := hp
  exact ok_icmp_eq (q := 1275) (q2 := 1246) (x := v) (y := v) (t1 := some ()) (t2 := none) (r0 := ()) dL_law_1243 rfl rfl (fun _ => kk _ _ _ _ _ _ hF) (fun g => by cases g) (if_pos rfl)
theorem lc_status (hI : yIv n K F I c z k) (hs : ySc L xs K I) (hb : li_b L i) (hk : k ≤ 511) (hN : 2000000 < N) (kk : ∀ n K F I c z, yIv n K F I c z (k + 1) → Ok η l M_law (lq η L xs) 1275 [(0, qr 1), (1, qr 2), (2, qr 85), (3, qi i)] [] n K I F c z) : Ok η l M_law (lq η L xs) 1248 [(0, qr 1), (1, qr 2), (2, qr 85), (3, qi i)] [] n K I F c z := by
  have hN1 : 100 < N := by omega
  have hk1 : k + 1 ≤ 512 := by omega
  have hk0 : k ≤ 512 := by omega
  obtain ⟨hb1, hb2, hb3, hb4⟩ := hb
  obtain ⟨R, C, A, lk, U, S, hS, h⟩ := hI.ex
  have k2 : (K 2).1 = 11 := by rw [cwK_2 h.a.c]
  have k85 : (K 85).1 = 12 := by rw [mwK_85 h.a.m]
  have hc0 := hI.rc hk0
  have hz0 := hI.rz
  have hc1 := hc0
  have hz1 := hz0
  obtain ⟨v, hx, hy⟩ : ∃ v, X11_status N K F I 2 = some v ∧ X12_status N K F I 85 = some v := ⟨I 2 9, rfl, by rw [hI.st]; rfl⟩
  have hF := yIv.nx (J := I) hI h (by clear h; omega) hI.st
  refine ok_aload_n (G := True) (q := 1249) 1 dL_law_1248 rfl rfl rfl ?_ trivial
  refine fun _ => ok_callV (q := 1252) (as := []) (st := []) dL_law_1249 rfl mo_L_183 k2 rfl (Nat.le_of_ble_eq_true rfl) rfl rfl (Nat.le_of_ble_eq_true rfl) (Nat.le_of_ble_eq_true rfl) (Nat.le_of_ble_eq_true rfl) hc0 hz0 (ct_X11_status (N := N) k2 hx) (fun v' n'' K'' I'' F'' hp => ?_)
  obtain ⟨rfl, rfl, rfl, rfl, rfl⟩ := hp
  refine ok_scr (fun hs2 => ?_)
  refine ok_aload_n (G := True) (q := 1253) 2 dL_law_1252 rfl rfl rfl ?_ trivial
  refine fun _ => ok_callV (q := 1256) (as := []) (st := [qi v]) dL_law_1253 rfl mo_L_186 k85 rfl (Nat.le_of_ble_eq_true rfl) rfl rfl (Nat.le_of_ble_eq_true rfl) (Nat.le_of_ble_eq_true rfl) (Nat.le_of_ble_eq_true rfl) hc1 hz1 (ct_X12_status (N := N) k85 hy) (fun v' n'' K'' I'' F'' hp => ?_)
  obtain ⟨rfl, rfl, rfl, rfl, rfl⟩ := hp
  exact ok_icmp_eq (q := 1275) (q2 := 1259) (x := v) (y := v) (t1 := some ()) (t2 := none) (r0 := ()) dL_law_1256 rfl rfl (fun _ => kk _ _ _ _ _ _ hF) (fun g => by cases g) (if_pos rfl)
theorem lc_digest (hI : yIv n K F I c z k) (hs : ySc L xs K I) (hb : li_b L i) (hk : k ≤ 511) (hN : 2000000 < N) (kk : ∀ n K F I c z, yIv n K F I c z (k + 1) → Ok η l M_law (lq η L xs) 1275 [(0, qr 1), (1, qr 2), (2, qr 85), (3, qi i)] [] n K I F c z) : Ok η l M_law (lq η L xs) 1261 [(0, qr 1), (1, qr 2), (2, qr 85), (3, qi i)] [] n K I F c z := by
  have hN1 : 100 < N := by omega
  have hk1 : k + 1 ≤ 512 := by omega
  have hk0 : k ≤ 512 := by omega
  obtain ⟨hb1, hb2, hb3, hb4⟩ := hb
  obtain ⟨R, C, A, lk, U, S, hS, h⟩ := hI.ex
  have k2 : (K 2).1 = 11 := by rw [cwK_2 h.a.c]
  have k85 : (K 85).1 = 12 := by rw [mwK_85 h.a.m]
  have hc0 := hI.rc hk0
  have hz0 := hI.rz
  have hc1 := hc0
  have hz1 := hz0
  obtain ⟨v, J, J', hx, hy, h2, hst⟩ := e_digest (N := N)  h hN hI.st
  have hF := yIv.nx hI h2 (by clear h h2; omega) hst
  refine ok_aload_n (G := True) (q := 1262) 1 dL_law_1261 rfl rfl rfl ?_ trivial
  refine fun _ => ok_callV (q := 1265) (as := []) (st := []) dL_law_1262 rfl mo_L_187 k2 rfl (Nat.le_of_ble_eq_true rfl) rfl rfl (Nat.le_of_ble_eq_true rfl) (Nat.le_of_ble_eq_true rfl) (Nat.le_of_ble_eq_true rfl) hc0 hz0 (ct_X11_digest (N := N) k2 hx) (fun v' n'' K'' I'' F'' hp => ?_)
  obtain ⟨rfl, rfl, rfl, rfl, rfl⟩ := hp
  refine ok_scr (fun hs2 => ?_)
  refine ok_aload_n (G := True) (q := 1266) 2 dL_law_1265 rfl rfl rfl ?_ trivial
  refine fun _ => ok_callV (q := 1269) (as := []) (st := [ql v]) dL_law_1266 rfl mo_L_190 k85 rfl (Nat.le_of_ble_eq_true rfl) rfl rfl (Nat.le_of_ble_eq_true rfl) (Nat.le_of_ble_eq_true rfl) (Nat.le_of_ble_eq_true rfl) hc1 hz1 (ct_X12_digest (N := N) k85 hy) (fun v' n'' K'' I'' F'' hp => ?_)
  obtain ⟨rfl, rfl, rfl, rfl, rfl⟩ := hp
  refine ok_lcmp (G := True) (q := 1270) dL_law_1269 rfl ?_ trivial
  exact fun _ => ok_if_eq (q := 1275) (q2 := 1273) (x := am_cmp v v) (t1 := some ()) (t2 := none) (r0 := ()) dL_law_1270 rfl rfl (fun _ => kk _ _ _ _ _ _ hF) (fun g => by cases g) (if_pos (am_cmp_v v))
end LAWC
