-- THE LAW FROM ITS ENTRY
section LAWS
variable {η : am_E} {l : Launch} {L : Nat} {xs : Nat → Int32}
theorem ok_newD {M : am_M} {Q : am_QM} {pc q : Nat} {ls : am_L} {st : List am_V} {n : Nat} {K : am_K} {I : am_I} {F : am_F} {c z : Nat} {idx ci N p1 p2 p3 : Nat} (hd : decode M.2.1 pc = .ok (.new idx, 3)) (hq : pc + 3 = q) (hf : am_nok M.1 idx ci N p1 p2 p3 = true) (hc : c + 1 ≤ M.2.2.2.2.1.cells) (hs : z + N ≤ M.2.2.2.2.1.slots)
    (kk : Ok η l M Q q ls (qr n :: st) (n + 1) (am_u1 K n (ci, 0)) (am_zr I n 0) (am_zr F n 0) (c + 1) (z + N)) : Ok η l M Q pc ls st n K I F c z := by
  refine ok_new (f := fun I' F' => @ite _ (I' = am_zr I n 0 ∧ F' = am_zr F n 0) (Classical.propDecidable _) (some ()) none) (r0 := ()) hd hq hf hc hs (fun I' F' g => ?_) ?_
  · by_cases h : I' = am_zr I n 0 ∧ F' = am_zr F n 0
    · rw [h.1, h.2]; exact kk
    · rw [if_neg h] at g
      cases g
  · unfold am_lt
    dsimp only
    rw [if_pos ⟨rfl, rfl⟩]
theorem st_facts (L : Nat) : fX12 (am_zr fC 85 0) 59 2 = 60 ∧ fX12 (am_zr fC 85 0) 59 3 = 61 ∧ fX12 (am_zr fC 85 0) 62 4 = 68 ∧ fX12 (am_zr fC 85 0) 63 1 = 65 ∧ fX12 (am_zr fC 85 0) 63 2 = 66 ∧ kX12 (K2z L) 60 = (100, 16) ∧ kX12 (K2z L) 61 = (100, 544) ∧ kX12 (K2z L) 68 = (100, 0) ∧ kX12 (K2z L) 66 = (100, 0) := by
  have hK : ∀ a v, a < 85 → kX11 (am_u1 (K0z L) 2 (11, 0)) a = v → kX12 (K2z L) a = v := fun a v h e => by rw [kM_up a (by omega)]; unfold K2z; rw [am_u1_n (by omega)]; exact e
  have hF : ∀ a j v, a < 85 → fC a j = v → fX12 (am_zr fC 85 0) a j = v := fun a j v h e => by rw [fM_up a j h, am_zr_a (by omega)]; exact e
  obtain ⟨v1, v2, v3, v4, v5, v6, v7, v8, v9, -⟩ := fC_v
  obtain ⟨w60, w61, w68, w69, w70, w71, w64, w65, w66, -⟩ := kC_v (K := am_u1 (K0z L) 2 (11, 0))
  exact ⟨hF _ _ _ (by decide) v1, hF _ _ _ (by decide) v2, hF _ _ _ (by decide) v3, hF _ _ _ (by decide) v8, hF _ _ _ (by decide) v9, hK _ _ (by decide) w60, hK _ _ (by decide) w61, hK _ _ (by decide) w68, hK _ _ (by decide) w66⟩
theorem lI_start {I0 J1 J2 : am_I} (l1 : lb (iX11 (am_zr I0 2 0)) J1 2 3 6) (l2 : mf (iX12 (am_zr J1 85 0)) J2 2 3 6) : yIv 109 (kX12 (K2z L)) (fX12 (am_zr fC 85 0)) J2 107 759647 0 := by
  obtain ⟨f1, f2, f3, f4, f5, k1, k2, k3, k4⟩ := st_facts L
  have hA := rA_init L
  have h3 : ∀ b, b < 85 → iX12 (am_zr J1 85 0) b = J1 b := fun b hb => by
    rw [iM_up b (by omega)]
    funext j
    rw [am_zr_a (by omega)]
  have e85 : J2 85 15 = 0 := by rw [l2.2.2.2.2.2.2.2 15 (by decide) (by decide) (by decide) (by decide) (by decide) (by decide) (by decide), iM_up 85 (by decide), am_zr_s]
  have e2 : J2 2 9 = 0 := by rw [l2.2.2.2.2.2.2.1 2 (by decide), h3 2 (by decide)]; exact l1.2.2.2.2.2.2.2.2.2.2.1
  have hr := rel_init (x := 2) (y := 3) (z := 6) ⟨Or.inl ⟨rfl, rfl⟩, by decide, by decide⟩ hA (by rw [f1, k1]) (by rw [f1, f2, k1, k2]; rfl) (by rw [f1, k1]; decide) (by rw [f1, k1]; decide) (gwr_ok iC_57) l1 l2 h3 f4 iC_65
  refine ⟨by rw [e2, e85], ⟨2, 3, 6, _, _, 0, by decide, hr⟩, ?_, ?_⟩
  · rw [f1, k1]; decide
  · unfold pzP pzV pzE
    rw [f1, f3, f5, k1, k3, k4]; decide
theorem law_ok {I0 : am_I} (hL : L ≤ 2560) : Ok η l M_law (lq η L xs) 0 [(0, qr 1)] [] 2 (K0z L) I0 F0z 0 0 := by
  obtain ⟨N, hN⟩ : ∃ N : Nat, 2000000 < N := ⟨2000001, by omega⟩
  obtain ⟨J1, e1, l1⟩ := eX11 (N := N) (K := am_u1 (K0z L) 2 (11, 0)) (I := am_zr I0 2 0) (by omega) rfl
  obtain ⟨J2, e2, l2⟩ := eX12 (N := N) (K := K2z L) (I := am_zr J1 85 0) (F := am_zr fC 85 0) (by omega) rfl
  have hI := lI_start (L := L) l1 l2
  have k2 : (am_u1 (K0z L) 2 (11, 0) 2).1 = 11 := rfl
  have k85 : (K2z L 85).1 = 12 := rfl
  refine ok_newD (q := 3) (ci := 11) (N := 10) dL_law_0 rfl nw_L_7 (Nat.le_of_ble_eq_true rfl) (Nat.le_of_ble_eq_true rfl) ?_
  refine ok_dup (G := True) (q := 4) dL_law_3 rfl rfl ?_ trivial
  have hct1 := ct_X11_init (η := η) (l := l) (N := N) k2 e1
  refine fun _ => ok_callI (mc := 82) (ms := 3396) (q := 7) (as := []) (st := [qr 2]) dL_law_4 rfl mo_L_9 (by decide) rfl rfl (Nat.le_of_ble_eq_true rfl) (Nat.le_of_ble_eq_true rfl) (Nat.le_of_ble_eq_true rfl) (Nat.le_of_ble_eq_true rfl) (Nat.le_of_ble_eq_true rfl) hct1 (fun v' n'' K'' I'' F'' hp => ?_)
  obtain ⟨rfl, rfl, rfl, rfl, rfl⟩ := hp
  refine ok_astore_n (G := True) (q := 8) (ls' := [(1, qr 2), (0, qr 1)]) dL_law_7 rfl rfl (Nat.le_of_ble_eq_true rfl) rfl ?_ trivial
  refine fun _ => ok_newD (q := 11) (ci := 12) (N := 46) dL_law_8 rfl nw_L_10 (Nat.le_of_ble_eq_true rfl) (Nat.le_of_ble_eq_true rfl) ?_
  refine ok_dup (G := True) (q := 12) dL_law_11 rfl rfl ?_ trivial
  have hct2 := ct_X12_init (η := η) (l := l) (N := N) k85 e2
  refine fun _ => ok_callI (mc := 23) (ms := 756195) (q := 15) (as := []) (st := [qr 85]) dL_law_12 rfl mo_L_12 (show (85 : Nat) ≠ 0 by decide) rfl rfl (Nat.le_of_ble_eq_true rfl) (Nat.le_of_ble_eq_true rfl) (Nat.le_of_ble_eq_true rfl) (Nat.le_of_ble_eq_true rfl) (Nat.le_of_ble_eq_true rfl) hct2 (fun v' n'' K'' I'' F'' hp => ?_)
  obtain ⟨rfl, rfl, rfl, rfl, rfl⟩ := hp
  refine ok_astore_n (G := True) (q := 16) (ls' := [(2, qr 85), (1, qr 2), (0, qr 1)]) dL_law_15 rfl rfl (Nat.le_of_ble_eq_true rfl) rfl ?_ trivial
  refine ok_iconst (q := 17) (x := 0) dL_law_16 rfl rfl (by decide) ?_
  refine ok_istore_n (q := 18) (ls' := [(3, qi 0), (2, qr 85), (1, qr 2), (0, qr 1)]) dL_law_17 rfl rfl (Nat.le_of_ble_eq_true rfl) rfl ?_
  exact fun _ => ok_pick (ls' := [(0, qr 1), (1, qr 2), (2, qr 85), (3, qi 0)]) [3, 2, 1, 0] rfl (law_loop hL hN L 0 109 (kX12 (K2z L)) (fX12 (am_zr fC 85 0)) _ 107 759647 (by omega) (by omega) hI)
end LAWS
