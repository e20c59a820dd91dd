-- PLAYING: the players' choice, both sides
section CHOOSE
variable {N n n' : Nat} {K K' : am_K} {F F' : am_F} {I J J' M M' : am_I} {R C A : Int} {lk U : Int → Int} {S x y z k p V t : Int}
theorem xmc (h : rel n K F (mix I M) R C A lk U S) (hs : sc I J) : rel n K F (mix J M) R C A lk U S := h.sc (fun b j a1 a2 a3 a4 a5 a6 a7 a8 a9 a10 a11 => by
  by_cases q : 85 ≤ b ∧ b ≤ 108
  · rw [mix_m q, mix_m q]
  · rw [mix_c q, mix_c q]; exact hs b j a1 a2 a3 a4 a5 a6 a7 a8 a9 a10 a11)
theorem xmm (h : rel n K F (mix I M) R C A lk U S) (hs : sc M M') : rel n K F (mix I M') R C A lk U S := h.sc (fun b j a1 a2 a3 a4 a5 a6 a7 a8 a9 a10 a11 => by
  by_cases q : 85 ≤ b ∧ b ≤ 108
  · rw [mix_m q, mix_m q]; exact hs b j a1 a2 a3 a4 a5 a6 a7 a8 a9 a10 a11
  · rw [mix_c q, mix_c q])
theorem xmB (h : rel n K F (mix I M) R C A lk U S) (hm : mw K' F') : mB K' F' M R C A lk U := (h.mB.kept (J := M) (fun b q => (mix_m (by omega)).symm) (fun j q => congrFun (mix_m (by omega)).symm j)).kf hm
theorem xmR (h : rel n K F (mix I M) R C A lk U S) : mR M R C A lk U := h.mR.kept (fun b q => (mix_m (by omega)).symm) (fun j q => congrFun (mix_m (by omega)).symm j)
theorem xm5 (h : rel n K F (mix I M) R C A lk U S) : I 16 2 = M 85 5 ∧ (M 85 5 = 0 ∨ M 85 5 = 1) ∧ (∀ p, 0 ≤ p → p < 32 → I 17 p = M 87 p) ∧ I 59 0 = M 85 37 := by
  refine ⟨?_, ?_, fun p p0 p1 => ?_, ?_⟩
  · have := h.p.w; rw [mix_c (by decide), mix_m (by decide)] at this; exact this
  · have := h.p.w1; rw [mix_m (by decide)] at this; exact this
  · have := h.p.e p p0 p1; rw [mix_c (by decide), mix_m (by decide)] at this; exact this
  · have := h.h.a; rw [mix_c (by decide), mix_m (by decide)] at this; exact this
theorem xmg (h : rel n K F (mix I M) R C A lk U S) : cB K F I R C A lk U (K (F 62 4)).2 := h.cB.kept (fun b q => (mix_c (by omega)).symm)
/-- the model's choice, as far as the first pit that is open -/
theorem m_chosen0 (hm : mw K F) (hR : mR M R C A lk U) (hN : 2000000 < N) (hp : 0 < gm_sm (gm_al A C lk U (M 87) (M 85 5)) A.toNat) : ∃ J1 kk, ms M J1 ∧ (∀ p, 0 ≤ p → p < A → J1 103 p = gm_al A C lk U (M 87) (M 85 5) p) ∧ X12_chosen N K F 85 M = X12_chosen_s29 N K F 85 kk J1 (gm_sm (gm_al A C lk U (M 87) (M 85 5)) A.toNat) (M 107 (M 85 5)) (gm_sel (gm_al A C lk U (M 87) (M 85 5)) A.toNat 0) := by
  have hA := hR.1.A
  have w1 := hR.2.2.2.2.2.2
  obtain ⟨J1, f1, f2, f3⟩ := m_allowed_R hm hR hN
  obtain ⟨q0, q1, q2, q3⟩ := gm_sel_ok (gm_al_01 A C lk U (M 87) (M 85 5)) A.toNat 0 (Int.le_refl _) hp
  have r5 : J1 85 5 = M 85 5 := f2.fld (by omega)
  have r107 : J1 107 = M 107 := f2.row (by decide) (by decide) (by decide)
  obtain ⟨kk, e⟩ := m_first (N := N) hm hA (gm_al_01 A C lk U (M 87) (M 85 5)) f3 hp (gm_sm (gm_al A C lk U (M 87) (M 85 5)) A.toNat) (M 107 (M 85 5)) (gm_sel (gm_al A C lk U (M 87) (M 85 5)) A.toNat 0).toNat N 0 (by omega) (by omega) (by omega)
  refine ⟨J1, kk, f2, f3, ?_⟩
  rw [← e]
  unfold X12_chosen am_lt
  dsimp only
  rw [mwF_85_3 hm, mwF_85_35 hm, f1, am_cl_s, mwF_85_44 hm, mwK_107 hm, if_pos (show ((100, 2) : Nat × Int).1 = 100 from rfl), r5, if_pos (show 0 ≤ M 85 5 ∧ M 85 5 < 2 by omega), r107]
/-- the place of the position -/
theorem xmk (h : rel n K F (mix I M) R C A lk U S) (h12 : gm_tot A (M 87) ≤ 12) : 0 ≤ 2 * gm_nu A lk (M 87) + M 85 5 ∧ gp_top A lk (gm_tot A (M 87) - 1) ≤ 2 * gm_nu A lk (M 87) + M 85 5 ∧ 2 * gm_nu A lk (M 87) + M 85 5 < gp_top A lk (gm_tot A (M 87)) ∧ (∀ p, 0 ≤ p → p < A → gp_al A C lk U (2 * gm_nu A lk (M 87) + M 85 5) p = gm_al A C lk U (M 87) (M 85 5) p) := by
  have hA := h.g.m.A
  have hR := xmR h
  have st := hR.2.2.2.2.2.1
  have w1 := hR.2.2.2.2.2.2
  have nb := gm_nu_b (by omega) st
  have nn := gW_nn (gm_L A lk + 1) (gm_tot A (M 87) - 1)
  have bd := (gm_bd2_nu (by omega) st h12).2
  refine ⟨by omega, by unfold gp_top; omega, by unfold gp_top; omega, fun p p0 p1 => ?_⟩
  unfold gp_al gp_b
  rw [show (2 * gm_nu A lk (M 87) + M 85 5) / 2 = gm_nu A lk (M 87) by omega, show (2 * gm_nu A lk (M 87) + M 85 5) % 2 = M 85 5 by omega]
  exact (bd.symm.al h.g.m.g st p0 p1).symm
theorem cm_choose (h : rel n K F (mix I M) R C A lk U S) (hN : 2000000 < N) (hm' : mw K' F') (hop : ∀ p, 0 ≤ p → p < A → I 20 p = gm_al A C lk U (M 87) (M 85 5) p) (hkt : ∀ p, 0 ≤ p → p < A → gm_al A C lk U (M 87) (M 85 5) p = 1 → I 21 p = gm_tot A (M 87) - gm_tot A (gm_mv A C lk (U 6) (U 7) (U 8) (U 9) (M 87) (M 85 5) p).1) (h193 : I 19 3 = gm_sm (gm_al A C lk U (M 87) (M 85 5)) A.toNat) (hp : 0 < gm_sm (gm_al A C lk U (M 87) (M 85 5)) A.toNat) :
    ∃ q J M', X11_choosePit N K F 2 I = some (q, J) ∧ (0 ≤ q ∧ q < A) ∧ gm_al A C lk U (M 87) (M 85 5) q = 1 ∧ (∀ b, b ≠ 83 → b ≠ 84 → J b = I b) ∧ X12_chosen N K' F' 85 M = some (q, M') ∧ rel n K F (mix J M') R C A lk U S ∧ (∀ b, b ≠ 85 → b ≠ 91 → b ≠ 92 → b ≠ 103 → b ≠ 108 → M' b = M b) ∧ (∀ j, j < 17 ∨ 19 < j → M' 85 j = M 85 j) := by
  have hc := h.a.c
  have hA := h.g.m.A
  have hL := h.g.n
  have hg := h.g.m.g
  have hR := xmR h
  have hB := xmB h hm'
  obtain ⟨x16, w1, x17, x59⟩ := xm5 h
  have h01 := gm_al_01 A C lk U (M 87) (M 85 5)
  have hcB := xmg h
  have h32 : I 3 2 = A := hcB.g.2.1.2.2.1
  have smb := gm_sm_b (g := gm_al A C lk U (M 87) (M 85 5)) (B := 1) (d := A.toNat) (fun i _ _ => by rcases h01 i with w | w <;> omega)
  obtain ⟨J1, kk, f1, f2, f3⟩ := m_chosen0 (N := N) hm' hR hN hp
  obtain ⟨q0, q1, q2, q3⟩ := gm_sel_ok h01 A.toNat 0 (Int.le_refl _) hp
  have oc := c_openAt (N := N) (I := I) hc (by omega) hA h32 h01 hop (Int.le_refl 0) hp
  have r5 : J1 85 5 = M 85 5 := f1.fld (by omega)
  have msf : ∀ M', ms M M' → (∀ b, b ≠ 85 → b ≠ 91 → b ≠ 92 → b ≠ 103 → b ≠ 108 → M' b = M b) ∧ (∀ j, j < 17 ∨ 19 < j → M' 85 j = M 85 j) := fun M' hs => ⟨fun b a1 a2 a3 a4 a5 => hs.row a2 a4 a1, fun j q => hs.fld q⟩
  obtain ⟨P, hP, hK, hP2⟩ : ∃ P : Nat, F 82 (M 85 5) = P ∧ K P = (5, 0) ∧ ((P = 83 ∧ M 85 5 = 0) ∨ (P = 84 ∧ M 85 5 = 1)) := by
    rcases w1 with w | w
    · exact ⟨83, by rw [w]; exact cwF_82_0 hc, cwK_83 hc, Or.inl ⟨rfl, w⟩⟩
    · exact ⟨84, by rw [w]; exact cwF_82_1 hc, cwK_84 hc, Or.inr ⟨rfl, w⟩⟩
  have hkd : I P 0 = M 107 (M 85 5) := by
    rcases hP2 with ⟨a, b⟩ | ⟨a, b⟩
    · have := h.v.a.1; rw [mix_c (by decide), mix_m (by decide)] at this; rw [a, b]; exact this
    · have := h.v.b.1; rw [mix_c (by decide), mix_m (by decide)] at this; rw [a, b]; exact this
  have hxx : M 107 (M 85 5) = 3 → I P 1 = M 108 (M 85 5) := by
    rcases hP2 with ⟨a, b⟩ | ⟨a, b⟩
    · have := h.v.x; rw [mix_m (by decide), mix_c (by decide), mix_m (by decide)] at this; rw [a, b]; exact this
    · have := h.v.y; rw [mix_m (by decide), mix_c (by decide), mix_m (by decide)] at this; rw [a, b]; exact this
  have e0 : X11_choosePit N K F 2 I = if I P 0 = 1 then (am_cq (X10_openTakingMost N K F I 19) (fun v_8 => some (v_8, I))) else (if I P 0 = 2 then (am_cq (X10_openAt N K F I 19 0) (fun v_11 => am_cq (X11_bestPitOr N K F I 2 v_11) (fun v_12 => some (v_12, I)))) else (if I P 0 = 3 then (am_cl (X5_nextBelow N K F P I (I 19 3)) (fun v_15 I_16 => am_cq (X10_openAt N K F I_16 19 v_15) (fun v_17 => some (v_17, I_16)))) else (am_cq (X10_openAt N K F I 19 0) (fun v_19 => some (v_19, I))))) := by
    unfold X11_choosePit am_lt
    dsimp only
    rw [cwF_2_2 hc, cwK_16 hc, if_pos (show ((6, 0) : Nat × Int).1 = 6 from rfl), cwF_2_8 hc, cwK_82 hc, if_pos (show ((104, 2) : Nat × Int).1 = 104 from rfl), x16, if_pos (show 0 ≤ M 85 5 ∧ M 85 5 < 2 by omega), hP, hK, if_pos (show ((5, 0) : Nat × Int).1 = 5 from rfl), cwF_2_3 hc, cwK_19 hc, if_pos (show ((10, 0) : Nat × Int).1 = 10 from rfl), if_pos (show ((10, 0) : Nat × Int).1 = 10 from rfl), if_pos (show ((10, 0) : Nat × Int).1 = 10 from rfl), if_pos (show ((10, 0) : Nat × Int).1 = 10 from rfl)]
  have m0 : X12_chosen_s29 N K' F' 85 kk J1 (gm_sm (gm_al A C lk U (M 87) (M 85 5)) A.toNat) (M 107 (M 85 5)) (gm_sel (gm_al A C lk U (M 87) (M 85 5)) A.toNat 0) = (if M 107 (M 85 5) = 1 then (X12_chosen_h58 N K' F' 85 N J1 (-1) (gm_sel (gm_al A C lk U (M 87) (M 85 5)) A.toNat 0) (gm_sel (gm_al A C lk U (M 87) (M 85 5)) A.toNat 0)) else (if M 107 (M 85 5) = 2 then (if (J1 85 21) = 0 then (X12_chosen_b170 N K' F' 85 J1 (gm_sm (gm_al A C lk U (M 87) (M 85 5)) A.toNat) (M 107 (M 85 5)) (gm_sel (gm_al A C lk U (M 87) (M 85 5)) A.toNat 0)) else (am_cq (X12_seedsOf N K' F' J1 85 87) (fun v_3 => if v_3 < (J1 85 23) then (am_cq (X12_placeOf N K' F' J1 85 87 (J1 85 5)) (fun v_4 => if am_inI (v_4) then am_cl (X12_bestOf N K' F' 85 J1 v_4) (fun v_6 I_7 => some (v_6, I_7)) else none)) else (X12_chosen_b170 N K' F' 85 J1 (gm_sm (gm_al A C lk U (M 87) (M 85 5)) A.toNat) (M 107 (M 85 5)) (gm_sel (gm_al A C lk U (M 87) (M 85 5)) A.toNat 0))))) else (X12_chosen_b170 N K' F' 85 J1 (gm_sm (gm_al A C lk U (M 87) (M 85 5)) A.toNat) (M 107 (M 85 5)) (gm_sel (gm_al A C lk U (M 87) (M 85 5)) A.toNat 0)))) := by
    unfold X12_chosen_s29
    rw [mwF_85_35 hm', mwK_103 hm', if_pos (show ((101, 32) : Nat × Int).1 = 101 from rfl), if_pos (show 0 ≤ gm_sel (gm_al A C lk U (M 87) (M 85 5)) A.toNat 0 ∧ gm_sel (gm_al A C lk U (M 87) (M 85 5)) A.toNat 0 < 32 by omega), f2 _ q0 (by omega), q2, if_neg (by decide), mwF_85_3 hm']
  rw [m0] at f3
  rw [hkd] at e0
  generalize hkk : M 107 (M 85 5) = kd at *
  by_cases k1 : kd = 1
  · rw [if_pos k1] at e0 f3
    obtain ⟨q, c1, c2⟩ := c_most (N := N) (I := I) (t := fun p => gm_tot A (M 87) - gm_tot A (gm_mv A C lk (U 6) (U 7) (U 8) (U 9) (M 87) (M 85 5) p).1) hc (by omega) hA h32 h01 hop hkt hp
    obtain ⟨q', M', d1, d2, d3⟩ := m_most (N := N) (I := M) hm' hR hN (g := gm_al A C lk U (M 87) (M 85 5)) (t := fun p => gm_tot A (M 87) - gm_tot A (gm_mv A C lk (U 6) (U 7) (U 8) (U 9) (M 87) (M 85 5) p).1) h01 (fun _ _ _ => rfl) (fun _ => rfl) hp (A - gm_sel (gm_al A C lk U (M 87) (M 85 5)) A.toNat 0).toNat N J1 (gm_sel (gm_al A C lk U (M 87) (M 85 5)) A.toNat 0) (-1) (gm_sel (gm_al A C lk U (M 87) (M 85 5)) A.toNat 0) (by omega) (by omega) q0 f1 f2 (Or.inl ⟨rfl, rfl, Int.le_refl _⟩)
    have eq := c2.uniq d2
    rw [← eq] at d1
    rw [c1, am_cq_s] at e0
    rw [d1] at f3
    exact ⟨q, I, M', e0, c2.1, c2.2.1, fun _ _ _ => rfl, f3, xmm h d3.sc, msf M' d3⟩
  · rw [if_neg k1] at e0 f3
    by_cases k2 : kd = 2
    · rw [if_pos k2, oc, am_cq_s] at e0
      rw [if_pos k2] at f3
      have b170 : X12_chosen_b170 N K' F' 85 J1 (gm_sm (gm_al A C lk U (M 87) (M 85 5)) A.toNat) kd (gm_sel (gm_al A C lk U (M 87) (M 85 5)) A.toNat 0) = some (gm_sel (gm_al A C lk U (M 87) (M 85 5)) A.toNat 0, J1) := by
        unfold X12_chosen_b170; rw [if_neg (by omega)]
      have r21 : J1 85 21 = M 85 21 := f1.fld (by omega)
      have r23 : J1 85 23 = M 85 23 := f1.fld (by omega)
      have r87 : J1 87 = M 87 := f1.row (by decide) (by decide) (by decide)
      have x62 : I 62 1 = M 85 21 := by have := h.q.b; rw [mix_c (by decide), mix_m (by decide)] at this; exact this
      rw [r21, b170] at f3
      have st := hR.2.2.2.2.2.1
      have eq17 : gm_eq A (I 17) (M 87) := fun p a b => x17 p a (by omega)
      have st17 : gm_st A lk (I 17) := eq17.symm.st st
      by_cases on : M 85 21 = 0
      · rw [if_pos on] at f3
        have cb : X11_bestPitOr N K F I 2 (gm_sel (gm_al A C lk U (M 87) (M 85 5)) A.toNat 0) = some (gm_sel (gm_al A C lk U (M 87) (M 85 5)) A.toNat 0) := by
          unfold X11_bestPitOr X11_bestPitOr_b29
          rw [cwF_2_6 hc, cwK_62 hc, if_pos (show ((9, 0) : Nat × Int).1 = 9 from rfl), if_pos (by omega)]
        rw [cb, am_cq_s] at e0
        exact ⟨_, I, J1, e0, ⟨q0, by omega⟩, q2, fun _ _ _ => rfl, f3, xmm h f1.sc, msf J1 f1⟩
      · rw [if_neg on] at f3
        have on' : (mix I M) 85 21 ≠ 0 := by rw [mix_m (by decide)]; exact on
        have qq := h.on on'
        have y22 := qq.m
        have y := qq.y
        have vv := h.V qq
        have s3 := qq.s
        rw [mix_m (by decide)] at y
        rw [mix_m (by decide)] at y22 vv
        rw [mix_c (by decide), mix_m (by decide)] at s3
        have so := m_seedsOf (N := N) (K := K') (F := F') (I := J1) (hR.1.ms f1) (a1 := 87) (mwK_87 hm') (by rw [r87]; exact st.bd) (by omega)
        rw [r87] at so
        have so' : X12_seedsOf N K' F' J1 85 87 = some (gm_tot A (M 87)) := so
        rw [so', am_cq_s, r23, r5] at f3
        have sI := c_seedsIn (N := N) (I := I) hc hcB.g (by omega) (cwK_17 hc) st17.bd
        rw [eq17.tot] at sI
        by_cases lt : gm_tot A (M 87) < M 85 23
        · rw [if_pos lt] at f3
          have t12 : gm_tot A (M 87) ≤ 12 := by omega
          obtain ⟨kp0, kp1, kp2, kp3⟩ := xmk h t12
          have kin : 2 * gm_nu A lk (M 87) + M 85 5 < gp_top A lk (M 85 23 - 1) := by
            have := gp_top_mono (A := A) (lk := lk) (by omega) (show gm_tot A (M 87) ≤ M 85 23 - 1 by omega)
            omega
          have ts := gp_top_mono (A := A) (lk := lk) (by omega) (show M 85 23 - 1 ≤ M 85 22 by omega)
          have be := h.cbest' (N := N) (J := I) (k := 2 * gm_nu A lk (M 87) + M 85 5) (by omega) on' kp0 (by rw [mix_m (by decide)]; exact kin) (fun r o => (mix_c (by unfold vok at o; omega)).symm)
          rw [mix_m (by decide), mix_m (by decide)] at be
          have nu := c_numberOf (N := N) (I := I) hc hcB.w hcB.g hcB.l (by omega) (cwK_17 hc) st17 (by rw [eq17.tot]; exact t12)
          rw [eq17.nu] at nu
          have pl := m_placeOf (N := N) (I := J1) hm' (hR.1.ms f1) (by omega) (mwK_87 hm') (by rw [(hB.sm f1).l, r87]; exact st) (by rw [r87]; exact t12) w1
          rw [(hB.sm f1).l, r87] at pl
          have hb1 := hB.sm f1
          have r93 : J1 93 = M 93 := f1.row (by decide) (by decide) (by decide)
          have r94 : J1 94 = M 94 := f1.row (by decide) (by decide) (by decide)
          have qv := qq.v
          rw [mix_m (b := 85) (by decide), mix_m (b := 93) (by decide), mix_m (b := 94) (by decide)] at qv
          have m12 := gp_top_mono (A := A) (lk := lk) (by omega) (show M 85 23 - 1 ≤ 12 by omega)
          obtain ⟨M', g1, g2, g3⟩ := m_bestOf (N := N) (I := J1) hb1 hN (t := M 85 23 - 1) kp0 kin (by omega) (by omega) (fun j a b => by
            have e := qv j a b
            have l := gp_ly_b (A := A) (lk := lk) (by omega) a (show j < gp_top A lk 12 by omega)
            unfold gp_ly at l
            rw [r93]
            omega)
          rw [r93, r94] at g1
          -- a best move is there
          obtain ⟨p, hbp⟩ : ∃ p, gp_best A C lk U (M 93) (M 94) (2 * gm_nu A lk (M 87) + M 85 5) p := by
            have := qq.be (2 * gm_nu A lk (M 87) + M 85 5) kp0 (by rw [mix_m (by decide)]; exact kin) ⟨_, q0, by omega, by rw [kp3 _ q0 (by omega)]; exact q2⟩
            rw [mix_m (by decide), mix_m (by decide)] at this
            exact this
          obtain ⟨p0, p1, p2, p3, p4⟩ := hbp
          rcases gp_bst_v (A := A) (C := C) (lk := lk) (U := U) (v := M 93) (r := M 94) (k := 2 * gm_nu A lk (M 87) + M 85 5) (by omega) with ⟨-, none⟩ | ⟨b1, b2, b3⟩
          · exfalso
            have := none p p0 p1
            unfold gp_qb at this
            rw [decide_eq_true p2, Bool.true_and, (gp_isb_iff A C lk U (M 93) (M 94) _ p).mpr ⟨p3, p4⟩] at this
            cases this
          · have gs := h.q.gs (by have := h.q.b1; omega)
            have gg0 := h.q.g0
            rw [mix_m (by decide), mix_c (by decide)] at gs
            rw [mix_c (by decide)] at gg0
            have mt := gp_top_mono (A := A) (lk := lk) (by omega) (show M 85 23 - 1 ≤ (mix I M) 63 3 - 1 by rw [mix_c (by decide)]; omega)
            have cd := h.gR.cd (N := N) (k := 2 * gm_nu A lk (M 87) + M 85 5) kp0 (by omega) b1 b2 b3
            have c0 := cd.c0
            have cb : X11_bestPitOr N K F I 2 (gm_sel (gm_al A C lk U (M 87) (M 85 5)) A.toNat 0) = some (gp_bst A C lk U (M 93) (M 94) (2 * gm_nu A lk (M 87) + M 85 5)) := by
              have ew : am_wL (am_wL (2 * gm_nu A lk (M 87)) + M 85 5) = 2 * gm_nu A lk (M 87) + M 85 5 := by rw [nb_wL (x := 2 * gm_nu A lk (M 87)) (by omega), nb_wL (by omega)]
              unfold X11_bestPitOr X11_bestPitOr_b29 X11_bestPitOr_b99 am_lt
              dsimp only
              rw [cwF_2_6 hc, cwK_62 hc, if_pos (show ((9, 0) : Nat × Int).1 = 9 from rfl), if_neg (by omega), cwF_2_2 hc, cwK_16 hc, if_pos (show ((6, 0) : Nat × Int).1 = 6 from rfl), cwF_2_0 hc, cwK_3 hc, if_pos (show ((1, 0) : Nat × Int).1 = 1 from rfl), cwF_16_0 hc, sI, am_cq_s, if_neg (by omega), cwF_2_4 hc, cwK_56 hc, if_pos (show ((3, 0) : Nat × Int).1 = 3 from rfl), nu, am_cq_s, x16, ew, s3, if_neg (fun g => by have := (nb_cge _ _).mp g; omega), if_pos (nb_in (by omega)), be, if_neg (show ¬ gp_bst A C lk U (M 93) (M 94) (2 * gm_nu A lk (M 87) + M 85 5) < 0 by omega), am_cq_s, if_neg (show ¬ gp_cd A C lk U (2 * gm_nu A lk (M 87) + M 85 5) (gp_bst A C lk U (M 93) (M 94) (2 * gm_nu A lk (M 87) + M 85 5)) < 0 by omega), cd.p, am_cq_s]
            rw [cb, am_cq_s] at e0
            rw [pl, am_cq_s, if_pos (nb_in (by omega)), g1, am_cl_s] at f3
            refine ⟨_, I, M', e0, ⟨b1, b2⟩, by rw [← kp3 _ b1 b2]; exact b3, fun _ _ _ => rfl, f3, xmm h (f1.sc.trans (sc_of g2 g3)), fun b a1 a2 a3 a4 a5 => by rw [g2 b a3 a2 a4 a1, f1.row a2 a4 a1], fun j q => by rw [g3 j q, f1.fld q]⟩
        · rw [if_neg lt] at f3
          have cb : X11_bestPitOr N K F I 2 (gm_sel (gm_al A C lk U (M 87) (M 85 5)) A.toNat 0) = some (gm_sel (gm_al A C lk U (M 87) (M 85 5)) A.toNat 0) := by
            unfold X11_bestPitOr X11_bestPitOr_b29 am_lt
            dsimp only
            rw [cwF_2_6 hc, cwK_62 hc, if_pos (show ((9, 0) : Nat × Int).1 = 9 from rfl), if_neg (by omega), cwF_2_2 hc, cwK_16 hc, if_pos (show ((6, 0) : Nat × Int).1 = 6 from rfl), cwF_2_0 hc, cwK_3 hc, if_pos (show ((1, 0) : Nat × Int).1 = 1 from rfl), cwF_16_0 hc, sI, am_cq_s]
            by_cases t12 : 12 < gm_tot A (M 87)
            · rw [if_pos t12]
            · obtain ⟨kp0, kp1, kp2, -⟩ := xmk h (by omega)
              have nu := c_numberOf (N := N) (I := I) hc hcB.w hcB.g hcB.l (by omega) (cwK_17 hc) st17 (by rw [eq17.tot]; omega)
              rw [eq17.nu] at nu
              have ge : gp_top A lk (M 85 23 - 1) ≤ 2 * gm_nu A lk (M 87) + M 85 5 := by
                have := gp_top_mono (A := A) (lk := lk) (by omega) (show M 85 23 - 1 ≤ gm_tot A (M 87) - 1 by omega)
                omega
              have wle := gW_le (m := gm_L A lk + 1) (k := gm_tot A (M 87)) (by have := h.L; omega) (by omega)
              have ew : am_wL (am_wL (2 * gm_nu A lk (M 87)) + M 85 5) = 2 * gm_nu A lk (M 87) + M 85 5 := by
                unfold gp_top at kp2
                rw [nb_wL (x := 2 * gm_nu A lk (M 87)) (by omega), nb_wL (by omega)]
              rw [if_neg t12, cwF_2_4 hc, cwK_56 hc, if_pos (show ((3, 0) : Nat × Int).1 = 3 from rfl), nu, am_cq_s, x16, ew, s3, if_pos ((nb_cge _ _).mpr ge)]
          rw [cb, am_cq_s] at e0
          exact ⟨_, I, J1, e0, ⟨q0, by omega⟩, q2, fun _ _ _ => rfl, f3, xmm h f1.sc, msf J1 f1⟩
    · rw [if_neg k2] at e0 f3
      by_cases k3 : kd = 3
      · rw [if_pos k3, h193] at e0
        have hx := hxx k3
        have kb := gx_k_b (x := I P 1) (m := gm_sm (gm_al A C lk U (M 87) (M 85 5)) A.toNat) (by omega)
        obtain ⟨s0, s1, s2, s3⟩ := gm_sel_ok h01 A.toNat _ kb.1 kb.2
        have nbl : X5_nextBelow N K F P I (gm_sm (gm_al A C lk U (M 87) (M 85 5)) A.toNat) = some (gx_k (I P 1) (gm_sm (gm_al A C lk U (M 87) (M 85 5)) A.toNat), am_u2 I P 1 (gx_n (I P 1))) := by
          unfold X5_nextBelow X5_nextBelow_b67 am_lt
          dsimp only
          have u3 : am_u2 (am_u2 (am_u2 I P 1 (am_lxor (I P 1) (am_lshl (I P 1) 13))) P 1 (am_lxor (am_u2 I P 1 (am_lxor (I P 1) (am_lshl (I P 1) 13)) P 1) (am_lushr (am_u2 I P 1 (am_lxor (I P 1) (am_lshl (I P 1) 13)) P 1) 7))) P 1 (am_lxor (am_u2 (am_u2 I P 1 (am_lxor (I P 1) (am_lshl (I P 1) 13))) P 1 (am_lxor (am_u2 I P 1 (am_lxor (I P 1) (am_lshl (I P 1) 13)) P 1) (am_lushr (am_u2 I P 1 (am_lxor (I P 1) (am_lshl (I P 1) 13)) P 1) 7)) P 1) (am_lshl (am_u2 (am_u2 I P 1 (am_lxor (I P 1) (am_lshl (I P 1) 13))) P 1 (am_lxor (am_u2 I P 1 (am_lxor (I P 1) (am_lshl (I P 1) 13)) P 1) (am_lushr (am_u2 I P 1 (am_lxor (I P 1) (am_lshl (I P 1) 13)) P 1) 7)) P 1) 17)) = am_u2 I P 1 (gx_n (I P 1)) := by
            rw [am_u2_s, am_u2_s]
            funext b j
            unfold am_u2 gx_n
            by_cases q : b = P ∧ j = 1
            · rw [if_pos q, if_pos q]
            · rw [if_neg q, if_neg q, if_neg q, if_neg q]
          rw [u3, am_u2_s, if_neg (by omega), if_pos (by omega)]
          have kb' : 0 ≤ am_lrem (am_lushr (gx_n (I P 1)) 1) (gm_sm (gm_al A C lk U (M 87) (M 85 5)) A.toNat) ∧ am_lrem (am_lushr (gx_n (I P 1)) 1) (gm_sm (gm_al A C lk U (M 87) (M 85 5)) A.toNat) < gm_sm (gm_al A C lk U (M 87) (M 85 5)) A.toNat := kb
          rw [if_pos (nb_in (by omega))]
          rfl
        have ro : ∀ b, b ≠ P → am_u2 I P 1 (gx_n (I P 1)) b = I b := fun b q => funext fun j => am_u2_a q
        have oc3 := c_openAt (N := N) (I := am_u2 I P 1 (gx_n (I P 1))) hc (by omega) hA (by rw [ro 3 (by omega)]; exact h32) h01 (by rw [ro 20 (by omega)]; exact hop) kb.1 kb.2
        rw [nbl, am_cl_s, oc3, am_cq_s] at e0
        have r108 : J1 108 = M 108 := f1.row (by decide) (by decide) (by decide)
        have st1 : ∀ b, b ≠ 108 → am_u2 J1 108 (M 85 5) (gx_n (I P 1)) b = J1 b := fun b q => funext fun j => am_u2_a q
        have sel0 : gm_sm (gm_al A C lk U (M 87) (M 85 5)) (gm_sel (gm_al A C lk U (M 87) (M 85 5)) A.toNat 0 + 1).toNat = 1 := by
          rw [show (gm_sel (gm_al A C lk U (M 87) (M 85 5)) A.toNat 0 + 1).toNat = (gm_sel (gm_al A C lk U (M 87) (M 85 5)) A.toNat 0).toNat + 1 by omega, gm_sm_s, show (((gm_sel (gm_al A C lk U (M 87) (M 85 5)) A.toNat 0).toNat : Nat) : Int) = gm_sel (gm_al A C lk U (M 87) (M 85 5)) A.toNat 0 by omega, q3, q2]; rfl
        have le0 : gm_sel (gm_al A C lk U (M 87) (M 85 5)) A.toNat 0 ≤ gm_sel (gm_al A C lk U (M 87) (M 85 5)) A.toNat (gx_k (I P 1) (gm_sm (gm_al A C lk U (M 87) (M 85 5)) A.toNat)) := by
          refine Int.not_lt.mp fun w => ?_
          have := gm_sm_str h01 (a := (gm_sel (gm_al A C lk U (M 87) (M 85 5)) A.toNat (gx_k (I P 1) (gm_sm (gm_al A C lk U (M 87) (M 85 5)) A.toNat))).toNat) (b := (gm_sel (gm_al A C lk U (M 87) (M 85 5)) A.toNat 0).toNat) (by omega) (by rw [show (((gm_sel (gm_al A C lk U (M 87) (M 85 5)) A.toNat (gx_k (I P 1) (gm_sm (gm_al A C lk U (M 87) (M 85 5)) A.toNat))).toNat : Nat) : Int) = gm_sel (gm_al A C lk U (M 87) (M 85 5)) A.toNat (gx_k (I P 1) (gm_sm (gm_al A C lk U (M 87) (M 85 5)) A.toNat)) by omega]; exact s2)
          omega
        have wk := m_walk (N := N) (I := am_u2 J1 108 (M 85 5) (gx_n (I P 1))) hm' hA h01 (by rw [st1 103 (by decide)]; exact f2) kb.1 kb.2 (gm_sel (gm_al A C lk U (M 87) (M 85 5)) A.toNat (gx_k (I P 1) (gm_sm (gm_al A C lk U (M 87) (M 85 5)) A.toNat)) - gm_sel (gm_al A C lk U (M 87) (M 85 5)) A.toNat 0).toNat N (gm_sel (gm_al A C lk U (M 87) (M 85 5)) A.toNat 0) (by omega) (by omega) q0
        rw [sel0, show gx_k (I P 1) (gm_sm (gm_al A C lk U (M 87) (M 85 5)) A.toNat) + 1 - 1 = gx_k (I P 1) (gm_sm (gm_al A C lk U (M 87) (M 85 5)) A.toNat) by omega] at wk
        have mb : X12_chosen_b170 N K' F' 85 J1 (gm_sm (gm_al A C lk U (M 87) (M 85 5)) A.toNat) kd (gm_sel (gm_al A C lk U (M 87) (M 85 5)) A.toNat 0) = some (gm_sel (gm_al A C lk U (M 87) (M 85 5)) A.toNat (gx_k (I P 1) (gm_sm (gm_al A C lk U (M 87) (M 85 5)) A.toNat)), am_u2 J1 108 (M 85 5) (gx_n (I P 1))) := by
          have kb' : 0 ≤ am_lrem (am_lushr (gx_n (I P 1)) 1) (gm_sm (gm_al A C lk U (M 87) (M 85 5)) A.toNat) ∧ am_lrem (am_lushr (gx_n (I P 1)) 1) (gm_sm (gm_al A C lk U (M 87) (M 85 5)) A.toNat) < gm_sm (gm_al A C lk U (M 87) (M 85 5)) A.toNat := kb
          unfold X12_chosen_b170 am_lt
          dsimp only
          have xe : am_lxor (am_lxor (am_lxor (I P 1) (am_lshl (I P 1) 13)) (am_lushr (am_lxor (I P 1) (am_lshl (I P 1) 13)) 7)) (am_lshl (am_lxor (am_lxor (I P 1) (am_lshl (I P 1) 13)) (am_lushr (am_lxor (I P 1) (am_lshl (I P 1) 13)) 7)) 17) = gx_n (I P 1) := rfl
          rw [if_pos k3, mwF_85_45 hm', mwK_108 hm', if_pos (show ((102, 2) : Nat × Int).1 = 102 from rfl), r5, if_pos (show 0 ≤ M 85 5 ∧ M 85 5 < 2 by omega), r108, ← hx, if_pos (by decide), if_pos (by omega), xe, if_pos (nb_in (by omega))]
          exact wk
        rw [mb] at f3
        refine ⟨_, am_u2 I P 1 (gx_n (I P 1)), am_u2 J1 108 (M 85 5) (gx_n (I P 1)), e0, ⟨s0, by omega⟩, s2, fun b a1 a2 => ro b (by omega), f3, ?_, fun b a1 a2 a3 a4 a5 => by rw [st1 b a5, f1.row a2 a4 a1], fun j q => by rw [st1 85 (by decide), f1.fld q]⟩
        have h1 := xmm h f1.sc
        have kdv := h1.v
        have r107 : J1 107 = M 107 := f1.row (by decide) (by decide) (by decide)
        refine h1.plr (fun b b1 b2 b3 b4 b5 b6 => ?_) (fun j q => ?_) ⟨?_, ?_, ?_, ?_⟩
        · by_cases q : 85 ≤ b ∧ b ≤ 108
          · rw [mix_m q, mix_m q, st1 b b6]
          · rw [mix_c q, mix_c q, ro b (by omega)]
        · rw [mix_m (by decide), mix_m (by decide), st1 85 (by decide)]
        · have := kdv.a
          rw [mix_c (by decide), mix_m (by decide)] at this ⊢
          rw [st1 107 (by decide)]
          rcases hP2 with ⟨a, b⟩ | ⟨a, b⟩
          · rw [a, am_u2_k (by decide)]; exact this
          · rw [ro 83 (by omega)]; exact this
        · have := kdv.b
          rw [mix_c (by decide), mix_m (by decide)] at this ⊢
          rw [st1 107 (by decide)]
          rcases hP2 with ⟨a, b⟩ | ⟨a, b⟩
          · rw [ro 84 (by omega)]; exact this
          · rw [a, am_u2_k (by decide)]; exact this
        · intro hk
          rw [mix_c (by decide), mix_m (by decide)]
          rcases hP2 with ⟨a, b⟩ | ⟨a, b⟩
          · rw [a, b, am_u2_s, am_u2_s]
          · rw [ro 83 (by omega), b, am_u2_k (by decide)]
            have := kdv.x
            rw [mix_m (by decide), mix_c (by decide), mix_m (by decide)] at this
            refine this ?_
            rw [mix_m (by decide), st1 107 (by decide)] at hk; exact hk
        · intro hk
          rw [mix_c (by decide), mix_m (by decide)]
          rcases hP2 with ⟨a, b⟩ | ⟨a, b⟩
          · rw [ro 84 (by omega), b, am_u2_k (by decide)]
            have := kdv.y
            rw [mix_m (by decide), mix_c (by decide), mix_m (by decide)] at this
            refine this ?_
            rw [mix_m (by decide), st1 107 (by decide)] at hk; exact hk
          · rw [a, b, am_u2_s, am_u2_s]
      · rw [if_neg k3, oc, am_cq_s] at e0
        have b170 : X12_chosen_b170 N K' F' 85 J1 (gm_sm (gm_al A C lk U (M 87) (M 85 5)) A.toNat) kd (gm_sel (gm_al A C lk U (M 87) (M 85 5)) A.toNat 0) = some (gm_sel (gm_al A C lk U (M 87) (M 85 5)) A.toNat 0, J1) := by
          unfold X12_chosen_b170; rw [if_neg k3]
        rw [b170] at f3
        exact ⟨_, I, J1, e0, ⟨q0, by omega⟩, q2, fun _ _ _ => rfl, f3, xmm h f1.sc, msf J1 f1⟩
end CHOOSE
