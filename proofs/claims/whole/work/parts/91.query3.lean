-- CALLS: copy, player, digest
section QUERY3
variable {N n : Nat} {K : am_K} {F : am_F} {I J J' : am_I} {R C A : Int} {lk U : Int → Int} {S x y z k p : Int}
theorem m_copy (hm : mw K F) {J0 : am_I} {T : Int} (hT : 0 ≤ T ∧ T ≤ 40000) (h24 : J0 85 24 = T) : ∀ (d f : Nat) (J : am_I) (x : Int), T - x = d → d < f → 0 ≤ x → (∀ b, b ≠ 95 → b ≠ 96 → J b = J0 b) → (∀ k, J 95 k = if 0 ≤ k ∧ k < x then J0 93 k else J0 95 k) → (∀ k, J 96 k = if 0 ≤ k ∧ k < x then J0 94 k else J0 96 k) →
    ∃ J', X12_copy_h16 N K F 85 f J x = some (T, am_u2 J' 85 15 0) ∧ (∀ b, b ≠ 95 → b ≠ 96 → J' b = J0 b) ∧ (∀ k, J' 95 k = if 0 ≤ k ∧ k < T then J0 93 k else J0 95 k) ∧ (∀ k, J' 96 k = if 0 ≤ k ∧ k < T then J0 94 k else J0 96 k) := by
  intro d
  induction d with
  | zero =>
    intro f J x hd hf x0 h1 h2 h3
    obtain ⟨f, rfl⟩ : ∃ g, f = g + 1 := ⟨f - 1, by omega⟩
    have e : x = T := by omega
    subst e
    refine ⟨J, ?_, h1, h2, h3⟩
    show X12_copy_s16 N K F 85 (X12_copy_h16 N K F 85 f) J x = _
    unfold X12_copy_s16
    rw [h1 85 (by decide) (by decide), h24, if_neg (by omega), m_okk, am_cl_s]
  | succ d ih =>
    intro f J x hd hf x0 h1 h2 h3
    obtain ⟨f, rfl⟩ : ∃ g, f = g + 1 := ⟨f - 1, by omega⟩
    have e93 : J 93 = J0 93 := h1 93 (by decide) (by decide)
    have e94 : J 94 = J0 94 := h1 94 (by decide) (by decide)
    have := ih f (am_u2 (am_u2 J 95 x (J0 93 x)) 96 x (J0 94 x)) (x + 1) (by omega) (by omega) (by omega) (fun b a1 a2 => by rw [← h1 b a1 a2]; funext j; rw [am_u2_a a2, am_u2_a a1]) (fun k => ?_) (fun k => ?_)
    · obtain ⟨J', g1, g2⟩ := this
      refine ⟨J', ?_, g2⟩
      show X12_copy_s16 N K F 85 (X12_copy_h16 N K F 85 f) J x = _
      unfold X12_copy_s16
      rw [h1 85 (by decide) (by decide), h24, if_pos (by omega), mwF_85_25 hm, mwK_93 hm, if_pos (show ((100, 40000) : Nat × Int).1 = 100 from rfl), if_pos (show 0 ≤ x ∧ x < 40000 by omega), mwF_85_27 hm, mwK_95 hm, if_pos (show ((100, 40000) : Nat × Int).1 = 100 from rfl), if_pos (by decide), if_pos (show 0 ≤ x ∧ x < 40000 by omega)]
      unfold am_lt
      dsimp only
      rw [mwF_85_26 hm, mwK_94 hm, if_pos (show ((100, 40000) : Nat × Int).1 = 100 from rfl), if_pos (show 0 ≤ x ∧ x < 40000 by omega), mwF_85_28 hm, mwK_96 hm, if_pos (show ((100, 40000) : Nat × Int).1 = 100 from rfl), if_pos (by decide), if_pos (show 0 ≤ x ∧ x < 40000 by omega), if_pos (nb_in (by omega)), am_u2_a (show (94 : Nat) ≠ 95 by decide), e93, e94]
      exact g1
    · rw [am_u2_a (by decide)]
      unfold am_u2
      by_cases e : k = x
      · subst e; rw [if_pos ⟨rfl, rfl⟩, if_pos (by omega)]
      · rw [if_neg (fun g => e g.2), h2 k]
        by_cases g : 0 ≤ k ∧ k < x
        · rw [if_pos g, if_pos (by omega)]
        · rw [if_neg g, if_neg (by omega)]
    · unfold am_u2
      by_cases e : k = x
      · subst e; rw [if_pos ⟨rfl, rfl⟩, if_pos (by omega)]
      · rw [if_neg (fun g => e g.2), if_neg (fun g => e g.2), h3 k]
        by_cases g : 0 ≤ k ∧ k < x
        · rw [if_pos g, if_pos (by omega)]
        · rw [if_neg g, if_neg (by omega)]
theorem e_copy (h : rel n K F I R C A lk U S) (hN : 2000000 < N) : eqv (fun J => rel n K F J R C A lk U S) (X11_copy N K F 2 I) (fun J => X12_copy N K F 85 J) := by
  have hc := h.a.c
  have hm := h.a.m
  by_cases w : I 85 21 = 0
  · refine e_no' h 9 ?_ ?_
    · unfold X11_copy
      rw [cwF_2_6 hc, cwK_62 hc, if_pos (show ((9, 0) : Nat × Int).1 = 9 from rfl), if_pos (h.off w), c_ref, am_cl_s]
    · show X12_copy N K F 85 _ = _
      unfold X12_copy
      rw [am_u2_a (by decide), if_pos w, m_noo, am_cl_s]
  · have q := h.on w
    have v := h.V q
    have hL := h.g.n
    have qy := q.y
    have qm := q.m
    have nn := gp_top_nn (A := A) (lk := lk) (I 85 23 - 1)
    have m12 := gp_top_mono (A := A) (lk := lk) (by omega) (show I 85 23 - 1 ≤ 12 by omega)
    have v4 : vok (F 62 4) := (h.a.v 2 (by decide)).1
    have v5 : vok (F 62 5) := (h.a.v 3 (by decide)).1
    have v6 : vok (F 62 6) := (h.a.v 4 (by decide)).1
    have v7 : vok (F 62 7) := (h.a.v 5 (by decide)).1
    have n67 : F 62 6 ≠ F 62 7 := h.a.ne (i := 4) (j := 5) (by decide) (by decide) (by decide)
    have n56 : F 62 5 ≠ F 62 6 := h.a.ne (i := 3) (j := 4) (by decide) (by decide) (by decide)
    have hqv := q.v
    have hqc := q.cl
    generalize hT : gp_top A lk (I 85 23 - 1) = T at *
    have s3 : I 62 3 = T := by rw [q.s, hT]
    generalize hJ1 : am_cp (am_cp I (F 62 4) 0 (F 62 6) 0 T) (F 62 5) 0 (F 62 7) 0 T = J1
    have j1 : ∀ b, b ≠ F 62 6 → b ≠ F 62 7 → J1 b = I b := fun b a1 a2 => by rw [← hJ1]; funext j; unfold am_cp; rw [if_neg (fun g => a2 g.1), if_neg (fun g => a1 g.1)]
    have j16 : ∀ k, J1 (F 62 6) k = if 0 ≤ k ∧ k < T then I (F 62 4) k else I (F 62 6) k := fun k => by
      rw [← hJ1]
      unfold am_cp
      rw [if_neg (fun g => n67 g.1)]
      by_cases g : 0 ≤ k ∧ k < T
      · rw [if_pos ⟨rfl, by omega⟩, if_pos g]; congr 1; omega
      · rw [if_neg (by omega), if_neg g]
    have j17 : ∀ k, J1 (F 62 7) k = if 0 ≤ k ∧ k < T then I (F 62 5) k else I (F 62 7) k := fun k => by
      rw [← hJ1]
      unfold am_cp
      by_cases g : 0 ≤ k ∧ k < T
      · rw [if_pos ⟨rfl, by omega⟩, if_pos g, if_neg (fun g => n56 g.1)]; congr 1; omega
      · rw [if_neg (by omega), if_neg g, if_neg (fun g => n67 g.1.symm)]
    have hx1 : X11_copy N K F 2 I = some (T, am_u2 J1 2 9 0) := by
      have e62 : am_cp I (F 62 4) 0 (F 62 6) 0 T 62 3 = T := by unfold am_cp; rw [if_neg (fun g => v6.ne rfl g.1.symm), s3]
      have e63 : J1 62 3 = T := by rw [j1 62 (v6.ne rfl).symm (v7.ne rfl).symm, s3]
      unfold X11_copy X9_claimWhatIsSolved
      rw [cwF_2_6 hc, cwK_62 hc, if_pos (show ((9, 0) : Nat × Int).1 = 9 from rfl), if_neg (h.on1 w), if_pos h.a.v1, h.a.v2, h.a.v3, h.a.v4, if_pos (show ((100, (K (F 62 4)).2) : Nat × Int).1 = 100 from rfl), if_pos (v6.ne rfl), if_pos (v4.ne rfl), s3, if_pos (by dsimp only; omega)]
      unfold am_lt
      dsimp only
      rw [e62, if_pos rfl, if_pos rfl, if_pos (v7.ne rfl), if_pos (v5.ne rfl), if_pos (by omega), hJ1, am_cl_s, e63, c_acc, am_cl_s]
    have j85 : ∀ b, b ≠ 2 → nvk b = true → am_u2 J1 2 9 0 b = I b := fun b a1 a2 => by
      have : am_u2 J1 2 9 0 b = J1 b := funext fun j => am_u2_a a1
      rw [this, j1 b (v6.ne a2).symm (v7.ne a2).symm]
    obtain ⟨J2, g1, g2, g3, g4⟩ := m_copy (N := N) hm (J0 := am_u2 J1 2 9 0) (T := T) (by omega) (by rw [j85 85 (by decide) rfl, q.s2, hT]) T.toNat N (am_u2 J1 2 9 0) 0 (by omega) (by omega) (by omega) (fun _ _ _ => rfl) (fun k => by rw [if_neg (by omega)]) (fun k => by rw [if_neg (by omega)])
    rw [j85 93 (by decide) rfl, j85 95 (by decide) rfl] at g3
    rw [j85 94 (by decide) rfl, j85 96 (by decide) rfl] at g4
    have hx2 : X12_copy N K F 85 (am_u2 J1 2 9 0) = some (T, am_u2 J2 85 15 0) := by
      unfold X12_copy
      rw [j85 85 (by decide) rfl, if_neg w, g1]
    have j2 : ∀ b, b ≠ 2 → b ≠ 95 → b ≠ 96 → J2 b = J1 b := fun b a1 a2 a3 => by rw [g2 b a2 a3]; exact funext fun j => am_u2_a a1
    refine eqv_mk hx1 hx2 (h.claims (fun b b1 b2 b3 b4 b5 b6 => ?_) (fun j qj => ?_) (fun _ k k0 k1 => ?_)) ?_
    · have : am_u2 J2 85 15 0 b = J2 b := funext fun j => am_u2_a b2
      rw [this, j2 b b1 b5 b6, j1 b b3 b4]
    · rw [am_u2_k qj, j2 85 (by decide) (by decide) (by decide), j1 85 (v6.ne rfl).symm (v7.ne rfl).symm]
    · rw [am_u2_a (v6.ne rfl), am_u2_a (v7.ne rfl), am_u2_a (by decide), am_u2_a (by decide), j2 _ (v6.ne rfl) (v6.ne rfl) (v6.ne rfl), j2 _ (v7.ne rfl) (v7.ne rfl) (v7.ne rfl), j16, j17, g3, g4]
      by_cases g : 0 ≤ k ∧ k < T
      · have e := hqv k k0 g.2
        have l := gp_ly_b (A := A) (lk := lk) (by omega) k0 (show k < gp_top A lk 12 by omega)
        unfold gp_ly at l
        rw [if_pos g, if_pos g, if_pos g, if_pos g]
        exact ⟨e.1, e.2.1, by omega, e.2.2.2⟩
      · rw [if_neg g, if_neg g, if_neg g, if_neg g]; exact hqc k k0 k1
    · rw [am_u2_s, am_u2_a (by decide), g2 2 (by decide) (by decide), am_u2_s]
theorem rel.plr (h : rel n K F I R C A lk U S) (hfr : ∀ b, b ≠ 2 → b ≠ 85 → b ≠ 83 → b ≠ 84 → b ≠ 107 → b ≠ 108 → J b = I b) (h85 : ∀ j, j ≠ 15 → J 85 j = I 85 j) (hv : rV J) : rel n K F J R C A lk U S := by
  have f : ∀ b, b ≠ 2 ∧ b ≠ 85 ∧ b ≠ 83 ∧ b ≠ 84 ∧ b ≠ 107 ∧ b ≠ 108 → J b = I b := fun b q => hfr b q.1 q.2.1 q.2.2.1 q.2.2.2.1 q.2.2.2.2.1 q.2.2.2.2.2
  have fv : ∀ r, r ∈ vrl F → J r = I r := fun r hr => by
    have o := (h.a.ok r hr).1
    exact hfr r (o.ne rfl) (o.ne rfl) (o.ne rfl) (o.ne rfl) (o.ne rfl) (o.ne rfl)
  have m : ∀ i (hi : i < 15), J ((vrl F)[i]'hi) = I ((vrl F)[i]'hi) := fun i hi => fv _ (List.getElem_mem _)
  refine ⟨h.a, h.g.kept (fun b q => f b (by omega)) (h85 0 (by decide)) (h85 1 (by decide)), h.u.kept (f 15 (by decide)) (fun j a b => h85 j (by omega)), h.p.kept (f 17 (by decide)) (f 18 (by decide)) (congrFun (f 16 (by decide)) 2) (f 87 (by decide)) (f 88 (by decide)) (h85 5 (by decide)), ?_, ?_, hv, ?_⟩
  · exact h.h.kept ⟨congrFun (f 59 (by decide)) 0, congrFun (f 59 (by decide)) 1⟩ ⟨h85 37 (by decide), h85 38 (by decide), h85 5 (by decide)⟩ (m 0 (by decide)) (m 1 (by decide)) (f 104 (by decide)) (f 87 (by decide)) (f 88 (by decide))
  · exact h.l.kept (f 79 (by decide)) (f 80 (by decide)) (f 105 (by decide)) ⟨h85 39 (by decide), h85 40 (by decide), h85 43 (by decide)⟩
  · exact h.q.kept (f 62 (by decide)) (congrFun (f 63 (by decide)) 3) ⟨h85 21 (by decide), h85 22 (by decide), h85 23 (by decide), h85 24 (by decide)⟩ fv (f 93 (by decide)) (f 94 (by decide)) (f 95 (by decide)) (f 96 (by decide))
theorem e_player (h : rel n K F I R C A lk U S) : eqv (fun J => rel n K F J R C A lk U S) (X11_player N K F 2 I x y z) (fun J => X12_player N K F 85 J x y z) := by
  have hc := h.a.c
  have hm := h.a.m
  by_cases hx : x = 0 ∨ x = 1
  · by_cases hy : 0 ≤ y ∧ y ≤ 3
    · generalize hs : (if z = 0 then (1 : Int) else z) = s
      have cb : ∀ (a : Nat) (I : am_I), K a = (5, 0) → X5_become N K F a I y z = some (0, am_u2 (am_u2 I a 0 y) a 1 s) := fun a I hk => by
        unfold X5_become X5_become_b17 am_lt
        dsimp only
        rw [hk, if_pos (show ((5, 0) : Nat × Int).1 = 5 from rfl), if_pos (show ((5, 0) : Nat × Int).1 = 5 from rfl), ← hs]
        by_cases e : z = 0
        · rw [if_pos ((nb_ceq z 0).mpr e), if_pos e]
        · rw [if_neg (fun g => e ((nb_ceq z 0).mp g)), if_neg e]
      have mb : ∀ I, X12_player N K F 85 I x y z = some (y, am_u2 (am_u2 (am_u2 I 107 x y) 108 x s) 85 15 0) := fun I => by
        unfold X12_player X12_player_b58
        rw [m_isIn, am_cq_s, if_pos (show 0 ≤ x ∧ x ≤ 1 by omega), if_neg (by decide), m_isIn, am_cq_s, if_pos hy, if_neg (by decide), mwF_85_44 hm, mwK_107 hm, mwF_85_45 hm, mwK_108 hm, if_pos (show ((100, 2) : Nat × Int).1 = 100 from rfl), if_pos (by decide), if_pos (show 0 ≤ x ∧ x < 2 by omega)]
        unfold am_lt
        dsimp only
        rw [← hs]
        by_cases e : z = 0
        · rw [if_pos ((nb_ceq z 0).mpr e), if_pos e, if_pos rfl, if_pos (by decide), if_pos (show 0 ≤ x ∧ x < 2 by omega), m_okk, am_cl_s]
        · rw [if_neg (fun g => e ((nb_ceq z 0).mp g)), if_neg e, if_pos rfl, if_pos (by decide), if_pos (show 0 ≤ x ∧ x < 2 by omega), m_okk, am_cl_s]
      have va := h.v.a
      have vb := h.v.b
      have vx := h.v.x
      have vy := h.v.y
      rcases hx with rfl | rfl
      · refine eqv_mk (v := y) (J := am_u2 (am_u2 (am_u2 I 83 0 y) 83 1 s) 2 9 0) ?_ (mb _) (h.plr (fun b b1 b2 b3 b4 b5 b6 => ?_) (fun j q => ?_) ⟨?_, ?_, ?_, ?_⟩) ?_
        · unfold X11_player
          rw [c_isSide, am_cq_s, if_pos (Or.inl rfl), if_neg (by decide), if_pos hy.1, if_neg (by omega), cwF_2_8 hc, cwK_82 hc, if_pos (show ((104, 2) : Nat × Int).1 = 104 from rfl), if_pos (by decide), cwF_82_0 hc, cwK_83 hc, if_pos (show ((5, 0) : Nat × Int).1 = 5 from rfl), cb 83 I (cwK_83 hc), am_cl_s, c_acc, am_cl_s]
        · funext j; rw [am_u2_a b2, am_u2_a b6, am_u2_a b5, am_u2_a b1, am_u2_a b3, am_u2_a b3]
        · rw [am_u2_k q, am_u2_a (by decide), am_u2_a (by decide), am_u2_a (by decide), am_u2_a (by decide), am_u2_a (by decide)]
        · simp [am_u2]; omega
        · simp [am_u2]; exact vb
        · simp [am_u2]
        · simp [am_u2]; exact vy
        · simp [am_u2]
      · refine eqv_mk (v := y) (J := am_u2 (am_u2 (am_u2 I 84 0 y) 84 1 s) 2 9 0) ?_ (mb _) (h.plr (fun b b1 b2 b3 b4 b5 b6 => ?_) (fun j q => ?_) ⟨?_, ?_, ?_, ?_⟩) ?_
        · unfold X11_player
          rw [c_isSide, am_cq_s, if_pos (Or.inr rfl), if_neg (by decide), if_pos hy.1, if_neg (by omega), cwF_2_8 hc, cwK_82 hc, if_pos (show ((104, 2) : Nat × Int).1 = 104 from rfl), if_pos (by decide), cwF_82_1 hc, cwK_84 hc, if_pos (show ((5, 0) : Nat × Int).1 = 5 from rfl), cb 84 I (cwK_84 hc), am_cl_s, c_acc, am_cl_s]
        · funext j; rw [am_u2_a b2, am_u2_a b6, am_u2_a b5, am_u2_a b1, am_u2_a b4, am_u2_a b4]
        · rw [am_u2_k q, am_u2_a (by decide), am_u2_a (by decide), am_u2_a (by decide), am_u2_a (by decide), am_u2_a (by decide)]
        · simp [am_u2]; exact va
        · simp [am_u2]; omega
        · simp [am_u2]; exact vx
        · simp [am_u2]
        · simp [am_u2]
    · refine e_no' h 7 ?_ ?_
      · unfold X11_player X11_player_b22
        rw [c_isSide, am_cq_s, if_pos hx, if_neg (by decide)]
        by_cases g : 0 ≤ y
        · rw [if_pos g, if_pos (by omega), c_ref, am_cl_s]
        · rw [if_neg g, c_ref, am_cl_s]
      · show X12_player N K F 85 _ x y z = _
        unfold X12_player
        rw [m_isIn, am_cq_s, if_pos (show 0 ≤ x ∧ x ≤ 1 by omega), if_neg (by decide), m_isIn, am_cq_s, if_neg hy, if_pos rfl, m_noo, am_cl_s]
  · refine e_no' h 3 ?_ ?_
    · unfold X11_player
      rw [c_isSide, am_cq_s, if_neg hx, if_pos rfl, c_ref, am_cl_s]
    · show X12_player N K F 85 _ x y z = _
      unfold X12_player
      rw [m_isIn, am_cq_s, if_neg (show ¬ (0 ≤ x ∧ x ≤ 1) by omega), if_pos rfl, m_noo, am_cl_s]
end QUERY3
