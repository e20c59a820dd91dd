-- CALLS: move
/-- behind the model's move -/
def mmv (I J : am_I) (A : Int) (t : Int) (mv : Int → Int) : Prop := (∀ b, b ≠ 85 → b ≠ 87 → b ≠ 88 → b ≠ 91 → b ≠ 103 → b ≠ 104 → J b = I b) ∧ (∀ j, (j < 17 ∨ 19 < j) → j ≠ 5 → j ≠ 37 → j ≠ 38 → J 85 j = I 85 j) ∧ (J 85 5 = 1 - I 85 5) ∧ (J 85 37 = I 85 37 + 1) ∧ (J 85 38 = 0) ∧ (J 88 = gm_up (I 88) (I 85 5) (I 88 (I 85 5) + t)) ∧ (∀ q, 0 ≤ q → q < A → J 87 q = mv q) ∧ (∀ q, A ≤ q → J 87 q = I 87 q) ∧ (J 104 = hk (hk (I 104) (I 85 37) (I 87) (I 88 0) (I 88 1) (I 85 5)) (I 85 37 + 1) (J 87) (J 88 0) (J 88 1) (1 - I 85 5))
theorem mmv.f {I J : am_I} {A : Int} {t : Int} {mv : Int → Int} (h : mmv I J A t mv) : ∀ b, b ≠ 85 → b ≠ 87 → b ≠ 88 → b ≠ 91 → b ≠ 103 → b ≠ 104 → J b = I b := h.1
theorem mmv.k {I J : am_I} {A : Int} {t : Int} {mv : Int → Int} (h : mmv I J A t mv) : ∀ j, (j < 17 ∨ 19 < j) → j ≠ 5 → j ≠ 37 → j ≠ 38 → J 85 j = I 85 j := h.2.1
theorem mmv.s {I J : am_I} {A : Int} {t : Int} {mv : Int → Int} (h : mmv I J A t mv) : J 85 5 = 1 - I 85 5 := h.2.2.1
theorem mmv.m {I J : am_I} {A : Int} {t : Int} {mv : Int → Int} (h : mmv I J A t mv) : J 85 37 = I 85 37 + 1 := h.2.2.2.1
theorem mmv.u {I J : am_I} {A : Int} {t : Int} {mv : Int → Int} (h : mmv I J A t mv) : J 85 38 = 0 := h.2.2.2.2.1
theorem mmv.st {I J : am_I} {A : Int} {t : Int} {mv : Int → Int} (h : mmv I J A t mv) : J 88 = gm_up (I 88) (I 85 5) (I 88 (I 85 5) + t) := h.2.2.2.2.2.1
theorem mmv.p {I J : am_I} {A : Int} {t : Int} {mv : Int → Int} (h : mmv I J A t mv) : ∀ q, 0 ≤ q → q < A → J 87 q = mv q := h.2.2.2.2.2.2.1
theorem mmv.z {I J : am_I} {A : Int} {t : Int} {mv : Int → Int} (h : mmv I J A t mv) : ∀ q, A ≤ q → J 87 q = I 87 q := h.2.2.2.2.2.2.2.1
theorem mmv.h {I J : am_I} {A : Int} {t : Int} {mv : Int → Int} (h : mmv I J A t mv) : J 104 = hk (hk (I 104) (I 85 37) (I 87) (I 88 0) (I 88 1) (I 85 5)) (I 85 37 + 1) (J 87) (J 88 0) (J 88 1) (1 - I 85 5) := h.2.2.2.2.2.2.2.2
section MOVE
variable {N n n' : Nat} {K K' : am_K} {F F' : am_F} {I J J' : am_I} {R C A : Int} {lk U : Int → Int} {S x y : Int} {c z : Nat}
theorem gm_al_pos {u g : Int → Int} {who p : Int} (h : gm_al A C lk u g who p ≠ 0) : 0 < gm_fc A C lk u g who p := by
  unfold gm_al at h
  by_cases q : gm_fc A C lk u g who p ≤ 0
  · rw [if_pos q] at h; exact absurd rfl h
  · omega
theorem gm_fc_pos {u g : Int → Int} {who p : Int} (h : 0 < gm_fc A C lk u g who p) : gm_sd A p = who ∧ lk p = 0 ∧ u 10 ≤ g p ∧ (gm_mv A C lk (u 6) (u 7) (u 8) (u 9) g who p).2.2 = 0 := by
  unfold gm_fc at h
  by_cases q : gm_sd A p = who ∧ lk p = 0 ∧ u 10 ≤ g p
  · rw [if_pos q] at h
    refine ⟨q.1, q.2.1, q.2.2, ?_⟩
    by_cases q2 : (gm_mv A C lk (u 6) (u 7) (u 8) (u 9) g who p).2.2 = 0
    · exact q2
    · rw [if_pos q2] at h; omega
  · rw [if_neg q] at h; omega
theorem gm_fc_long {u g : Int → Int} {who p : Int} : gm_fc A C lk u g who p = -1 ↔ (gm_sd A p = who ∧ lk p = 0 ∧ u 10 ≤ g p) ∧ (gm_mv A C lk (u 6) (u 7) (u 8) (u 9) g who p).2.2 ≠ 0 := by
  unfold gm_fc
  by_cases q : gm_sd A p = who ∧ lk p = 0 ∧ u 10 ≤ g p
  · rw [if_pos q]
    by_cases q2 : (gm_mv A C lk (u 6) (u 7) (u 8) (u 9) g who p).2.2 = 0
    · rw [if_neg (by simpa using q2)]
      constructor
      · intro w; split at w <;> omega
      · intro w; exact absurd q2 w.2
    · rw [if_pos q2]; exact ⟨fun _ => ⟨q, q2⟩, fun _ => rfl⟩
  · rw [if_neg q]
    constructor
    · intro w; omega
    · intro w; exact absurd w.1 q
theorem m_allowed_R (hm : mw K F) (hR : mR I R C A lk U) (hN : 2000000 < N) : ∃ J, X12_mayMove N K F 85 I 87 (I 85 5) 103 = some (gm_sm (gm_al A C lk U (I 87) (I 85 5)) A.toNat, J) ∧ ms I J ∧ ∀ p, 0 ≤ p → p < A → J 103 p = gm_al A C lk U (I 87) (I 85 5) p := by
  obtain ⟨a, b, c, d, e, f, g⟩ := hR
  have := m_mayMove (N := N) hm a b hN (mR.u ⟨a, b, c, d, e, f, g⟩) (Or.inl rfl) (I 85 5) (by rw [c]; exact f)
  rw [c, gm_al_u (u' := U) d] at this
  exact this
theorem mmv.ms {I1 : am_I} {t : Int} {mv : Int → Int} (hs : ms I I1) (h : mmv I1 J A t mv) : mmv I J A t mv := by
  have e87 : I1 87 = I 87 := hs.row (by decide) (by decide) (by decide)
  have e88 : I1 88 = I 88 := hs.row (by decide) (by decide) (by decide)
  have e104 : I1 104 = I 104 := hs.row (by decide) (by decide) (by decide)
  have e5 : I1 85 5 = I 85 5 := hs.fld (by omega)
  have e37 : I1 85 37 = I 85 37 := hs.fld (by omega)
  refine ⟨fun b q1 q2 q3 q4 q5 q6 => by rw [h.f b q1 q2 q3 q4 q5 q6, hs.row q4 q5 q1], fun j q1 q2 q3 q4 => by rw [h.k j q1 q2 q3 q4, hs.fld q1], by rw [h.s, e5], by rw [h.m, e37], h.u, by rw [h.st, e88, e5], h.p, fun q a => by rw [h.z q a, e87], by rw [h.h, e104, e37, e87, e88, e5]⟩
theorem m_moveFrom' (hm : mw K F) (hR : mR I R C A lk U) (hN : 2000000 < N) {p : Int} (h0 : 0 ≤ p) (h1 : p < A) (hl : lk p = 0) (hsd : gm_sd A p = I 85 5) (hm1 : 0 ≤ I 85 37 ∧ I 85 37 < 1000) (hst : 0 ≤ I 88 (I 85 5) ∧ I 88 (I 85 5) ≤ 1000000) :
    ∃ J, X12_moveFrom N K F 85 I p = some (gm_tot A (I 87) - gm_tot A (gm_mv A C lk (U 6) (U 7) (U 8) (U 9) (I 87) (I 85 5) p).1, J) ∧ mmv I J A (gm_tot A (I 87) - gm_tot A (gm_mv A C lk (U 6) (U 7) (U 8) (U 9) (I 87) (I 85 5) p).1) (gm_mv A C lk (U 6) (U 7) (U 8) (U 9) (I 87) (I 85 5) p).1 := by
  obtain ⟨J, e1, e2, e3, e4, e5, e6, e7, e8, e9, e10⟩ := m_moveFrom hm hR hN h0 h1 hl hsd hm1 hst
  exact ⟨J, e1, e2, e3, e4, e5, e6, e7, e8, e9, e10⟩
/-- the model's call, where the pit is there -/
theorem m_move_n (hm : mw K F) (hG : rG I R C A lk) {w : Int} (hw : gm_why R C lk x y = w) (h0 : w ≠ 0) : X12_move N K F 85 I x y = some (-1, am_u2 I 85 15 w) := by
  have v := gm_why_v (R := R) (C := C) (lk := lk) (x := x) (y := y)
  rw [hw] at v
  unfold X12_move X12_move_b24 X12_move_b83 X12_move_b120 X12_move_b142
  rw [m_why hm hG, hw, am_cq_s, if_neg h0]
  unfold am_lt
  dsimp only
  rw [if_neg h0, if_neg h0, if_pos (by omega), m_noo, am_cl_s]
theorem m_move_10 (hm : mw K F) (hG : rG I R C A lk) (hw : gm_why R C lk x y = 0) (h0 : I 85 37 = 1000) : X12_move N K F 85 I x y = some (-1, am_u2 I 85 15 10) := by
  unfold X12_move X12_move_b24 X12_move_b83 X12_move_b120 X12_move_b142
  rw [m_why hm hG, hw, am_cq_s, if_pos rfl, if_pos h0]
  unfold am_lt
  dsimp only
  rw [if_neg (by decide), if_neg (by decide), if_pos (by decide), m_noo, am_cl_s]
/-- the model's call as far as the question whether the move is allowed -/
theorem m_move_q (hm : mw K F) (hG : rG I R C A lk) (hR : mR I R C A lk U) (hN : 2000000 < N) (hw : gm_why R C lk x y = 0) (h0 : I 85 37 ≠ 1000) {p : Int} (hp : x * C + y = p) :
    ∃ J, ms I J ∧ J 103 = J 103 ∧ X12_move N K F 85 I x y = if gm_fc A C lk U (I 87) (I 85 5) p = -1 then some (-1, am_u2 J 85 15 6) else X12_move_b83 N K F 85 J 0 p := by
  have hg := hG.m.g
  obtain ⟨hx, hy, hl⟩ := gm_why_0 hw
  obtain ⟨p0, p1, c0, c1⟩ := gm_in hg hx hy
  have hA := hg.A
  have hwi := m_lack_w (C := C) (x := x) (y := y) ⟨c0, c1⟩ (by omega)
  have hC : I 85 1 = C := hG.m.2.1
  rw [hp] at p0 p1 hl hwi
  have how : X12_isOwn N K F I 85 87 (I 85 5) p = some (if gm_sd A p = I 85 5 ∧ I 86 p = 0 ∧ I 85 10 ≤ I 87 p then 1 else 0) := m_isOwn hm hG.m (mwK_87 hm) _ p0 p1
  have hu10 : I 85 10 = U 10 := hR.2.2.2.1 10 (by decide) (by decide)
  rw [hG.k, hu10] at how
  have e0 : X12_move N K F 85 I x y = am_cq (X12_isOwn N K F I 85 87 (I 85 5) p) (fun v_2 => if v_2 = 0 then (X12_move_b83 N K F 85 I 0 p) else (am_cl (X12_make N K F 85 I 87 (I 85 5) p) (fun _ I_3 => if (I_3 85 18) = 0 then (X12_move_b82 N K F 85 I_3 p 0) else (X12_move_b82 N K F 85 I_3 p 6)))) := by
    unfold X12_move X12_move_b24
    rw [m_why hm hG, hw, am_cq_s, if_pos rfl, if_neg h0, hC]
    unfold am_lt
    dsimp only
    rw [hwi, if_pos rfl, mwF_85_3 hm]
  rw [how, am_cq_s] at e0
  by_cases q : gm_sd A p = I 85 5 ∧ lk p = 0 ∧ U 10 ≤ I 87 p
  · rw [if_pos q, if_neg (by decide)] at e0
    obtain ⟨J1, f1, f2, f3, f4, f5⟩ := m_make_R hm hR hN p0 p1 hl q.1
    rw [f1, am_cl_s, f3] at e0
    refine ⟨J1, f2, rfl, ?_⟩
    by_cases q2 : (gm_mv A C lk (U 6) (U 7) (U 8) (U 9) (I 87) (I 85 5) p).2.2 = 0
    · rw [if_neg (fun w => (gm_fc_long.mp w).2 q2), e0, if_pos q2]; rfl
    · rw [if_pos (gm_fc_long.mpr ⟨q, q2⟩), e0, if_neg q2]
      unfold X12_move_b82 X12_move_b83 X12_move_b120 X12_move_b142
      rw [if_neg (by decide), if_pos (by decide), m_noo, am_cl_s]
  · rw [if_neg q, if_pos rfl] at e0
    refine ⟨I, ms.rfl, rfl, ?_⟩
    rw [if_neg (fun w => q (gm_fc_long.mp w).1), e0]
theorem m_move_5 (hm : mw K F) (hG : rG I R C A lk) (hR : mR I R C A lk U) (hN : 2000000 < N) (hw : gm_why R C lk x y = 0) (h0 : I 85 37 ≠ 1000) {p : Int} (hp : x * C + y = p) :
    ∃ J, ms I J ∧ (gm_fc A C lk U (I 87) (I 85 5) p = -1 → X12_move N K F 85 I x y = some (-1, am_u2 J 85 15 6)) ∧ (gm_fc A C lk U (I 87) (I 85 5) p ≠ -1 → gm_al A C lk U (I 87) (I 85 5) p = 0 → X12_move N K F 85 I x y = some (-1, am_u2 J 85 15 5)) ∧
      (gm_al A C lk U (I 87) (I 85 5) p ≠ 0 → X12_move N K F 85 I x y = am_cl (X12_moveFrom N K F 85 J p) (fun v_1 I_2 => am_cl (X12_ok N K F 85 I_2 v_1) (fun v_3 I_4 => X12_move_b142 N K F 85 I_4 v_3))) := by
  obtain ⟨hx, hy, hl⟩ := gm_why_0 hw
  obtain ⟨p0, p1, c0, c1⟩ := gm_in hG.m.g hx hy
  have hA := hG.m.g.A
  rw [hp] at p0 p1
  obtain ⟨J1, f1, -, f2⟩ := m_move_q hm hG hR hN hw h0 hp
  by_cases q : gm_fc A C lk U (I 87) (I 85 5) p = -1
  · rw [if_pos q] at f2
    exact ⟨J1, f1, fun _ => f2, fun w => absurd q w, fun w => by have := gm_al_pos w; omega⟩
  · rw [if_neg q] at f2
    obtain ⟨J2, g1, g2, g3⟩ := m_allowed_R hm (hR.sc f1.sc) hN
    obtain ⟨r1, r2, -⟩ := f1.sc.r87
    rw [r1, r2] at g1 g3
    have e : X12_move N K F 85 I x y = if gm_al A C lk U (I 87) (I 85 5) p = 0 then (X12_move_b119 N K F 85 J2 p 5) else (X12_move_b119 N K F 85 J2 p 0) := by
      rw [f2]
      unfold X12_move_b83
      rw [if_pos rfl, mwF_85_3 hm, mwF_85_35 hm, r2, g1, am_cl_s, mwK_103 hm, if_pos (show ((101, 32) : Nat × Int).1 = 101 from rfl), if_pos (show (0 : Int) ≤ p ∧ p < 32 by omega), g3 p p0 p1]
    refine ⟨J2, f1.trans g2, fun w => absurd w q, fun _ w => ?_, fun w => ?_⟩
    · rw [e, if_pos w]
      unfold X12_move_b119 X12_move_b120 X12_move_b142
      rw [if_pos (by decide), m_noo, am_cl_s]
    · rw [e, if_neg w]
      unfold X12_move_b119 X12_move_b120
      rw [if_neg (by decide)]
/-- the relation behind a move on both sides -/
theorem rel.moved (h : rel n K F I R C A lk U S) {q t : Int} {mv : (Int → Int) × Int × Int} (q0 : 0 ≤ q) (q1 : q < A) (ql : lk q = 0) (qs : gm_sd A q = I 85 5) (hmv : mv = gm_mv A C lk (U 6) (U 7) (U 8) (U 9) (I 87) (I 85 5) q) (nl : mv.2.2 = 0) (ht : t = gm_tot A (I 87) - gm_tot A mv.1)
    (hm : I 85 37 < 1000) (hc : cmv n n' K K' F F' I J c z A (I 85 37) (I 85 5) q t mv.1) {J1 : am_I} (h1 : ∀ b, b ≠ 2 → J1 b = J b) (h2 : mmv J1 J' A t mv.1) {J2 : am_I} (h3 : ∀ b, b ≠ 85 → J2 b = J' b) (h4 : ∀ j, (j < 15 ∨ 19 < j) → J2 85 j = J' 85 j) : rel n' K' F' J2 R C A lk U S := by
  have hg := h.g.m.g
  have hA := hg.A
  have f85 : ∀ b, 85 ≤ b → b ≤ 108 → J1 b = I b := fun b a1 a2 => by rw [h1 b (by omega), hc.t.f85 b a1 a2]
  have e87 := f85 87 (by decide) (by decide)
  have e88 := f85 88 (by decide) (by decide)
  have e104 := f85 104 (by decide) (by decide)
  have e85 := f85 85 (by decide) (by decide)
  obtain ⟨mst, mle, -⟩ := gm_mv_st hg (kd := U 6) (mr := U 7) (lo := U 8) (hi := U 9) h.p.s q0 q1 ql qs
  rw [← hmv] at mst mle
  have vP : vok (F' 59 2) := (hc.a.v 0 (by decide)).1
  have vB : vok (F' 59 3) := (hc.a.v 1 (by decide)).1
  have lowf : ∀ b, b ≠ 2 → b ≠ 85 → b ≠ 87 → b ≠ 88 → b ≠ 91 → b ≠ 103 → b ≠ 104 → J2 b = J b := fun b a1 a2 a3 a4 a5 a6 a7 => by rw [h3 b a2, h2.f b a2 a3 a4 a5 a6 a7, h1 b a1]
  have k5 : J2 85 5 = 1 - I 85 5 := by rw [h4 5 (by omega), h2.s, e85]
  have k37 : J2 85 37 = I 85 37 + 1 := by rw [h4 37 (by omega), h2.m, e85]
  have k38 : J2 85 38 = 0 := by rw [h4 38 (by omega), h2.u]
  have k88 : J2 88 = gm_up (I 88) (I 85 5) (I 88 (I 85 5) + t) := by rw [h3 88 (by decide), h2.st, e88, e85]
  have k87 : ∀ p, 0 ≤ p → p < A → J2 87 p = mv.1 p := fun p a b => by rw [h3 87 (by decide), h2.p p a b]
  have k87z : ∀ p, A ≤ p → p < 32 → J2 87 p = 0 := fun p a b => by rw [h3 87 (by decide), h2.z p a, e87]; exact h.p.z p a b
  have k104 : J2 104 = hk (hk (I 104) (I 85 37) (I 87) (I 88 0) (I 88 1) (I 85 5)) (I 85 37 + 1) (J2 87) (J2 88 0) (J2 88 1) (1 - I 85 5) := by rw [h3 104 (by decide), h2.h, e104, e87, e88, e85, h3 87 (by decide), h3 88 (by decide)]
  have ct := hc.t
  rw [ht] at ct k88
  refine h.mvd hc.a hc.F (hc.K _ (h.a.v 2 (by decide)).2) (hc.K _ (h.a.v 8 (by decide)).2) (fun b q => ?_) (fun r hr => ?_) (fun j p1 p2 p3 p4 => ?_) ?_ ?_
  · have o := mvk_o q
    rw [lowf b o.2.1 o.2.2.2.1 o.2.2.2.2.1 o.2.2.2.2.2.1 o.2.2.2.2.2.2.1 o.2.2.2.2.2.2.2.1 o.2.2.2.2.2.2.2.2, hc.t.f b q]
  · have hv := (h.a.mem7 hr).1
    rw [lowf r (hv.ne rfl) (hv.ne rfl) (hv.ne rfl) (hv.ne rfl) (hv.ne rfl) (hv.ne rfl) (hv.ne rfl), hc.v7 r hr]
  · rw [h4 j p2, h2.k j (by omega) p1 p3 p4, e85]
  · exact h.p.step (J := J) (q := q) hg q0 q1 ql qs rfl mst mle ct (lowf 17 (by decide) (by decide) (by decide) (by decide) (by decide) (by decide) (by decide)) (lowf 18 (by decide) (by decide) (by decide) (by decide) (by decide) (by decide) (by decide)) (congrFun (lowf 16 (by decide) (by decide) (by decide) (by decide) (by decide) (by decide) (by decide)) 2) k87 k87z (congrFun k88 0) (congrFun k88 1) k5
  · exact h.h.step h.p hg q0 q1 ql qs hmv nl ct hc.k1 hc.k2 hc.l0 hc.l1 hc.l2 hc.p hc.q hc.kn (lowf 59 (by decide) (by decide) (by decide) (by decide) (by decide) (by decide) (by decide)) (lowf _ (vP.ne rfl) (vP.ne rfl) (vP.ne rfl) (vP.ne rfl) (vP.ne rfl) (vP.ne rfl) (vP.ne rfl)) (lowf _ (vB.ne rfl) (vB.ne rfl) (vB.ne rfl) (vB.ne rfl) (vB.ne rfl) (vB.ne rfl) (vB.ne rfl)) k5 k37 k38 k88 k87 k87z k104
end MOVE
