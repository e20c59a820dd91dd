-- CALLS: why, pit, stored, turn, moves, status
def gm_why (R C : Int) (lk : Int → Int) (x y : Int) : Int := if 0 ≤ x ∧ x < R then (if 0 ≤ y ∧ y < C then (if lk (x * C + y) = 0 then 0 else 1) else 3) else 2
section OPS1
variable {N n : Nat} {K : am_K} {F : am_F} {I : am_I} {R C A : Int} {lk U : Int → Int} {S x y z : Int}
theorem gm_in {x y : Int} (hg : gm_g R C A) (hx : 0 ≤ x ∧ x < R) (hy : 0 ≤ y ∧ y < C) : 0 ≤ x * C + y ∧ x * C + y < A ∧ 0 ≤ x * C ∧ x * C ≤ 32 := by
  have hA := hg.A
  have h1 : 0 ≤ x * C := Int.mul_nonneg hx.1 (by omega)
  have h2 : (x + 1) * C ≤ R * C := Int.mul_le_mul_of_nonneg_right (by omega) (by omega)
  have h3 : R * C = A := by rcases hg.1 with ⟨rfl, rfl⟩ | ⟨rfl, rfl⟩ <;> rfl
  rw [Int.add_mul] at h2
  omega
theorem c_why (hc : cw K F) (hg : cg I R C A lk) : X11_whyNoPit N K F I 2 x y = some (gm_why R C lk x y) := by
  obtain ⟨hgg, ⟨h0, h1, h2, h3⟩, h4, -⟩ := hg
  have hA := hgg.A
  unfold X11_whyNoPit X11_whyNoPit_b15 X11_whyNoPit_b32 X11_whyNoPit_b59 X1_pitAt gm_why
  simp only [cwF_2_0 hc, cwK_3 hc, cwF_3_4 hc, cwK_4 hc, h0, h1]
  by_cases hx : 0 ≤ x
  · by_cases hx2 : x < R
    · rw [if_pos hx, if_pos trivial, if_neg (by omega), if_pos (show 0 ≤ x ∧ x < R from ⟨hx, hx2⟩)]
      by_cases hy : 0 ≤ y
      · by_cases hy2 : y < C
        · obtain ⟨a1, a2, a3, a4⟩ := gm_in hgg ⟨hx, hx2⟩ ⟨hy, hy2⟩
          rw [if_pos hy, if_neg (by omega), if_pos (show 0 ≤ y ∧ y < C from ⟨hy, hy2⟩), if_pos (nb_in (by omega)), if_pos (nb_in (by omega)), am_cq_s, if_pos trivial, if_pos (by omega), (h4 _ a1 a2).1]
          by_cases g : lk (x * C + y) = 0
          · rw [if_pos g, if_pos g]
          · rw [if_neg g, if_neg g]
        · rw [if_pos hy, if_pos (by omega), if_neg (by omega)]
      · rw [if_neg hy, if_neg (by omega)]
    · rw [if_pos hx, if_pos trivial, if_pos (by omega), if_neg (by omega)]
  · rw [if_neg hx, if_neg (by omega)]
theorem m_why (hm : mw K F) (h : rG I R C A lk) : X12_pitWhy N K F I 85 x y = some (gm_why R C lk x y) := by
  have hgg := h.m.g
  obtain ⟨h0, h1, -⟩ := h.m
  have hA := hgg.A
  have hC := hgg.2
  have hR : 2 ≤ R ∧ R ≤ 4 := by rcases hgg.1 with ⟨rfl, -⟩ | ⟨rfl, -⟩ <;> omega
  unfold X12_pitWhy X12_pitWhy_b61 gm_why
  simp only [mwF_85_2 hm, mwK_86 hm, h0, h1, m_isIn, am_cq_s, h.k]
  rw [if_pos (nb_in (by omega))]
  by_cases hx : 0 ≤ x ∧ x < R
  · rw [if_pos (show 0 ≤ x ∧ x ≤ R - 1 by omega), if_pos hx, if_neg (by decide), if_pos (nb_in (by omega))]
    by_cases hy : 0 ≤ y ∧ y < C
    · obtain ⟨a1, a2, a3, a4⟩ := gm_in hgg hx hy
      rw [if_pos (show 0 ≤ y ∧ y ≤ C - 1 by omega), if_pos hy, if_neg (by decide), if_pos (nb_in (by omega)), if_pos (nb_in (by omega)), if_pos trivial, if_pos (by omega)]
      by_cases g : lk (x * C + y) = 0
      · rw [if_pos g, if_pos g]
      · rw [if_neg g, if_neg g]
    · rw [if_neg (show ¬ (0 ≤ y ∧ y ≤ C - 1) by omega), if_neg hy, if_pos rfl]
  · rw [if_neg (show ¬ (0 ≤ x ∧ x ≤ R - 1) by omega), if_neg hx, if_pos rfl]
theorem gm_why_v : gm_why R C lk x y = 0 ∨ gm_why R C lk x y = 1 ∨ gm_why R C lk x y = 2 ∨ gm_why R C lk x y = 3 := by
  unfold gm_why; split <;> (try split) <;> (try split) <;> omega
theorem gm_why_0 (h : gm_why R C lk x y = 0) : (0 ≤ x ∧ x < R) ∧ (0 ≤ y ∧ y < C) ∧ lk (x * C + y) = 0 := by
  unfold gm_why at h
  by_cases hx : 0 ≤ x ∧ x < R
  · rw [if_pos hx] at h
    by_cases hy : 0 ≤ y ∧ y < C
    · rw [if_pos hy] at h
      by_cases g : lk (x * C + y) = 0
      · exact ⟨hx, hy, g⟩
      · rw [if_neg g] at h; omega
    · rw [if_neg hy] at h; omega
  · rw [if_neg hx] at h; omega
theorem eqv_mk {P : am_I → Prop} {X : Option (Int × am_I)} {Y : am_I → Option (Int × am_I)} {v : Int} {J J' : am_I} (hx : X = some (v, J)) (hy : Y J = some (v, J')) (hp : P J') (hs : J' 2 9 = J' 85 15) : eqv P X Y := ⟨v, J, J', hx, hy, hp, hs⟩
theorem c_ref (v : Int) : X11_refuse N K F 2 I v = some (-1, am_u2 I 2 9 v) := rfl
theorem c_acc (v : Int) : X11_accept N K F 2 I v = some (v, am_u2 I 2 9 0) := rfl
theorem c_accL (v : Int) : X11_acceptLong N K F 2 I v = some (v, am_u2 I 2 9 0) := rfl
theorem m_okk (v : Int) : X12_ok N K F 85 I v = some (v, am_u2 I 85 15 0) := rfl
theorem m_noo (v : Int) : X12_no N K F 85 I v = some (-1, am_u2 I 85 15 v) := rfl
theorem u29 (v w : Int) : am_u2 (am_u2 I 2 9 v) 85 15 v 2 9 = am_u2 (am_u2 I 2 9 v) 85 15 v 85 15 := by simp [am_u2]
theorem c_isSide : X11_isSide N K F I x = some (if x = 0 ∨ x = 1 then 1 else 0) := by
  unfold X11_isSide X11_isSide_b9 X11_isSide_b14
  by_cases h0 : x = 0
  · rw [if_pos h0, if_pos (Or.inr rfl), if_pos (Or.inl h0)]
  · by_cases h1 : x = 1
    · rw [if_neg h0, if_pos h1, if_pos (Or.inr rfl), if_pos (Or.inr h1)]
    · rw [if_neg h0, if_neg h1, if_pos (Or.inl rfl), if_neg (by omega)]
theorem e_pit (h : rel n K F I R C A lk U S) : eqv (fun J => rel n K F J R C A lk U S) (X11_pit N K F 2 I x y) (fun J => X12_pit N K F 85 J x y) := by
  have hc := h.a.c
  have hm := h.a.m
  have hA := h.g.m.A
  by_cases w : gm_why R C lk x y = 0
  · obtain ⟨w1, w2, w3⟩ := gm_why_0 w
    obtain ⟨a1, a2, a3, a4⟩ := gm_in h.g.m.g w1 w2
    have h1 : rel n K F (am_u2 I 2 9 0) R C A lk U S := h.sc (sc.rfl.st2 0)
    refine eqv_mk (v := I 87 (x * C + y)) (J := am_u2 I 2 9 0) (J' := am_u2 (am_u2 I 2 9 0) 85 15 0) ?_ ?_ (h1.sc (sc.rfl.st85 0)) (u29 0 0)
    · unfold X11_pit X1_pitAt
      simp only [c_why hc h.g.c, am_cq_s, w, cwF_2_2 hc, cwK_16 hc, cwF_2_0 hc, cwK_3 hc, cwF_16_0 hc, cwK_17 hc, h.g.c.2.1.2.1, c_acc, am_cl_s]
      rw [if_pos trivial, if_pos trivial, if_pos trivial, if_pos (nb_in (by omega)), if_pos (nb_in (by omega)), am_cq_s, if_pos trivial, if_pos (by omega), h.p.e _ a1 (by omega)]
    · show X12_pit N K F 85 (am_u2 I 2 9 0) x y = _
      unfold X12_pit X12_pit_b36
      simp only [m_why hm h1.g, am_cq_s, w, mwF_85_3 hm, mwK_87 hm, h1.g.m.2.1, m_okk, am_cl_s]
      rw [if_neg (by decide), if_pos (nb_in (by omega)), if_pos (nb_in (by omega)), if_pos trivial, if_pos (by omega), am_u2_a (by decide)]
  · have h1 : rel n K F (am_u2 I 2 9 (gm_why R C lk x y)) R C A lk U S := h.sc (sc.rfl.st2 _)
    have wv := gm_why_v (R := R) (C := C) (lk := lk) (x := x) (y := y)
    refine eqv_mk (v := -1) (J := am_u2 I 2 9 (gm_why R C lk x y)) (J' := am_u2 (am_u2 I 2 9 (gm_why R C lk x y)) 85 15 (gm_why R C lk x y)) ?_ ?_ (h1.sc (sc.rfl.st85 _)) (u29 _ 0)
    · unfold X11_pit
      rw [c_why hc h.g.c, am_cq_s, if_neg w]; rfl
    · show X12_pit N K F 85 (am_u2 I 2 9 _) x y = _
      unfold X12_pit
      rw [m_why hm h1.g, am_cq_s, if_pos (by omega)]; rfl
theorem e_stored (h : rel n K F I R C A lk U S) : eqv (fun J => rel n K F J R C A lk U S) (X11_stored N K F 2 I x) (fun J => X12_stored N K F 85 J x) := by
  have hc := h.a.c
  have hm := h.a.m
  by_cases w : x = 0 ∨ x = 1
  · have h1 : rel n K F (am_u2 I 2 9 0) R C A lk U S := h.sc (sc.rfl.st2 0)
    refine eqv_mk (v := I 88 x) (J := am_u2 I 2 9 0) (J' := am_u2 (am_u2 I 2 9 0) 85 15 0) ?_ ?_ (h1.sc (sc.rfl.st85 0)) (u29 0 0)
    · unfold X11_stored
      simp only [c_isSide, am_cq_s, cwF_2_2 hc, cwK_16 hc, cwF_16_1 hc, cwK_18 hc, c_acc, am_cl_s]
      rw [if_pos w, if_neg (by decide), if_pos trivial, if_pos trivial, if_pos (by omega)]
      rcases w with rfl | rfl
      · rw [h.p.s0.1]
      · rw [h.p.s1.1]
    · show X12_stored N K F 85 (am_u2 I 2 9 0) x = _
      unfold X12_stored X12_stored_b28
      simp only [m_isIn, am_cq_s, mwF_85_4 hm, mwK_88 hm, m_okk, am_cl_s]
      rw [if_pos (show 0 ≤ x ∧ x ≤ 1 by omega), if_neg (by decide), if_pos trivial, if_pos (by omega), am_u2_a (by decide)]
  · have h1 : rel n K F (am_u2 I 2 9 3) R C A lk U S := h.sc (sc.rfl.st2 _)
    refine eqv_mk (v := -1) (J := am_u2 I 2 9 3) (J' := am_u2 (am_u2 I 2 9 3) 85 15 3) ?_ ?_ (h1.sc (sc.rfl.st85 _)) (u29 _ 0)
    · unfold X11_stored
      rw [c_isSide, am_cq_s, if_neg w, if_pos rfl]; rfl
    · show X12_stored N K F 85 (am_u2 I 2 9 _) x = _
      unfold X12_stored
      rw [m_isIn, am_cq_s, if_neg (show ¬ (0 ≤ x ∧ x ≤ 1) by omega), if_pos rfl]; rfl
theorem e_turn (h : rel n K F I R C A lk U S) : X11_turn N K F I 2 = some (I 85 5) ∧ X12_turn N K F I 85 = some (I 85 5) := by
  have hc := h.a.c
  refine ⟨?_, rfl⟩
  unfold X11_turn
  simp only [cwF_2_2 hc, cwK_16 hc]
  rw [if_pos trivial, h.p.w]
theorem e_moves (h : rel n K F I R C A lk U S) : X11_moves N K F I 2 = some (I 85 37) ∧ X12_moves N K F I 85 = some (I 85 37) := by
  have hc := h.a.c
  refine ⟨?_, rfl⟩
  unfold X11_moves
  simp only [cwF_2_5 hc, cwK_59 hc]
  rw [if_pos trivial, h.h.a]
end OPS1
