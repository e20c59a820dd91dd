-- MOVES: what a step leaves; redo
def nvk (b : Nat) : Bool := b < 60 || b == 62 || b == 63 || b == 67 || b == 72 || (78 < b && b < 109)
theorem vok.ne {r : Nat} (h : vok r) {b : Nat} (hb : nvk b = true) : r ≠ b := by
  intro e
  subst e
  unfold nvk at hb
  unfold vok at h
  simp only [Bool.or_eq_true, decide_eq_true_eq, beq_iff_eq, Bool.and_eq_true] at hb
  omega
/-- rows that no move touches -/
def mvk (b : Nat) : Bool := (3 ≤ b && b ≤ 15) || b == 57 || b == 62 || b == 63 || b == 79 || b == 80 || b == 83 || b == 84 || b == 86 || b == 89 || b == 90 || (93 ≤ b && b ≤ 96) || b == 105 || b == 107 || b == 108
/-- the class behind a step: from memory I (the past's rows B, P before, B', P' behind) to J -/
def cst (I J : am_I) (B B' : Nat) (A md w t : Int) (mv : Int → Int) : Prop := (∀ p, 0 ≤ p → p < A → J 17 p = mv p) ∧ (∀ p, A ≤ p → p < 32 → J 17 p = 0) ∧ (J 18 = gm_up (I 18) w (I 18 w + t)) ∧ (J 16 2 = 1 - w) ∧ (J 59 0 = md + 1) ∧ (∀ p, 0 ≤ p → p < 32 → J B' (md * 34 + p) = I 17 p) ∧ (∀ p, 0 ≤ p → p < 2 → J B' (md * 34 + (32 + p)) = I 18 p) ∧ (∀ j, 0 ≤ j → j < md → ∀ p, 0 ≤ p → p < 34 → J B' (j * 34 + p) = I B (j * 34 + p)) ∧ (∀ b, mvk b = true → J b = I b) ∧ (∀ b, 85 ≤ b → b ≤ 108 → J b = I b)
theorem cst.p {I J : am_I} {B B' : Nat} {A md w t : Int} {mv : Int → Int} (h : cst I J B B' A md w t mv) : ∀ p, 0 ≤ p → p < A → J 17 p = mv p := h.1
theorem cst.z {I J : am_I} {B B' : Nat} {A md w t : Int} {mv : Int → Int} (h : cst I J B B' A md w t mv) : ∀ p, A ≤ p → p < 32 → J 17 p = 0 := h.2.1
theorem cst.s {I J : am_I} {B B' : Nat} {A md w t : Int} {mv : Int → Int} (h : cst I J B B' A md w t mv) : J 18 = gm_up (I 18) w (I 18 w + t) := h.2.2.1
theorem cst.w {I J : am_I} {B B' : Nat} {A md w t : Int} {mv : Int → Int} (h : cst I J B B' A md w t mv) : J 16 2 = 1 - w := h.2.2.2.1
theorem cst.m {I J : am_I} {B B' : Nat} {A md w t : Int} {mv : Int → Int} (h : cst I J B B' A md w t mv) : J 59 0 = md + 1 := h.2.2.2.2.1
theorem cst.b {I J : am_I} {B B' : Nat} {A md w t : Int} {mv : Int → Int} (h : cst I J B B' A md w t mv) : ∀ p, 0 ≤ p → p < 32 → J B' (md * 34 + p) = I 17 p := h.2.2.2.2.2.1
theorem cst.b2 {I J : am_I} {B B' : Nat} {A md w t : Int} {mv : Int → Int} (h : cst I J B B' A md w t mv) : ∀ p, 0 ≤ p → p < 2 → J B' (md * 34 + (32 + p)) = I 18 p := h.2.2.2.2.2.2.1
theorem cst.b3 {I J : am_I} {B B' : Nat} {A md w t : Int} {mv : Int → Int} (h : cst I J B B' A md w t mv) : ∀ j, 0 ≤ j → j < md → ∀ p, 0 ≤ p → p < 34 → J B' (j * 34 + p) = I B (j * 34 + p) := h.2.2.2.2.2.2.2.1
theorem cst.f {I J : am_I} {B B' : Nat} {A md w t : Int} {mv : Int → Int} (h : cst I J B B' A md w t mv) : ∀ b, mvk b = true → J b = I b := h.2.2.2.2.2.2.2.2.1
theorem cst.f85 {I J : am_I} {B B' : Nat} {A md w t : Int} {mv : Int → Int} (h : cst I J B B' A md w t mv) : ∀ b, 85 ≤ b → b ≤ 108 → J b = I b := h.2.2.2.2.2.2.2.2.2
section STEP
variable {N n n' : Nat} {K K' : am_K} {F F' : am_F} {I J : am_I} {R C A : Int} {lk U : Int → Int} {S x y z : Int}
theorem mvk_i {b : Nat} (h : (3 ≤ b ∧ b ≤ 14) ∨ b = 57 ∨ b = 86 ∨ b = 89 ∨ b = 90) : mvk b = true := by
  unfold mvk
  simp only [Bool.or_eq_true, decide_eq_true_eq, beq_iff_eq, Bool.and_eq_true]
  omega
theorem rQ.moved (h : rQ K F I A C lk U) (hF : ∀ a j, a < 109 → a ≠ 59 → F' a j = F a j) (hK1 : K' (F 62 4) = K (F 62 4)) (hK2 : K' (F 63 2) = K (F 63 2)) : rQ K' F' I A C lk U := by
  have e4 := hF 62 4 (by decide) (by decide)
  have e5 := hF 62 5 (by decide) (by decide)
  have e6 := hF 62 6 (by decide) (by decide)
  have e7 := hF 62 7 (by decide) (by decide)
  have g0 := hF 63 0 (by decide) (by decide)
  have g1 := hF 63 1 (by decide) (by decide)
  have g2 := hF 63 2 (by decide) (by decide)
  refine ⟨h.b, h.b1, fun w => ?_, h.g0, by rw [e4, hK1]; exact h.g1, ⟨by rw [g1]; exact h.g.s0, by rw [g1]; exact h.g.s, by rw [g2]; exact h.g.e, by rw [g0]; exact h.g.d⟩, h.gs, by rw [g2, hK2]; exact h.ge⟩
  have q := h.on w
  exact ⟨q.m, q.l8, q.l9, q.y, q.p, q.s, q.s2, by rw [e4, hK1]; exact q.rV, by rw [g2, hK2]; exact q.rE, q.ws, by rw [e4, e5]; exact q.v, q.be, by rw [e6, e7]; exact q.cl⟩
theorem rel.mvd (h : rel n K F I R C A lk U S) (hA : rA n' K' F') (hF : ∀ a j, a < 109 → a ≠ 59 → F' a j = F a j) (hK1 : K' (F 62 4) = K (F 62 4)) (hK2 : K' (F 63 2) = K (F 63 2))
    (f : ∀ b, mvk b = true → J b = I b) (fv : ∀ r, r ∈ [F 62 4, F 62 5, F 62 6, F 62 7, F 63 0, F 63 1, F 63 2] → J r = I r) (k : ∀ j, j ≠ 5 → (j < 15 ∨ 19 < j) → j ≠ 37 → j ≠ 38 → J 85 j = I 85 j)
    (hp : rP J A lk S) (hh : rH K' F' J A C lk U S) : rel n' K' F' J R C A lk U S := by
  refine ⟨hA, h.g.kept (fun b q => f b (mvk_i q)) (k 0 (by decide) (by decide) (by decide) (by decide)) (k 1 (by decide) (by decide) (by decide) (by decide)), h.u.kept (f 15 rfl) (fun j a b => k j (by omega) (by omega) (by omega) (by omega)), hp, hh, ?_, ?_, ?_⟩
  · exact h.l.kept (f 79 rfl) (f 80 rfl) (f 105 rfl) ⟨k 39 (by decide) (by decide) (by decide) (by decide), k 40 (by decide) (by decide) (by decide) (by decide), k 43 (by decide) (by decide) (by decide) (by decide)⟩
  · exact h.v.kept (f 83 rfl) (f 84 rfl) (f 107 rfl) (f 108 rfl)
  · exact (h.q.kept' (f 62 rfl) (congrFun (f 63 rfl) 3) ⟨k 21 (by decide) (by decide) (by decide) (by decide), k 22 (by decide) (by decide) (by decide) (by decide), k 23 (by decide) (by decide) (by decide) (by decide), k 24 (by decide) (by decide) (by decide) (by decide)⟩ fv (f 93 rfl) (f 94 rfl) (f 95 rfl) (f 96 rfl)).moved hF hK1 hK2
/-- keepAgain and follow, from the survey's rows -/
theorem c_kf (hc : cw K F) {L : Int} (hb : K (F 59 3) = (100, 34 * L)) (hv : vok (F 59 3)) (hA : 2 ≤ A ∧ A ≤ 32) {md w t q : Int} {mv : Int → Int} (hm0 : I 59 0 = md) (hm1 : 0 ≤ md ∧ md < L) (hL : L ≤ 1000) (hw : I 16 2 = w) (hw1 : w = 0 ∨ w = 1) (hq : 0 ≤ q ∧ q < A) (hr : ∀ p, 0 ≤ p → p < A → I (23 + q.toNat) p = mv p) (hz : gm_zb A (I (23 + q.toNat))) (ht : I 21 q = t) (hin : am_inI (I 18 w + t)) :
    ∃ J2 J, X4_keepAgain N K F 59 I 16 = some (0, J2) ∧ X6_follow N K F 16 J2 (23 + q.toNat) (J2 21 q) = some (0, J) ∧ cst I J (F 59 3) (F 59 3) A md w t mv ∧ J2 21 q = t ∧ J2 59 0 = md + 1 ∧ (∀ j, j ≠ 0 → J 59 j = I 59 j) ∧ (∀ b, b ≠ 16 → b ≠ 17 → b ≠ 18 → b ≠ 59 → b ≠ F 59 3 → J b = I b) ∧ J 21 = I 21 := by
  obtain ⟨J2, f1, f2, f3, f4, f5, f6, f7⟩ := c_keepAgain (N := N) (I := I) hc hb hv (by rw [hm0]; exact hm1) hL
  rw [hm0] at f4 f5 f6 f7
  have r21 : J2 21 = I 21 := f2 21 (by decide) (hv.ne rfl).symm
  have r16 : J2 16 = I 16 := f2 16 (by decide) (hv.ne rfl).symm
  have r18 : J2 18 = I 18 := f2 18 (by decide) (hv.ne rfl).symm
  have hrn : 23 + q.toNat ≠ F 59 3 := (hv.ne (by unfold nvk; simp only [Bool.or_eq_true, decide_eq_true_eq]; omega)).symm
  have rr : J2 (23 + q.toNat) = I (23 + q.toNat) := f2 _ (by omega) hrn
  obtain ⟨J, g1, g2, g3, g4, g5⟩ := c_follow (N := N) (I := J2) (r := 23 + q.toNat) (t := J2 21 q) hc (by omega) (by rw [r16, hw]; exact hw1) (by rw [r16, hw, r18, r21, ht]; exact hin)
  rw [r16, hw, r18, r21, ht] at g4
  rw [r16, hw] at g5
  have fin : ∀ b, b ≠ 16 → b ≠ 17 → b ≠ 18 → b ≠ 59 → b ≠ F 59 3 → J b = I b := fun b q1 q2 q3 q4 q5 => by rw [g2 b q1 q2 q3, f2 b q4 q5]
  have r59 : J 59 = J2 59 := g2 59 (by decide) (by decide) (by decide)
  have rB : J (F 59 3) = J2 (F 59 3) := g2 _ (hv.ne rfl) (hv.ne rfl) (hv.ne rfl)
  refine ⟨J2, J, f1, g1, ⟨fun p a b => ?_, fun p a b => ?_, g4, g5, by rw [r59, f4], fun p a b => by rw [rB]; exact f5 p a b, fun p a b => by rw [rB]; exact f6 p a b, fun j a b p p0 p1 => by rw [rB]; exact f7 _ (by omega), fun b q => ?_, fun b q1 q2 => ?_⟩, by rw [r21, ht], f4, fun j q => by rw [r59]; exact f3 j q, fin, by rw [g2 21 (by decide) (by decide) (by decide), r21]⟩
  · rw [g3 p a (by omega), rr]; exact hr p a b
  · rw [g3 p (by omega) b, rr]; exact hz p a b
  · have hb2 : b ≠ F 59 3 := by
      intro e
      refine hv.ne (b := b) ?_ e.symm
      unfold mvk at q
      unfold nvk
      simp only [Bool.or_eq_true, decide_eq_true_eq, beq_iff_eq, Bool.and_eq_true] at q ⊢
      omega
    unfold mvk at q
    simp only [Bool.or_eq_true, decide_eq_true_eq, beq_iff_eq, Bool.and_eq_true] at q
    exact fin b (by omega) (by omega) (by omega) (by omega) hb2
  · exact fin b (by omega) (by omega) (by omega) (by omega) (hv.ne (by unfold nvk; simp only [Bool.or_eq_true, decide_eq_true_eq, beq_iff_eq, Bool.and_eq_true]; omega)).symm
theorem rel.nd23 (h : rA n K F) : F 59 2 ≠ F 59 3 ∧ ∀ r, r ∈ [F 62 4, F 62 5, F 62 6, F 62 7, F 63 0, F 63 1, F 63 2] → r ≠ F 59 2 ∧ r ≠ F 59 3 := by
  have nd := h.nd
  unfold vrl at nd
  simp only [List.nodup_cons, List.mem_cons, not_or] at nd
  refine ⟨nd.1.1, fun r hr => ?_⟩
  simp only [List.mem_cons, List.not_mem_nil, or_false] at hr
  obtain ⟨⟨-, a1, a2, a3, a4, a5, a6, a7, -⟩, ⟨b1, b2, b3, b4, b5, b6, b7, -⟩, -⟩ := nd
  rcases hr with rfl | rfl | rfl | rfl | rfl | rfl | rfl
  · exact ⟨Ne.symm a1, Ne.symm b1⟩
  · exact ⟨Ne.symm a2, Ne.symm b2⟩
  · exact ⟨Ne.symm a3, Ne.symm b3⟩
  · exact ⟨Ne.symm a4, Ne.symm b4⟩
  · exact ⟨Ne.symm a5, Ne.symm b5⟩
  · exact ⟨Ne.symm a6, Ne.symm b6⟩
  · exact ⟨Ne.symm a7, Ne.symm b7⟩
theorem rA.mem7 (h : rA n K F) {r : Nat} (hr : r ∈ [F 62 4, F 62 5, F 62 6, F 62 7, F 63 0, F 63 1, F 63 2]) : vok r ∧ r < n := by
  refine h.ok r ?_
  unfold vrl
  simp only [List.mem_cons, List.not_mem_nil, or_false] at hr ⊢
  rcases hr with rfl | rfl | rfl | rfl | rfl | rfl | rfl <;> simp
end STEP
