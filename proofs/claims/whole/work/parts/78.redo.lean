-- MOVES: the relation behind a step
section REDO
variable {N n n' : Nat} {K K' : am_K} {F F' : am_F} {I J J' : am_I} {R C A : Int} {lk U : Int → Int} {S x y z : Int}
theorem hst.congr (hg : gm_g R C A) {H H' : Int → Int} {q j : Int} (h : hst A C lk U S H q j) (e : ∀ p, 0 ≤ p → p < 35 → H' (j * 35 + p) = H (j * 35 + p)) (e' : ∀ p, 0 ≤ p → p < 35 → H' ((j + 1) * 35 + p) = H ((j + 1) * 35 + p)) : hst A C lk U S H' q j := by
  have hA := hg.A
  have heq : gm_eq A (fun p => H (j * 35 + p)) (fun p => H' (j * 35 + p)) := fun p a b => (e p a (by omega)).symm
  obtain ⟨m1, m2⟩ := heq.mv hg (kd := U 6) (mr := U 7) (lo := U 8) (hi := U 9) h.s h.q0 h.q1 h.ql h.qs
  have t1 := heq.tot
  have t2 := m1.tot
  have e34 := e 34 (by omega) (by omega)
  have e32 := e 32 (by omega) (by omega)
  have e33 := e 33 (by omega) (by omega)
  refine ⟨heq.st h.s, fun p a b => ?_, by rw [e34]; exact h.w, by rw [e32]; exact h.n0, by rw [e33]; exact h.n1, by rw [← t1, e32, e33]; exact h.t, h.q0, h.q1, h.ql, by rw [e34]; exact h.qs, ?_, fun p a b => ?_, fun p a b => ?_, ?_, ?_, ?_⟩
  · show H' (j * 35 + p) = 0; rw [e p (by omega) (by omega)]; exact h.z p a b
  · rw [e34, ← m2]; exact h.nl
  · rw [e' p a (by omega), h.e p a b, e34]; exact m1 p a b
  · rw [e' p (by omega) (by omega)]; exact h.ez p a b
  · rw [e' 32 (by omega) (by omega), h.es0, e32, e34, t1, t2]
  · rw [e' 33 (by omega) (by omega), h.es1, e33, e34, t1, t2]
  · rw [e' 34 (by omega) (by omega), h.ew, e34]
/-- rows of the position, behind a step, on both sides -/
theorem rP.step (h : rP I A lk S) (hg : gm_g R C A) {q : Int} (q0 : 0 ≤ q) (q1 : q < A) (ql : lk q = 0) (qs : gm_sd A q = I 85 5) {t : Int} {mv : Int → Int} (ht : t = gm_tot A (I 87) - gm_tot A mv) (hmv : gm_st A lk mv) (hle : gm_tot A mv ≤ gm_tot A (I 87)) {B B' : Nat} {md : Int}
    (hc : cst I J B B' A md (I 85 5) t mv) (h17 : J' 17 = J 17) (h18 : J' 18 = J 18) (h16 : J' 16 2 = J 16 2) (h87 : ∀ p, 0 ≤ p → p < A → J' 87 p = mv p) (h87z : ∀ p, A ≤ p → p < 32 → J' 87 p = 0) (h880 : J' 88 0 = gm_up (I 88) (I 85 5) (I 88 (I 85 5) + t) 0) (h881 : J' 88 1 = gm_up (I 88) (I 85 5) (I 88 (I 85 5) + t) 1) (h5 : J' 85 5 = 1 - I 85 5) : rP J' A lk S := by
  have hA := hg.A
  have heq : gm_eq A mv (J' 87) := fun p a b => (h87 p a b).symm
  have s0 := h.s0
  have s1 := h.s1
  have tt := h.t
  refine ⟨fun p a b => ?_, h87z, heq.st hmv, ?_, ?_, by rw [h16, hc.w, h5], ?_, ?_, h.B⟩
  · rw [h17]
    by_cases g : p < A
    · rw [hc.p p a g, h87 p a g]
    · rw [hc.z p (by omega) b, h87z p (by omega) b]
  · rw [h18, hc.s, h880]
    rcases h.w1 with w | w
    · rw [w, gm_up_s, gm_up_s]; omega
    · rw [w, gm_up_n (by decide), gm_up_n (by decide)]; omega
  · rw [h18, hc.s, h881]
    rcases h.w1 with w | w
    · rw [w, gm_up_n (by decide), gm_up_n (by decide)]; omega
    · rw [w, gm_up_s, gm_up_s]; omega
  · rw [h5]; have := h.w1; omega
  · rw [← heq.tot, h880, h881]
    rcases h.w1 with w | w
    · rw [w, gm_up_s, gm_up_n (by decide)]; omega
    · rw [w, gm_up_s, gm_up_n (by decide)]; omega
/-- the history behind a move -/
theorem rH.step (h : rH K F I A C lk U S) (hp : rP I A lk S) (hg : gm_g R C A) {q : Int} (q0 : 0 ≤ q) (q1 : q < A) (ql : lk q = 0) (qs : gm_sd A q = I 85 5) {mv : (Int → Int) × Int × Int} (hmv : mv = gm_mv A C lk (U 6) (U 7) (U 8) (U 9) (I 87) (I 85 5) q) (nl : mv.2.2 = 0)
    (hc : cst I J (F 59 3) (F' 59 3) A (I 85 37) (I 85 5) (gm_tot A (I 87) - gm_tot A mv.1) mv.1) (hk1 : (K' (F' 59 2)).1 = 100) (hk2 : K' (F' 59 3) = (100, 34 * (K' (F' 59 2)).2)) (hl0 : 16 ≤ (K' (F' 59 2)).2) (hl1 : (K' (F' 59 2)).2 ≤ 1000) (hl2 : I 85 37 + 1 ≤ (K' (F' 59 2)).2)
    (hP : ∀ j, 0 ≤ j → j < I 85 37 → J (F' 59 2) j = I (F 59 2) j) (hQ : J (F' 59 2) (I 85 37) = q) (hkn : J 59 1 = I 85 37 + 1)
    (k59 : J' 59 = J 59) (kP : J' (F' 59 2) = J (F' 59 2)) (kB : J' (F' 59 3) = J (F' 59 3)) (h5 : J' 85 5 = 1 - I 85 5) (h37 : J' 85 37 = I 85 37 + 1) (h38 : J' 85 38 = 0) (h88 : J' 88 = gm_up (I 88) (I 85 5) (I 88 (I 85 5) + (gm_tot A (I 87) - gm_tot A mv.1))) (h87 : ∀ p, 0 ≤ p → p < A → J' 87 p = mv.1 p) (h87z : ∀ p, A ≤ p → p < 32 → J' 87 p = 0)
    (h104 : J' 104 = hk (hk (I 104) (I 85 37) (I 87) (I 88 0) (I 88 1) (I 85 5)) (I 85 37 + 1) (J' 87) (J' 88 0) (J' 88 1) (1 - I 85 5)) : rH K' F' J' A C lk U S := by
  have hA := hg.A
  have a0 := h.a0
  have b0 := h.b0
  have b1 := h.b1
  -- entries
  have E1 : ∀ p, 0 ≤ p → p < 32 → J' 104 ((I 85 37 + 1) * 35 + p) = J' 87 p := fun p a b => by rw [h104]; exact hk_c a b
  have E1a : J' 104 ((I 85 37 + 1) * 35 + 32) = J' 88 0 := by rw [h104]; exact hk_0
  have E1b : J' 104 ((I 85 37 + 1) * 35 + 33) = J' 88 1 := by rw [h104]; exact hk_1
  have E1w : J' 104 ((I 85 37 + 1) * 35 + 34) = 1 - I 85 5 := by rw [h104]; exact hk_w
  have E0 : ∀ p, 0 ≤ p → p < 32 → J' 104 (I 85 37 * 35 + p) = I 87 p := fun p a b => by rw [h104, hk_n a (by omega) (by omega)]; exact hk_c a b
  have E0a : J' 104 (I 85 37 * 35 + 32) = I 88 0 := by rw [h104, hk_n (by omega) (by omega) (by omega)]; exact hk_0
  have E0b : J' 104 (I 85 37 * 35 + 33) = I 88 1 := by rw [h104, hk_n (by omega) (by omega) (by omega)]; exact hk_1
  have E0w : J' 104 (I 85 37 * 35 + 34) = I 85 5 := by rw [h104, hk_n (by omega) (by omega) (by omega)]; exact hk_w
  have En : ∀ j, j < I 85 37 → ∀ p, 0 ≤ p → p < 35 → J' 104 (j * 35 + p) = I 104 (j * 35 + p) := fun j hj p a b => by rw [h104, hk_n a b (by omega), hk_n a b (by omega)]
  have Ec : 0 < I 85 37 → ∀ p, 0 ≤ p → p < 35 → J' 104 (I 85 37 * 35 + p) = I 104 (I 85 37 * 35 + p) := fun hj p a b => by
    obtain ⟨c1, c2, c3, c4⟩ := h.cu (by omega)
    by_cases g : p < 32
    · rw [E0 p a g, c1 p a g]
    · have hp : p = 32 ∨ p = 33 ∨ p = 34 := by omega
      rcases hp with rfl | rfl | rfl
      · rw [E0a, c2]
      · rw [E0b, c3]
      · rw [E0w, c4]
  have heq0 : gm_eq A (I 87) (fun p => J' 104 (I 85 37 * 35 + p)) := fun p a b => (E0 p a (by omega)).symm
  obtain ⟨m1, m2⟩ := heq0.mv hg (kd := U 6) (mr := U 7) (lo := U 8) (hi := U 9) hp.s q0 q1 ql qs
  rw [← hmv] at m1 m2
  have t1 := heq0.tot
  have t2 := m1.tot
  have s0 := hp.s0
  have s1 := hp.s1
  refine ⟨by rw [k59, hc.m, h37], by rw [k59, hkn, h37, h38]; omega, by rw [h37]; omega, by rw [h38]; omega, by rw [h37, h38]; omega, hk1, hk2, hl0, hl1, by rw [h37, h38]; omega, ?_, ?_, ?_⟩
  · rw [h37, h38, kP]
    intro j j0 j1
    by_cases g : j < I 85 37
    · rw [hP j j0 g]
      refine (h.st j j0 (by omega)).congr hg (En j g) ?_
      by_cases g2 : j + 1 < I 85 37
      · exact En (j + 1) g2
      · have : j + 1 = I 85 37 := by omega
        rw [this]
        exact Ec (by omega)
    · have e : j = I 85 37 := by omega
      subst e
      rw [hQ]
      refine ⟨heq0.st hp.s, fun p a b => ?_, by rw [E0w]; exact hp.w1, by rw [E0a]; exact s0.2, by rw [E0b]; exact s1.2, by rw [← t1, E0a, E0b]; exact hp.t, q0, q1, ql, by rw [E0w]; exact qs, ?_, fun p a b => ?_, fun p a b => ?_, ?_, ?_, by rw [E1w, E0w]⟩
      · show J' 104 (I 85 37 * 35 + p) = 0; rw [E0 p (by omega) b]; exact hp.z p a b
      · rw [E0w, ← m2]; exact nl
      · rw [E1 p a (by omega), h87 p a b, E0w]; exact m1 p a b
      · rw [E1 p (by omega) b]; exact h87z p a b
      · rw [E1a, h88, E0a, E0w, ← t1, ← t2]
        rcases hp.w1 with w | w
        · rw [w, gm_up_s, if_pos rfl]
        · rw [w, gm_up_n (by decide), if_neg (by decide)]; omega
      · rw [E1b, h88, E0b, E0w, ← t1, ← t2]
        rcases hp.w1 with w | w
        · rw [w, gm_up_n (by decide), if_neg (by decide)]; omega
        · rw [w, gm_up_s, if_pos rfl]
  · intro _
    rw [h37, h5]
    exact ⟨E1, E1a, E1b, E1w⟩
  · rw [h37, kB]
    intro j j0 j1 p p0 p1
    by_cases g : j < I 85 37
    · rw [hc.b3 j j0 g p p0 p1, h.bo j j0 g p p0 p1, En j g p p0 (by omega)]
    · have e : j = I 85 37 := by omega
      subst e
      by_cases g2 : p < 32
      · rw [hc.b p p0 g2, hp.e p p0 g2, E0 p p0 g2]
      · have := hc.b2 (p - 32) (by omega) (by omega)
        rw [show 32 + (p - 32) = p by omega] at this
        rw [this]
        have hp' : p = 32 ∨ p = 33 := by omega
        rcases hp' with rfl | rfl
        · rw [E0a]; exact s0.1
        · rw [E0b]; exact s1.1
/-- the history behind a move that was made again -/
theorem rH.again (h : rH K F I A C lk U S) (hp : rP I A lk S) (hu : 0 < I 85 38) {t : Int} {mv : Int → Int}
    (hc : cst I J (F 59 3) (F 59 3) A (I 85 37) (I 85 5) t mv) (hkn : J 59 1 = I 59 1) (k59 : J' 59 = J 59) (kP : J' (F 59 2) = I (F 59 2)) (kB : J' (F 59 3) = J (F 59 3)) (h104 : J' 104 = I 104) (h37 : J' 85 37 = I 85 37 + 1) (h38 : J' 85 38 = I 85 38 - 1)
    (h5 : J' 85 5 = I 104 ((I 85 37 + 1) * 35 + 34)) (h880 : J' 88 0 = I 104 ((I 85 37 + 1) * 35 + 32)) (h881 : J' 88 1 = I 104 ((I 85 37 + 1) * 35 + 33)) (h87 : ∀ p, 0 ≤ p → p < 32 → J' 87 p = I 104 ((I 85 37 + 1) * 35 + p)) : rH K F J' A C lk U S := by
  have a0 := h.a0
  have b1 := h.b1
  have l2 := h.l2
  have hb := h.b
  have s0 := hp.s0
  have s1 := hp.s1
  obtain ⟨c1, c2, c3, c4⟩ := h.cu (by omega)
  refine ⟨by rw [k59, hc.m, h37], by rw [k59, hkn, hb, h37, h38]; omega, by rw [h37]; omega, by rw [h38]; omega, by rw [h37, h38]; omega, h.k1, h.k2, h.l0, h.l1, by rw [h37, h38]; omega, ?_, ?_, ?_⟩
  · rw [h37, h38, kP, h104]
    intro j j0 j1
    exact h.st j j0 (by omega)
  · intro _
    rw [h37, h104, h5, h880, h881]
    exact ⟨fun p a b => (h87 p a b).symm, rfl, rfl, rfl⟩
  · rw [h37, h104, kB]
    intro j j0 j1 p p0 p1
    by_cases g : j < I 85 37
    · rw [hc.b3 j j0 g p p0 p1, h.bo j j0 g p p0 p1]
    · have e : j = I 85 37 := by omega
      subst e
      by_cases g2 : p < 32
      · rw [hc.b p p0 g2, hp.e p p0 g2, c1 p p0 g2]
      · have := hc.b2 (p - 32) (by omega) (by omega)
        rw [show 32 + (p - 32) = p by omega] at this
        rw [this]
        have hp' : p = 32 ∨ p = 33 := by omega
        rcases hp' with rfl | rfl
        · rw [c2]; exact s0.1
        · rw [c3]; exact s1.1
end REDO
