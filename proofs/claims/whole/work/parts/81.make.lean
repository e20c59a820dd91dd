-- MOVES: the class's move, with room for the past
def pzV (K : am_K) (F : am_F) : Int := if (K (F 62 4)).2 < 40000 then 12 * (120000 - 2 * (K (F 62 4)).2) else 0
def pzE (K : am_K) (F : am_F) : Int := 2 * (960000 - 2 * (K (F 63 2)).2)
/-- what a call may make -/
def rsm (K K' : am_K) (F F' : am_F) (c z : Nat) : Prop := ((K (F 59 2)).2 ≤ (K' (F' 59 2)).2) ∧ ((c : Int) ≤ 13 + 2 * ((K' (F' 59 2)).2 - (K (F 59 2)).2)) ∧ ((z : Int) + (pzP K' F' + pzV K' F' + pzE K' F') ≤ pzP K F + pzV K F + pzE K F)
theorem rsm.l {K K' : am_K} {F F' : am_F} {c z : Nat} (h : rsm K K' F F' c z) : (K (F 59 2)).2 ≤ (K' (F' 59 2)).2 := h.1
theorem rsm.c {K K' : am_K} {F F' : am_F} {c z : Nat} (h : rsm K K' F F' c z) : (c : Int) ≤ 13 + 2 * ((K' (F' 59 2)).2 - (K (F 59 2)).2) := h.2.1
theorem rsm.z {K K' : am_K} {F F' : am_F} {c z : Nat} (h : rsm K K' F F' c z) : (z : Int) + (pzP K' F' + pzV K' F' + pzE K' F') ≤ pzP K F + pzV K F + pzE K F := h.2.2
/-- the same answer, the relation again, over new memory -/
def eqA (P : Nat → am_K → am_F → am_I → Nat → Nat → Prop) (x : Option am_A) (y : am_K → am_F → am_I → Option (Int × am_I)) : Prop := ∃ v n' K' J F' c z J', x = some (v, n', K', J, F', c, z) ∧ y K' F' J = some (v, J') ∧ P n' K' F' J' c z ∧ J' 2 9 = J' 85 15
/-- what a move of the class leaves -/
def cmv (n n' : Nat) (K K' : am_K) (F F' : am_F) (I J : am_I) (c z : Nat) (A md w q t : Int) (mv : Int → Int) : Prop := (rA n' K' F') ∧ (∀ a j, a < 109 → a ≠ 59 → F' a j = F a j) ∧ (∀ a, a < n → K' a = K a) ∧ (cst I J (F 59 3) (F' 59 3) A md w t mv) ∧ ((K' (F' 59 2)).1 = 100) ∧ (K' (F' 59 3) = (100, 34 * (K' (F' 59 2)).2)) ∧ (16 ≤ (K' (F' 59 2)).2) ∧ ((K' (F' 59 2)).2 ≤ 1000) ∧ (md + 1 ≤ (K' (F' 59 2)).2) ∧ (∀ j, 0 ≤ j → j < md → J (F' 59 2) j = I (F 59 2) j) ∧ (J (F' 59 2) md = q) ∧ (J 59 1 = md + 1) ∧ (J 21 = I 21) ∧ (∀ r, r ∈ [F 62 4, F 62 5, F 62 6, F 62 7, F 63 0, F 63 1, F 63 2] → J r = I r) ∧ (n ≤ n') ∧ ((c : Int) ≤ 2 * ((K' (F' 59 2)).2 - (K (F 59 2)).2)) ∧ (rsm K K' F F' c z)
theorem cmv.a {n n' : Nat} {K K' : am_K} {F F' : am_F} {I J : am_I} {c z : Nat} {A md w q t : Int} {mv : Int → Int} (h : cmv n n' K K' F F' I J c z A md w q t mv) : rA n' K' F' := h.1
theorem cmv.F {n n' : Nat} {K K' : am_K} {F F' : am_F} {I J : am_I} {c z : Nat} {A md w q t : Int} {mv : Int → Int} (h : cmv n n' K K' F F' I J c z A md w q t mv) : ∀ a j, a < 109 → a ≠ 59 → F' a j = F a j := h.2.1
theorem cmv.K {n n' : Nat} {K K' : am_K} {F F' : am_F} {I J : am_I} {c z : Nat} {A md w q t : Int} {mv : Int → Int} (h : cmv n n' K K' F F' I J c z A md w q t mv) : ∀ a, a < n → K' a = K a := h.2.2.1
theorem cmv.t {n n' : Nat} {K K' : am_K} {F F' : am_F} {I J : am_I} {c z : Nat} {A md w q t : Int} {mv : Int → Int} (h : cmv n n' K K' F F' I J c z A md w q t mv) : cst I J (F 59 3) (F' 59 3) A md w t mv := h.2.2.2.1
theorem cmv.k1 {n n' : Nat} {K K' : am_K} {F F' : am_F} {I J : am_I} {c z : Nat} {A md w q t : Int} {mv : Int → Int} (h : cmv n n' K K' F F' I J c z A md w q t mv) : (K' (F' 59 2)).1 = 100 := h.2.2.2.2.1
theorem cmv.k2 {n n' : Nat} {K K' : am_K} {F F' : am_F} {I J : am_I} {c z : Nat} {A md w q t : Int} {mv : Int → Int} (h : cmv n n' K K' F F' I J c z A md w q t mv) : K' (F' 59 3) = (100, 34 * (K' (F' 59 2)).2) := h.2.2.2.2.2.1
theorem cmv.l0 {n n' : Nat} {K K' : am_K} {F F' : am_F} {I J : am_I} {c z : Nat} {A md w q t : Int} {mv : Int → Int} (h : cmv n n' K K' F F' I J c z A md w q t mv) : 16 ≤ (K' (F' 59 2)).2 := h.2.2.2.2.2.2.1
theorem cmv.l1 {n n' : Nat} {K K' : am_K} {F F' : am_F} {I J : am_I} {c z : Nat} {A md w q t : Int} {mv : Int → Int} (h : cmv n n' K K' F F' I J c z A md w q t mv) : (K' (F' 59 2)).2 ≤ 1000 := h.2.2.2.2.2.2.2.1
theorem cmv.l2 {n n' : Nat} {K K' : am_K} {F F' : am_F} {I J : am_I} {c z : Nat} {A md w q t : Int} {mv : Int → Int} (h : cmv n n' K K' F F' I J c z A md w q t mv) : md + 1 ≤ (K' (F' 59 2)).2 := h.2.2.2.2.2.2.2.2.1
theorem cmv.p {n n' : Nat} {K K' : am_K} {F F' : am_F} {I J : am_I} {c z : Nat} {A md w q t : Int} {mv : Int → Int} (h : cmv n n' K K' F F' I J c z A md w q t mv) : ∀ j, 0 ≤ j → j < md → J (F' 59 2) j = I (F 59 2) j := h.2.2.2.2.2.2.2.2.2.1
theorem cmv.q {n n' : Nat} {K K' : am_K} {F F' : am_F} {I J : am_I} {c z : Nat} {A md w q t : Int} {mv : Int → Int} (h : cmv n n' K K' F F' I J c z A md w q t mv) : J (F' 59 2) md = q := h.2.2.2.2.2.2.2.2.2.2.1
theorem cmv.kn {n n' : Nat} {K K' : am_K} {F F' : am_F} {I J : am_I} {c z : Nat} {A md w q t : Int} {mv : Int → Int} (h : cmv n n' K K' F F' I J c z A md w q t mv) : J 59 1 = md + 1 := h.2.2.2.2.2.2.2.2.2.2.2.1
theorem cmv.tk {n n' : Nat} {K K' : am_K} {F F' : am_F} {I J : am_I} {c z : Nat} {A md w q t : Int} {mv : Int → Int} (h : cmv n n' K K' F F' I J c z A md w q t mv) : J 21 = I 21 := h.2.2.2.2.2.2.2.2.2.2.2.2.1
theorem cmv.v7 {n n' : Nat} {K K' : am_K} {F F' : am_F} {I J : am_I} {c z : Nat} {A md w q t : Int} {mv : Int → Int} (h : cmv n n' K K' F F' I J c z A md w q t mv) : ∀ r, r ∈ [F 62 4, F 62 5, F 62 6, F 62 7, F 63 0, F 63 1, F 63 2] → J r = I r := h.2.2.2.2.2.2.2.2.2.2.2.2.2.1
theorem cmv.nn {n n' : Nat} {K K' : am_K} {F F' : am_F} {I J : am_I} {c z : Nat} {A md w q t : Int} {mv : Int → Int} (h : cmv n n' K K' F F' I J c z A md w q t mv) : n ≤ n' := h.2.2.2.2.2.2.2.2.2.2.2.2.2.2.1
theorem cmv.c2 {n n' : Nat} {K K' : am_K} {F F' : am_F} {I J : am_I} {c z : Nat} {A md w q t : Int} {mv : Int → Int} (h : cmv n n' K K' F F' I J c z A md w q t mv) : (c : Int) ≤ 2 * ((K' (F' 59 2)).2 - (K (F 59 2)).2) := h.2.2.2.2.2.2.2.2.2.2.2.2.2.2.2.1
theorem cmv.r {n n' : Nat} {K K' : am_K} {F F' : am_F} {I J : am_I} {c z : Nat} {A md w q t : Int} {mv : Int → Int} (h : cmv n n' K K' F F' I J c z A md w q t mv) : rsm K K' F F' c z := h.2.2.2.2.2.2.2.2.2.2.2.2.2.2.2.2
section MAKE
variable {N n n' : Nat} {K K' : am_K} {F F' : am_F} {I J J' : am_I} {R C A : Int} {lk U : Int → Int} {S x y : Int} {c z : Nat}
theorem mrm.F9 (m : mrm n n' K K' F F' I J c z) (nn : 109 ≤ n) : ∀ a j, a < 109 → a ≠ 59 → F' a j = F a j := fun a j q1 q2 => m.F a j (by omega) q2
theorem mrm.rA (h : rA n K F) (m : mrm n n' K K' F F' I J c z) : rA n' K' F' := by
  have nn := h.nn
  have nn' := m.nn
  have hF := m.F9 nn
  have kk : ∀ i (hi : i < 15), K' ((vrl F)[i]'hi) = K ((vrl F)[i]'hi) := fun i hi => m.K _ (h.v i hi).2
  have e4 := hF 62 4 (by decide) (by decide)
  have e5 := hF 62 5 (by decide) (by decide)
  have e6 := hF 62 6 (by decide) (by decide)
  have e7 := hF 62 7 (by decide) (by decide)
  have g0 := hF 63 0 (by decide) (by decide)
  have g1 := hF 63 1 (by decide) (by decide)
  have g2 := hF 63 2 (by decide) (by decide)
  have w1 := hF 72 1 (by decide) (by decide)
  have w2 := hF 72 2 (by decide) (by decide)
  have w3 := hF 72 3 (by decide) (by decide)
  have w4 := hF 72 4 (by decide) (by decide)
  have w5 := hF 72 5 (by decide) (by decide)
  have w6 := hF 72 6 (by decide) (by decide)
  have k4 : K' (F 62 4) = K (F 62 4) := kk 2 (by decide)
  have k5 : K' (F 62 5) = K (F 62 5) := kk 3 (by decide)
  have k6 : K' (F 62 6) = K (F 62 6) := kk 4 (by decide)
  have k7 : K' (F 62 7) = K (F 62 7) := kk 5 (by decide)
  have l0 : K' (F 63 0) = K (F 63 0) := kk 6 (by decide)
  have l1 : K' (F 63 1) = K (F 63 1) := kk 7 (by decide)
  have l2 : K' (F 63 2) = K (F 63 2) := kk 8 (by decide)
  have m1 : K' (F 72 1) = K (F 72 1) := kk 9 (by decide)
  have m2 : K' (F 72 2) = K (F 72 2) := kk 10 (by decide)
  have m3 : K' (F 72 3) = K (F 72 3) := kk 11 (by decide)
  have m4 : K' (F 72 4) = K (F 72 4) := kk 12 (by decide)
  have m5 : K' (F 72 5) = K (F 72 5) := kk 13 (by decide)
  have m6 : K' (F 72 6) = K (F 72 6) := kk 14 (by decide)
  have hl : vrl F' = F' 59 2 :: F' 59 3 :: (vrl F).drop 2 := by
    unfold vrl
    rw [e4, e5, e6, e7, g0, g1, g2, w1, w2, w3, w4, w5, w6]
    rfl
  have rest : ∀ r, r ∈ (vrl F).drop 2 → vok r ∧ r < n := fun r hr => h.ok r (List.mem_of_mem_drop hr)
  refine ⟨h.c.kept (fun a q => m.K a (by omega)) (fun a j q1 q2 => m.F a j (by omega) (fixd_ne q2)), h.m.kept (fun a q => m.K a (by omega)) (fun a j q1 q2 => m.F a j (by omega) (fixd_ne q2)), ?_, ?_, by omega, ?_, ?_, ?_, ?_, ?_, ?_, ?_, ?_, ?_, ?_, ?_, ?_, ?_, ?_, ?_, ?_, ?_, ?_⟩
  · rw [hl]
    rcases m.v with ⟨a, b, -⟩ | ⟨a, b, -⟩
    · rw [a, b]; exact h.nd
    · rw [a, b]
      have nd2 := h.nd.sublist (List.drop_sublist 2 _)
      refine List.nodup_cons.mpr ⟨fun q => ?_, List.nodup_cons.mpr ⟨fun q => ?_, nd2⟩⟩
      · rcases List.mem_cons.mp q with q | q
        · omega
        · have := (rest _ q).2; omega
      · have := (rest _ q).2; omega
  · intro r hr
    rw [hl] at hr
    have o2 := h.v 0 (by decide)
    have o3 := h.v 1 (by decide)
    have p2 : vok (F 59 2) ∧ F 59 2 < n := o2
    have p3 : vok (F 59 3) ∧ F 59 3 < n := o3
    rcases m.v with ⟨a, b, -⟩ | ⟨a, b, e⟩
    · rw [a, b] at hr
      rcases List.mem_cons.mp hr with rfl | hr
      · exact ⟨p2.1, by omega⟩
      · rcases List.mem_cons.mp hr with rfl | hr
        · exact ⟨p3.1, by omega⟩
        · have := rest r hr; exact ⟨this.1, by omega⟩
    · rw [a, b] at hr
      rcases List.mem_cons.mp hr with rfl | hr
      · exact ⟨by unfold vok; omega, by omega⟩
      · rcases List.mem_cons.mp hr with rfl | hr
        · exact ⟨by unfold vok; omega, by omega⟩
        · have := rest r hr; exact ⟨this.1, by omega⟩
  · rw [hF 85 33 (by decide) (by decide), hF 85 34 (by decide) (by decide)]; exact h.mm
  · rw [e4, k4]; exact h.v1
  · rw [e4, e5, k4, k5]; exact h.v2
  · rw [e4, e6, k4, k6]; exact h.v3
  · rw [e4, e7, k4, k7]; exact h.v4
  · rw [e4, g0, k4, l0]; exact h.g0
  · rw [e4, g1, k4, l1]; exact h.g1
  · rw [g2, l2]; exact h.g2
  · rw [e4, w1, k4, m1]; exact h.w1
  · rw [e4, w2, k4, m2]; exact h.w2
  · rw [e4, w3, k4, m3]; exact h.w3
  · rw [e4, w4, k4, m4]; exact h.w4
  · rw [e4, w5, k4, m5]; exact h.w5
  · rw [g2, w6, l2, m6]; exact h.w6
  · rw [e4, k4]; exact h.V0
  · rw [e4, k4]; exact h.V1
  · rw [g2, l2]; exact h.E0
  · rw [g2, l2]; exact h.E1
theorem mvk_nvk {b : Nat} (h : mvk b = true) : nvk b = true ∧ b < 109 := by
  unfold mvk at h
  unfold nvk
  simp only [Bool.or_eq_true, decide_eq_true_eq, beq_iff_eq, Bool.and_eq_true] at h ⊢
  omega
theorem c_makeMove0 {md w : Int} (hr : cH n K F I md) (hm : md < 1000) (hg : 2 ≤ A ∧ A ≤ 32) (hw : I 16 2 = w) (hw1 : w = 0 ∨ w = 1) {q t : Int} {mv : Int → Int} (q0 : 0 ≤ q) (q1 : q < A) (hrow : ∀ p, 0 ≤ p → p < A → I (23 + q.toNat) p = mv p) (hz : gm_zb A (I (23 + q.toNat))) (ht : I 21 q = t) (hin : am_inI (I 18 w + t)) :
    ∃ n' K' J F' c z, X11_makeMove N 2 n K I F q = some (0, n', K', J, F', c, z) ∧ cmv n n' K K' F F' I J c z A md w q t mv := by
  have ha := hr.m
  have a0 := hr.m0
  obtain ⟨n', K', I1, F', c, z, e1, m⟩ := c_makeRoom (N := N) hr hm
  have hA' := m.rA hr.a
  have hc := hr.a.c
  have hc' := hA'.c
  have nn := hr.a.nn
  have nn' := m.nn
  have vP : vok (F' 59 2) := (hA'.v 0 (by decide)).1
  have vB : vok (F' 59 3) := (hA'.v 1 (by decide)).1
  obtain ⟨nd1, nd2⟩ := rel.nd23 hA'
  have hF := m.F9 nn
  have l2 := m.l2
  have l1 := m.l1
  generalize hI2 : am_u2 I1 (F' 59 2) (I 59 0) q = I2
  have i1 : ∀ a, a < n → I1 a = I a := m.I
  have i2 : ∀ b, b ≠ F' 59 2 → I2 b = I1 b := fun b q => by rw [← hI2]; funext j; exact am_u2_a q
  have r59 : I2 59 0 = md := by rw [i2 59 (vP.ne rfl).symm, i1 59 (by omega), ha]
  obtain ⟨J2, f1, f2, f3, f4, f5, f6, f7⟩ := c_keepAgain (N := N) (I := I2) hc' m.k2 vB (by rw [r59]; omega) m.l1
  rw [r59] at f4 f5 f6 f7
  generalize hI3 : am_u2 J2 59 1 (J2 59 0) = I3
  have i3 : ∀ b, b ≠ 59 → I3 b = J2 b := fun b q => by rw [← hI3]; funext j; exact am_u2_a q
  have low : ∀ b, nvk b = true → b ≠ 59 → b < 109 → I3 b = I b := fun b q p1 p2 => by rw [i3 b p1, f2 b p1 (vB.ne q).symm, i2 b (vP.ne q).symm, i1 b (by omega)]
  have lowI : ∀ b, nvk b = true → b < 109 → I2 b = I b := fun b q p2 => by rw [i2 b (vP.ne q).symm, i1 b (by omega)]
  have hq23 : nvk (23 + q.toNat) = true := by unfold nvk; simp only [Bool.or_eq_true, decide_eq_true_eq]; omega
  have r23 := low (23 + q.toNat) hq23 (by omega) (by omega)
  have r21 := low 21 rfl (by decide) (by decide)
  have r16 := low 16 rfl (by decide) (by decide)
  have r18 := low 18 rfl (by decide) (by decide)
  obtain ⟨J, g1, g2, g3, g4, g5⟩ := c_follow (N := N) (I := I3) (r := 23 + q.toNat) (t := I3 21 q) hc' (by omega) (by rw [r16, hw]; exact hw1) (by rw [r16, hw, r18, r21, ht]; exact hin)
  rw [r16, hw, r18, r21, ht] at g4
  rw [r16, hw] at g5
  rw [r23] at g3
  have rB : J (F' 59 3) = J2 (F' 59 3) := by rw [g2 _ (vB.ne rfl) (vB.ne rfl) (vB.ne rfl), i3 _ (vB.ne rfl)]
  have rP : J (F' 59 2) = I2 (F' 59 2) := by rw [g2 _ (vP.ne rfl) (vP.ne rfl) (vP.ne rfl), i3 _ (vP.ne rfl), f2 _ (vP.ne rfl) nd1]
  have r0 : J 59 = I3 59 := g2 59 (by decide) (by decide) (by decide)
  have fin : ∀ b, nvk b = true → b < 109 → b ≠ 16 → b ≠ 17 → b ≠ 18 → b ≠ 59 → J b = I b := fun b p1 p2 q1 q2 q3 q4 => by rw [g2 b q1 q2 q3, low b p1 q4 p2]
  refine ⟨n', K', J, F', 0 + (0 + c), 0 + (0 + z), ?_, hA', hF, m.K, ⟨fun p a b => by rw [g3 p a (by omega)]; exact hrow p a b, fun p a b => by rw [g3 p (by omega) b]; exact hz p a b, g4, g5, by rw [r0, ← hI3, am_u2_k (by decide), f4], fun p a b => ?_, fun p a b => ?_, fun j j0 j1 p p0 p1 => ?_, fun b q => ?_, fun b q1 q2 => ?_⟩, m.k1, m.k2, m.l0, m.l1, by omega, fun j j0 j1 => ?_, ?_, ?_, ?_, ?_, nn', by have := m.c; omega, ?_, ?_, ?_⟩
  · have ek : X4_keep N 59 n K I F 16 q = some (0, n', K', I3, F', 0 + c, 0 + z) := by
      unfold X4_keep
      rw [e1, am_ca_s]
      refine am_mo_e ?_ (by omega) (by omega)
      rw [cwK_59 hc', if_pos (show ((4, 0) : Nat × Int).1 = 4 from rfl), if_pos m.k1, if_pos (vP.ne rfl), i1 59 (by omega), if_pos (by omega)]
      unfold am_lt
      dsimp only
      rw [hI2, f1, am_cl_s, hI3]
    unfold X11_makeMove
    rw [cwF_2_5 hc, cwF_2_2 hc, cwK_59 hc, if_pos (show ((4, 0) : Nat × Int).1 = 4 from rfl), ek, am_ca_s]
    refine am_mo_e ?_ (by omega) (by omega)
    rw [cwK_2 hc', cwF_2_3 hc', cwF_2_2 hc', cwK_19 hc', cwF_19_2 hc', cwF_19_1 hc', cwK_22 hc', cwK_21 hc', cwK_16 hc', if_pos (show ((11, 0) : Nat × Int).1 = 11 from rfl), if_pos (show ((10, 0) : Nat × Int).1 = 10 from rfl), if_pos (show ((103, 32) : Nat × Int).1 = 103 from rfl), if_pos (show (0 : Int) ≤ q ∧ q < 32 by omega), if_pos (show ((100, 32) : Nat × Int).1 = 100 from rfl), if_pos (show (0 : Int) ≤ q ∧ q < 32 by omega), if_pos (show ((6, 0) : Nat × Int).1 = 6 from rfl), cw_rowF hc' q q0 (by omega), g1, am_cl_s]
  · rw [rB, f5 p a b, lowI 17 rfl (by decide)]
  · rw [rB, f6 p a b, lowI 18 rfl (by decide)]
  · rw [rB, f7 _ (by omega), i2 _ (Ne.symm nd1), m.b _ (by omega) (by omega)]
  · have o := mvk_o q
    have o2 := mvk_nvk q
    exact fin b o2.1 o2.2 (by omega) (by unfold mvk at q; simp only [Bool.or_eq_true, decide_eq_true_eq, beq_iff_eq, Bool.and_eq_true] at q; omega) (by unfold mvk at q; simp only [Bool.or_eq_true, decide_eq_true_eq, beq_iff_eq, Bool.and_eq_true] at q; omega) o.2.2.1
  · exact fin b (by unfold nvk; simp only [Bool.or_eq_true, decide_eq_true_eq, beq_iff_eq, Bool.and_eq_true]; omega) (by omega) (by omega) (by omega) (by omega) (by omega)
  · rw [rP, ← hI2, am_u2_k (by omega), m.p j j0 (by omega)]
  · rw [rP, ← hI2, ← ha, am_u2_s]
  · rw [r0, ← hI3, am_u2_s, f4]
  · exact fin 21 rfl (by decide) (by decide) (by decide) (by decide) (by decide)
  · intro r hr'
    have hv := hr.a.mem7 hr'
    have hr2 : r ∈ [F' 62 4, F' 62 5, F' 62 6, F' 62 7, F' 63 0, F' 63 1, F' 63 2] := by
      rw [hF 62 4 (by decide) (by decide), hF 62 5 (by decide) (by decide), hF 62 6 (by decide) (by decide), hF 62 7 (by decide) (by decide), hF 63 0 (by decide) (by decide), hF 63 1 (by decide) (by decide), hF 63 2 (by decide) (by decide)]
      exact hr'
    obtain ⟨n2, n3⟩ := nd2 r hr2
    rw [g2 r (hv.1.ne rfl) (hv.1.ne rfl) (hv.1.ne rfl), i3 r (hv.1.ne rfl), f2 r (hv.1.ne rfl) n3, i2 r n2, i1 r hv.2]
  · exact m.l3
  · have := m.c; omega
  · have hk4 : K' (F 62 4) = K (F 62 4) := m.K _ (hr.a.v 2 (by decide)).2
    have hk2 : K' (F 63 2) = K (F 63 2) := m.K _ (hr.a.v 8 (by decide)).2
    have e1 : pzV K' F' = pzV K F := by unfold pzV; rw [hF 62 4 (by decide) (by decide), hk4]
    have e2 : pzE K' F' = pzE K F := by unfold pzE; rw [hF 63 2 (by decide) (by decide), hk2]
    have := m.z
    omega
theorem c_makeMove (hr : rel n K F I R C A lk U S) (hm : I 85 37 < 1000) {q t : Int} {mv : Int → Int} (q0 : 0 ≤ q) (q1 : q < A) (hrow : ∀ p, 0 ≤ p → p < A → I (23 + q.toNat) p = mv p) (hz : gm_zb A (I (23 + q.toNat))) (ht : I 21 q = t) (hin : am_inI (I 18 (I 85 5) + t)) :
    ∃ n' K' J F' c z, X11_makeMove N 2 n K I F q = some (0, n', K', J, F', c, z) ∧ cmv n n' K K' F F' I J c z A (I 85 37) (I 85 5) q t mv :=
  c_makeMove0 hr.cH hm hr.g.m.A hr.p.w hr.p.w1 q0 q1 hrow hz ht hin
end MAKE
