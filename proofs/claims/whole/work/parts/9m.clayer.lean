-- SOLVING A LAYER, the class
def lgl (A C : Int) (lk U : Int → Int) (t : Int) (v0 : Int → Int) : Int → Int := gl (gp_top A lk (t - 1)) (gp_top A lk t) (gp_N A C lk U) (gp_T A C lk U) (gp_O A C lk U) (gp_en A lk U) v0
def lgK (A C : Int) (lk U : Int → Int) (t : Int) (v0 : Int → Int) (k : Int) (n : Nat) : Prop := gK (gp_top A lk (t - 1)) (gp_top A lk t) (gp_N A C lk U) (gp_T A C lk U) (gp_O A C lk U) (gp_en A lk U) v0 k n
/-- all but the two lists' places -/
def sw (F F' : am_F) : Prop := ∀ a j, a ≠ 72 ∨ (j ≠ 1 ∧ j ≠ 3) → F' a j = F a j
/-- before the first round -/
def lI (F : am_F) (I J : am_I) (A C : Int) (lk U : Int → Int) (t : Int) (v0 : Int → Int) (x5 x : Int) : Prop := (∀ b, b ≠ F 62 4 → b ≠ F 62 5 → b ≠ F 72 1 → b ≠ F 72 4 → J b = I b) ∧ (∀ k, gp_top A lk (t - 1) ≤ k → k < x → J (F 62 4) k = lgv A C lk U t v0 0 k ∧ J (F 62 5) k = 0 ∧ J (F 72 4) k = 0) ∧ (∀ k, ¬ (gp_top A lk (t - 1) ≤ k ∧ k < x) → J (F 62 4) k = I (F 62 4) k ∧ J (F 62 5) k = I (F 62 5) k) ∧ (∀ j, 0 ≤ j → j < x5 → gp_top A lk (t - 1) ≤ J (F 72 1) j ∧ J (F 72 1) j < x ∧ 0 < gp_N A C lk U (J (F 72 1) j)) ∧ (∀ k, gp_top A lk (t - 1) ≤ k → k < x → 0 < gp_N A C lk U k → ∃ j, 0 ≤ j ∧ j < x5 ∧ J (F 72 1) j = k) ∧ (0 ≤ x5 ∧ x5 ≤ x - gp_top A lk (t - 1))
theorem lI.fr {F : am_F} {I J : am_I} {A C : Int} {lk U : Int → Int} {t : Int} {v0 : Int → Int} {x5 x : Int} (h : lI F I J A C lk U t v0 x5 x) : ∀ b, b ≠ F 62 4 → b ≠ F 62 5 → b ≠ F 72 1 → b ≠ F 72 4 → J b = I b := h.1
theorem lI.dn {F : am_F} {I J : am_I} {A C : Int} {lk U : Int → Int} {t : Int} {v0 : Int → Int} {x5 x : Int} (h : lI F I J A C lk U t v0 x5 x) : ∀ k, gp_top A lk (t - 1) ≤ k → k < x → J (F 62 4) k = lgv A C lk U t v0 0 k ∧ J (F 62 5) k = 0 ∧ J (F 72 4) k = 0 := h.2.1
theorem lI.ou {F : am_F} {I J : am_I} {A C : Int} {lk U : Int → Int} {t : Int} {v0 : Int → Int} {x5 x : Int} (h : lI F I J A C lk U t v0 x5 x) : ∀ k, ¬ (gp_top A lk (t - 1) ≤ k ∧ k < x) → J (F 62 4) k = I (F 62 4) k ∧ J (F 62 5) k = I (F 62 5) k := h.2.2.1
theorem lI.li {F : am_F} {I J : am_I} {A C : Int} {lk U : Int → Int} {t : Int} {v0 : Int → Int} {x5 x : Int} (h : lI F I J A C lk U t v0 x5 x) : ∀ j, 0 ≤ j → j < x5 → gp_top A lk (t - 1) ≤ J (F 72 1) j ∧ J (F 72 1) j < x ∧ 0 < gp_N A C lk U (J (F 72 1) j) := h.2.2.2.1
theorem lI.cm {F : am_F} {I J : am_I} {A C : Int} {lk U : Int → Int} {t : Int} {v0 : Int → Int} {x5 x : Int} (h : lI F I J A C lk U t v0 x5 x) : ∀ k, gp_top A lk (t - 1) ≤ k → k < x → 0 < gp_N A C lk U k → ∃ j, 0 ≤ j ∧ j < x5 ∧ J (F 72 1) j = k := h.2.2.2.2.1
theorem lI.b {F : am_F} {I J : am_I} {A C : Int} {lk U : Int → Int} {t : Int} {v0 : Int → Int} {x5 x : Int} (h : lI F I J A C lk U t v0 x5 x) : 0 ≤ x5 ∧ x5 ≤ x - gp_top A lk (t - 1) := h.2.2.2.2.2
section CLAYER
variable {N n n0 : Nat} {K : am_K} {F F' : am_F} {I J J' : am_I} {R C A : Int} {lk U : Int → Int} {S x y z k p V t s i m x1 x3 x5 x6 ro j : Int} {D r : Nat} {v0 v v' rk rk' : Int → Int}
theorem gp_top_lt (hL : 1 ≤ gm_L A lk) (ht : 0 ≤ t) : gp_top A lk (t - 1) < gp_top A lk t := by
  have h1 := gW_s (m := gm_L A lk) (k := t) (by omega) ht
  have h2 := gW_pos (m := gm_L A lk) (k := t) hL ht
  unfold gp_top
  omega
theorem sw.refl : sw F F := fun _ _ _ => rfl
theorem sw_swp : sw F (swp F) := fun _ _ h => swp_n h
theorem sw_tr {F'' : am_F} (h : sw F F') (h' : sw F' F'') : sw F F'' := fun a j w => (h' a j w).trans (h a j w)
theorem lgS_of (h : lS F I J A C lk U t x v0 r 0) : lgS A C lk U t v0 r := by
  intro k
  show lgv A C lk U t v0 (r + 1) k = lgv A C lk U t v0 r k
  by_cases q : gp_top A lk (t - 1) ≤ k ∧ k < gp_top A lk t
  · by_cases nn : 0 < gp_N A C lk U k
    · refine Classical.byContradiction fun w => ?_
      obtain ⟨j, j0, j1, -⟩ := h.cm k q.1 q.2 nn w
      omega
    · exact (gv_end q nn).trans (gv_end q nn).symm
  · exact (gv_out q).trans (gv_out q).symm
/-- all rounds -/
theorem c_rounds (hN : 2000000 < N) (H : lgH A C lk U t v0) (hv : ∀ k, 0 ≤ k → k < gp_top A lk (t - 1) → -12 ≤ v0 k ∧ v0 k ≤ 12) : ∀ (d f r : Nat) (J : am_I) (F : am_F) (x5 : Int), 480002 - r = d → d < f → r ≤ 480001 → rA n K F → (K (F 62 4)).2 = V → gR K F J R C A lk U V t → lS F I J A C lk U t (K (F 63 2)).2 v0 r x5 →
    ∃ J' F' r', X7_solveLayer_h87 N 72 f n0 K J F 0 0 (F 62 4) (F 62 5) x5 ((r : Int) + 1) = some (0, n0, K, J', F', 0, 0) ∧ rA n K F' ∧ sw F F' ∧ lS F' I J' A C lk U t (K (F 63 2)).2 v0 r' 0 := by
  intro d
  induction d with
  | zero => intro f r J F x5 hd hf hr; omega
  | succ d ih =>
    intro f r J F x5 hd hf hr ha hV hG h
    obtain ⟨f, rfl⟩ : ∃ g, f = g + 1 := ⟨f - 1, by omega⟩
    by_cases q : 0 < x5
    · have hr2 : r ≤ 480000 := by
        refine Nat.not_lt.mp fun w => ?_
        rcases h.ne q with u | ⟨p, hp⟩
        · omega
        · obtain ⟨r0, a1, a2⟩ := H.ends
          have b1 := gS_add a2 (r - r0)
          have b2 := gS_add a2 (r - 1 - r0)
          rw [show r0 + (r - r0) = r by omega] at b1
          rw [show r0 + (r - 1 - r0) = r - 1 by omega] at b2
          exact hp (congrFun (b1.trans b2.symm) p)
      obtain ⟨J1, J2, x5', e1, e2, e3⟩ := c_round (N := N) (n0 := n0) ha hN hV hG H hv h
      have cv : swp F 62 4 = F 62 4 := swp_n (by decide)
      have cr : swp F 62 5 = F 62 5 := swp_n (by decide)
      have c2 : swp F 63 2 = F 63 2 := swp_n (by decide)
      have ha' := swp_rA ha
      have g0 : J2 (F 63 0) = I (F 63 0) ∧ J2 (F 63 1) = I (F 63 1) ∧ J2 (F 63 2) = I (F 63 2) := by
        have b0 : swp F 63 0 = F 63 0 := swp_n (by decide)
        have b1 : swp F 63 1 = F 63 1 := swp_n (by decide)
        have key : ∀ i (hi : i < 15), 6 ≤ i → i ≤ 8 → J2 ((vrl (swp F))[i]'hi) = I ((vrl (swp F))[i]'hi) := fun i hi w1 w2 => e3.fr _ (ha'.ne (i := 2) (j := i) (by decide) hi (by omega)).symm (ha'.ne (i := 3) (j := i) (by decide) hi (by omega)).symm (ha'.ne (i := i) (j := 9) hi (by decide) (by omega)) (ha'.ne (i := i) (j := 10) hi (by decide) (by omega)) (ha'.ne (i := i) (j := 11) hi (by decide) (by omega)) (ha'.ne (i := i) (j := 12) hi (by decide) (by omega))
        have k0 : J2 (swp F 63 0) = I (swp F 63 0) := key 6 (by decide) (by decide) (by decide)
        have k1 : J2 (swp F 63 1) = I (swp F 63 1) := key 7 (by decide) (by decide) (by decide)
        have k2 : J2 (swp F 63 2) = I (swp F 63 2) := key 8 (by decide) (by decide) (by decide)
        rw [b0] at k0
        rw [b1] at k1
        rw [c2] at k2
        exact ⟨k0, k1, k2⟩
      have gI : J (F 63 0) = I (F 63 0) ∧ J (F 63 1) = I (F 63 1) ∧ J (F 63 2) = I (F 63 2) := by
        have key : ∀ i (hi : i < 15), 6 ≤ i → i ≤ 8 → J ((vrl F)[i]'hi) = I ((vrl F)[i]'hi) := fun i hi w1 w2 => h.fr _ (ha.ne (i := 2) (j := i) (by decide) hi (by omega)).symm (ha.ne (i := 3) (j := i) (by decide) hi (by omega)).symm (ha.ne (i := i) (j := 9) hi (by decide) (by omega)) (ha.ne (i := i) (j := 10) hi (by decide) (by omega)) (ha.ne (i := i) (j := 11) hi (by decide) (by omega)) (ha.ne (i := i) (j := 12) hi (by decide) (by omega))
        exact ⟨key 6 (by decide) (by decide) (by decide), key 7 (by decide) (by decide) (by decide), key 8 (by decide) (by decide) (by decide)⟩
      have hG2 : gR K (swp F) J2 R C A lk U V t := swp_gR ha (hG.kept (g0.1.trans gI.1.symm) (g0.2.1.trans gI.2.1.symm) (g0.2.2.trans gI.2.2.symm))
      obtain ⟨J', F', r', f1, f2, f3, f4⟩ := ih f (r + 1) J2 (swp F) x5' (by omega) (by omega) (by omega) ha' (by rw [cv]; exact hV) hG2 (by rw [c2]; exact e3)
      rw [c2] at f4
      refine ⟨J', F', r', ?_, f2, sw_tr sw_swp f3, f4⟩
      rw [cv, cr] at f1
      rw [← f1]
      show X7_solveLayer_s87 N 72 (X7_solveLayer_h87 N 72 f) n0 K J F 0 0 (F 62 4) (F 62 5) x5 ((r : Int) + 1) = _
      unfold X7_solveLayer_s87
      rw [am_mo_0, if_pos q, if_pos (by omega), cwK_72 ha.c, if_pos (show ((7, 0) : Nat × Int).1 = 7 from rfl), e1, am_cl_s, e2, am_ca_s, Nat.add_zero, am_mo_0, if_pos (nb_in (by omega))]
      rfl
    · have x0 : x5 = 0 := by have := h.x; omega
      subst x0
      refine ⟨J, F, r, ?_, ha, sw.refl, h⟩
      show X7_solveLayer_s87 N 72 (X7_solveLayer_h87 N 72 f) n0 K J F 0 0 (F 62 4) (F 62 5) 0 ((r : Int) + 1) = _
      unfold X7_solveLayer_s87 X7_solveLayer_b125
      rw [am_mo_0, if_neg (by decide), am_mo_0]
/-- one place more -/
theorem lI_step (ha : rA n K F) (h : lI F I J A C lk U t v0 x5 x) (x0 : gp_top A lk (t - 1) ≤ x) (x1 : x < gp_top A lk t) :
    (¬ 0 < gp_N A C lk U x → lI F I (am_u2 (am_u2 (am_u2 (am_u2 J (F 62 5) x 0) (F 72 4) x 0) (F 62 4) x 0) (F 62 4) x (gp_en A lk U x)) A C lk U t v0 x5 (x + 1)) ∧
    (0 < gp_N A C lk U x → lI F I (am_u2 (am_u2 (am_u2 (am_u2 J (F 62 5) x 0) (F 72 4) x 0) (F 62 4) x 0) (F 72 1) x5 x) A C lk U t v0 (x5 + 1) (x + 1)) := by
  have ne := fun {i j : Nat} (hi : i < 15) (hj : j < 15) (hij : i < j) => ha.ne hi hj hij
  have d45 : F 62 4 ≠ F 62 5 := ne (i := 2) (j := 3) (by decide) (by decide) (by decide)
  have d41 : F 62 4 ≠ F 72 1 := ne (i := 2) (j := 9) (by decide) (by decide) (by decide)
  have d44 : F 62 4 ≠ F 72 4 := ne (i := 2) (j := 12) (by decide) (by decide) (by decide)
  have d51 : F 62 5 ≠ F 72 1 := ne (i := 3) (j := 9) (by decide) (by decide) (by decide)
  have d54 : F 62 5 ≠ F 72 4 := ne (i := 3) (j := 12) (by decide) (by decide) (by decide)
  have d14 : F 72 1 ≠ F 72 4 := ne (i := 9) (j := 12) (by decide) (by decide) (by decide)
  generalize hJ1 : am_u2 (am_u2 (am_u2 J (F 62 5) x 0) (F 72 4) x 0) (F 62 4) x 0 = J1
  have jf : ∀ b, b ≠ F 62 4 → b ≠ F 62 5 → b ≠ F 72 4 → J1 b = J b := fun b q1 q2 q3 => by rw [← hJ1, am_u2_row_b q1, am_u2_row_b q3, am_u2_row_b q2]
  have j4 : ∀ k, J1 (F 62 4) k = if k = x then 0 else J (F 62 4) k := fun k => by
    rw [← hJ1]
    by_cases q : k = x
    · rw [q, am_u2_s, if_pos rfl]
    · rw [am_u2_k q, am_u2_k q, am_u2_k q, if_neg q]
  have j5 : ∀ k, J1 (F 62 5) k = if k = x then 0 else J (F 62 5) k := fun k => by
    rw [← hJ1, am_u2_a d45.symm, am_u2_a d54]
    by_cases q : k = x
    · rw [q, am_u2_s, if_pos rfl]
    · rw [am_u2_k q, if_neg q]
  have jl : ∀ k, J1 (F 72 4) k = if k = x then 0 else J (F 72 4) k := fun k => by
    rw [← hJ1, am_u2_a d44.symm]
    by_cases q : k = x
    · rw [q, am_u2_s, if_pos rfl]
    · rw [am_u2_k q, am_u2_k q, if_neg q]
  have b := h.b
  refine ⟨fun nn => ⟨fun c q1 q2 q3 q4 => ?_, fun k a c => ?_, fun k q => ?_, fun j a c => ?_, fun k a c w => ?_, by omega⟩, fun nn => ⟨fun c q1 q2 q3 q4 => ?_, fun k a c => ?_, fun k q => ?_, fun j a c => ?_, fun k a c w => ?_, by omega⟩⟩
  · rw [am_u2_row_b q1, jf c q1 q2 q4]; exact h.fr c q1 q2 q3 q4
  · rw [am_u2_a d45.symm, am_u2_a d44.symm, j5, jl]
    by_cases q : k = x
    · have e : lgv A C lk U t v0 0 x = gp_en A lk U x := gv_end ⟨x0, x1⟩ nn
      rw [if_pos q, if_pos q, q, am_u2_s, e]; exact ⟨rfl, rfl, rfl⟩
    · rw [if_neg q, if_neg q, am_u2_k q, j4, if_neg q]; exact h.dn k a (by omega)
  · have : k ≠ x := by omega
    rw [am_u2_a d45.symm, j5, am_u2_k this, j4, if_neg this, if_neg this]; exact h.ou k (by omega)
  · rw [am_u2_row_b d41.symm, jf _ d41.symm d51.symm d14]; have := h.li j a c; exact ⟨this.1, by omega, this.2.2⟩
  · rw [am_u2_row_b d41.symm, jf _ d41.symm d51.symm d14]
    have : k ≠ x := fun u => nn (by rw [← u]; exact w)
    exact h.cm k a (by omega) w
  · rw [am_u2_row_b q3, jf c q1 q2 q4]; exact h.fr c q1 q2 q3 q4
  · rw [am_u2_a d41, am_u2_a d51, am_u2_a d14.symm, j4, j5, jl]
    by_cases q : k = x
    · have e : lgv A C lk U t v0 0 x = 0 := gv_0 ⟨x0, x1⟩ nn
      rw [if_pos q, if_pos q, if_pos q, q, e]; exact ⟨rfl, rfl, rfl⟩
    · rw [if_neg q, if_neg q, if_neg q]; exact h.dn k a (by omega)
  · have : k ≠ x := by omega
    rw [am_u2_a d41, am_u2_a d51, j4, j5, if_neg this, if_neg this]; exact h.ou k (by omega)
  · by_cases q : j = x5
    · rw [q, am_u2_s]; exact ⟨x0, by omega, nn⟩
    · rw [am_u2_k q, jf _ d41.symm d51.symm d14]; have := h.li j a (by omega); exact ⟨this.1, by omega, this.2.2⟩
  · by_cases q : k = x
    · exact ⟨x5, b.1, by omega, by rw [am_u2_s, q]⟩
    · obtain ⟨j, u1, u2, u3⟩ := h.cm k a (by omega) w
      exact ⟨j, u1, by omega, by rw [am_u2_k (by omega), jf _ d41.symm d51.symm d14]; exact u3⟩
theorem c_init (ha : rA n K F) (hV : (K (F 62 4)).2 = V) (hG : gR K F I R C A lk U V t) : ∀ (d f : Nat) (J : am_I) (x5 x : Int), gp_top A lk t - x = d → d < f → gp_top A lk (t - 1) ≤ x → lI F I J A C lk U t v0 x5 x →
    ∃ J' x5', X7_solveLayer_h12 N 72 f n0 K J F 0 0 (gp_top A lk t) (F 62 4) (F 62 5) x5 x = X7_solveLayer_h87 N 72 N n0 K J' F 0 0 (F 62 4) (F 62 5) x5' 1 ∧ lI F I J' A C lk U t v0 x5' (gp_top A lk t) := by
  have ne := fun {i j : Nat} (hi : i < 15) (hj : j < 15) (hij : i < j) => ha.ne hi hj hij
  have V0 := hG.V0
  have V1 := hG.V1
  have nn0 := gp_top_nn (A := A) (lk := lk) (t - 1)
  have hc := ha.c
  have k4 : K (F 62 4) = (100, V) := by rw [← hV]; exact Prod.ext ha.v1 rfl
  have k5 : K (F 62 5) = (100, V) := by rw [← hV]; exact ha.v2
  have kl : K (F 72 4) = (100, V) := by rw [← hV]; exact ha.w4
  have k1 : K (F 72 1) = (100, V) := by rw [← hV]; exact ha.w1
  have n4 : F 62 4 ≠ 1 := (ha.v 2 (by decide)).1.ne rfl
  have n5 : F 62 5 ≠ 1 := (ha.v 3 (by decide)).1.ne rfl
  have nl : F 72 4 ≠ 1 := (ha.v 12 (by decide)).1.ne rfl
  have n1 : F 72 1 ≠ 1 := (ha.v 9 (by decide)).1.ne rfl
  have gk : ∀ i (hi : i < 15), 6 ≤ i → i ≤ 8 → (vrl F)[i]'hi ≠ F 62 4 ∧ (vrl F)[i]'hi ≠ F 62 5 ∧ (vrl F)[i]'hi ≠ F 72 1 ∧ (vrl F)[i]'hi ≠ F 72 4 := fun i hi w1 w2 => ⟨(ha.ne (i := 2) (j := i) (by decide) hi (by omega)).symm, (ha.ne (i := 3) (j := i) (by decide) hi (by omega)).symm, ha.ne (i := i) (j := 9) hi (by decide) (by omega), ha.ne (i := i) (j := 12) hi (by decide) (by omega)⟩
  have g0 : F 63 0 ≠ F 62 4 ∧ F 63 0 ≠ F 62 5 ∧ F 63 0 ≠ F 72 1 ∧ F 63 0 ≠ F 72 4 := gk 6 (by decide) (by decide) (by decide)
  have g1 : F 63 1 ≠ F 62 4 ∧ F 63 1 ≠ F 62 5 ∧ F 63 1 ≠ F 72 1 ∧ F 63 1 ≠ F 72 4 := gk 7 (by decide) (by decide) (by decide)
  have g2 : F 63 2 ≠ F 62 4 ∧ F 63 2 ≠ F 62 5 ∧ F 63 2 ≠ F 72 1 ∧ F 63 2 ≠ F 72 4 := gk 8 (by decide) (by decide) (by decide)
  intro d
  induction d with
  | zero =>
    intro f J x5 x hd hf hx h
    obtain ⟨f, rfl⟩ : ∃ g, f = g + 1 := ⟨f - 1, by omega⟩
    refine ⟨J, x5, ?_, by rw [show gp_top A lk t = x by omega]; exact h⟩
    show X7_solveLayer_s12 N 72 (X7_solveLayer_h12 N 72 f) n0 K J F 0 0 (gp_top A lk t) (F 62 4) (F 62 5) x5 x = _
    unfold X7_solveLayer_s12
    rw [am_mo_0, if_neg (by omega)]
  | succ d ih =>
    intro f J x5 x hd hf hx h
    obtain ⟨f, rfl⟩ : ∃ g, f = g + 1 := ⟨f - 1, by omega⟩
    have st := lI_step ha h hx (by omega)
    have b := h.b
    generalize hJ1 : am_u2 (am_u2 (am_u2 J (F 62 5) x 0) (F 72 4) x 0) (F 62 4) x 0 = J1 at st
    have jg : ∀ c, c ≠ F 62 4 ∧ c ≠ F 62 5 ∧ c ≠ F 72 1 ∧ c ≠ F 72 4 → J1 c = I c := fun c q => by rw [← hJ1, am_u2_row_b q.1, am_u2_row_b q.2.2.2, am_u2_row_b q.2.1]; exact h.fr c q.1 q.2.1 q.2.2.1 q.2.2.2
    have hG1 := hG.kept (jg _ g0) (jg _ g1) (jg _ g2)
    have hm := c_hasMove (N := N) hG1 (k := x) (by omega) (by omega)
    have nx : ∀ J x5, X7_solveLayer_b78 N 72 (X7_solveLayer_h12 N 72 f) n0 K J F 0 0 (gp_top A lk t) (F 62 4) (F 62 5) x5 x = X7_solveLayer_h12 N 72 f n0 K J F 0 0 (gp_top A lk t) (F 62 4) (F 62 5) x5 (x + 1) := fun J x5 => by
      unfold X7_solveLayer_b78 am_lt
      rw [am_mo_0, if_pos (nb_in (by omega))]
    have en : J1 (F 63 0) x = gp_en A lk U x := hG1.G.d x (by omega) (by omega)
    by_cases q : 0 < gp_N A C lk U x
    · obtain ⟨J', x5', e1, e2⟩ := ih f _ _ (x + 1) (by omega) (by omega) (by omega) (st.2 q)
      refine ⟨J', x5', ?_, e2⟩
      rw [← e1]
      show X7_solveLayer_s12 N 72 (X7_solveLayer_h12 N 72 f) n0 K J F 0 0 (gp_top A lk t) (F 62 4) (F 62 5) x5 x = _
      unfold X7_solveLayer_s12 am_lt
      dsimp only
      rw [am_mo_0, if_pos (by omega), k5, if_pos (show ((100, V) : Nat × Int).1 = 100 from rfl), if_pos n5, if_pos (show 0 ≤ x ∧ x < V by omega), cwK_72 hc, if_pos (show ((7, 0) : Nat × Int).1 = 7 from rfl), kl, if_pos (show ((100, V) : Nat × Int).1 = 100 from rfl), if_pos nl, if_pos (show 0 ≤ x ∧ x < V by omega), k4, if_pos (show ((100, V) : Nat × Int).1 = 100 from rfl), if_pos n4, if_pos (show 0 ≤ x ∧ x < V by omega), cwF_72_0 hc, cwK_63 hc, if_pos (show ((0, 0) : Nat × Int).1 = 0 from rfl), hJ1, hm, am_cq_s, if_pos q, if_neg (by decide), k1, if_pos (show ((100, V) : Nat × Int).1 = 100 from rfl), if_pos n1, if_pos (show 0 ≤ x5 ∧ x5 < V by omega), if_pos (nb_in (by omega)), nx]
    · obtain ⟨J', x5', e1, e2⟩ := ih f _ _ (x + 1) (by omega) (by omega) (by omega) (st.1 q)
      refine ⟨J', x5', ?_, e2⟩
      rw [← e1]
      show X7_solveLayer_s12 N 72 (X7_solveLayer_h12 N 72 f) n0 K J F 0 0 (gp_top A lk t) (F 62 4) (F 62 5) x5 x = _
      unfold X7_solveLayer_s12 am_lt
      dsimp only
      rw [am_mo_0, if_pos (by omega), k5, if_pos (show ((100, V) : Nat × Int).1 = 100 from rfl), if_pos n5, if_pos (show 0 ≤ x ∧ x < V by omega), cwK_72 hc, if_pos (show ((7, 0) : Nat × Int).1 = 7 from rfl), kl, if_pos (show ((100, V) : Nat × Int).1 = 100 from rfl), if_pos nl, if_pos (show 0 ≤ x ∧ x < V by omega), k4, if_pos (show ((100, V) : Nat × Int).1 = 100 from rfl), if_pos n4, if_pos (show 0 ≤ x ∧ x < V by omega), cwF_72_0 hc, cwK_63 hc, if_pos (show ((0, 0) : Nat × Int).1 = 0 from rfl), hJ1, hm, am_cq_s, if_neg q, if_pos rfl, hG.k0, if_pos (show ((100, V) : Nat × Int).1 = 100 from rfl), if_pos (show 0 ≤ x ∧ x < V by omega), en, nx]
theorem c_solveLayer (ha : rA n K F) (hN : 2000000 < N) (hV : (K (F 62 4)).2 = V) (hG : gR K F I R C A lk U V t) (ht : 0 ≤ t) (H : lgH A C lk U t v0) (hv : ∀ k, 0 ≤ k → k < gp_top A lk (t - 1) → (-12 ≤ v0 k ∧ v0 k ≤ 12) ∧ I (F 62 4) k = v0 k) :
    ∃ J F', X7_solveLayer N 72 n0 K I F (gp_top A lk (t - 1)) (gp_top A lk t) (F 62 4) (F 62 5) = some (0, n0, K, J, F', 0, 0) ∧ rA n K F' ∧ sw F F' ∧ (∀ k, 0 ≤ k → k < gp_top A lk t → J (F 62 4) k = lgl A C lk U t v0 k) ∧ (∀ k, gp_top A lk (t - 1) ≤ k → k < gp_top A lk t → ∃ m : Nat, J (F 62 5) k = (m : Int) ∧ m ≤ 480001 ∧ lgK A C lk U t v0 k m) ∧ (∀ k, 0 ≤ k → k < gp_top A lk (t - 1) → J (F 62 5) k = I (F 62 5) k) ∧ (∀ b, b ≠ F 62 4 → b ≠ F 62 5 → b ≠ F' 72 1 → b ≠ F 72 2 → b ≠ F' 72 3 → b ≠ F 72 4 → b ≠ F 72 5 → b ≠ F 72 6 → J b = I b) := by
  have ne := fun {i j : Nat} (hi : i < 15) (hj : j < 15) (hij : i < j) => ha.ne hi hj hij
  have V0 := hG.V0
  have V1 := hG.V1
  have nn0 := gp_top_nn (A := A) (lk := lk) (t - 1)
  have slt := gp_top_lt (A := A) (lk := lk) hG.L ht
  have hc := ha.c
  obtain ⟨I1, a1, a2, a3⟩ := c_listLeaders (N := N) (s := gp_top A lk (t - 1)) ⟨hG, by rw [← hV]; exact ha.w5, ha.w6, (ha.v 13 (by decide)).1.ne rfl, (ha.v 14 (by decide)).1.ne rfl, (ne (i := 13) (j := 14) (by decide) (by decide) (by decide)).symm, ne (i := 6) (j := 13) (by decide) (by decide) (by decide), ne (i := 7) (j := 13) (by decide) (by decide) (by decide), ne (i := 8) (j := 13) (by decide) (by decide) (by decide), ne (i := 6) (j := 14) (by decide) (by decide) (by decide), ne (i := 7) (j := 14) (by decide) (by decide) (by decide), ne (i := 8) (j := 14) (by decide) (by decide) (by decide), nn0, slt⟩ hN
  have hG1 : gR K F I1 R C A lk U V t := hG.kept (a2 _ (ne (i := 6) (j := 13) (by decide) (by decide) (by decide)) (ne (i := 6) (j := 14) (by decide) (by decide) (by decide))) (a2 _ (ne (i := 7) (j := 13) (by decide) (by decide) (by decide)) (ne (i := 7) (j := 14) (by decide) (by decide) (by decide))) (a2 _ (ne (i := 8) (j := 13) (by decide) (by decide) (by decide)) (ne (i := 8) (j := 14) (by decide) (by decide) (by decide)))
  have v4 : I1 (F 62 4) = I (F 62 4) := a2 _ (ne (i := 2) (j := 13) (by decide) (by decide) (by decide)) (ne (i := 2) (j := 14) (by decide) (by decide) (by decide))
  have v5 : I1 (F 62 5) = I (F 62 5) := a2 _ (ne (i := 3) (j := 13) (by decide) (by decide) (by decide)) (ne (i := 3) (j := 14) (by decide) (by decide) (by decide))
  obtain ⟨J1, x5, b1, b2⟩ := c_init (N := N) (n0 := n0) (v0 := v0) ha hV hG1 (gp_top A lk t - gp_top A lk (t - 1)).toNat N I1 0 (gp_top A lk (t - 1)) (by omega) (by omega) (Int.le_refl _) ⟨fun _ _ _ _ _ => rfl, fun k a b => by omega, fun _ _ => ⟨rfl, rfl⟩, fun j a b => by omega, fun k a b => by omega, by omega⟩
  have r5 : J1 (F 72 5) = I1 (F 72 5) := b2.fr _ (ne (i := 2) (j := 13) (by decide) (by decide) (by decide)).symm (ne (i := 3) (j := 13) (by decide) (by decide) (by decide)).symm (ne (i := 9) (j := 13) (by decide) (by decide) (by decide)).symm (ne (i := 12) (j := 13) (by decide) (by decide) (by decide)).symm
  have r6 : J1 (F 72 6) = I1 (F 72 6) := b2.fr _ (ne (i := 2) (j := 14) (by decide) (by decide) (by decide)).symm (ne (i := 3) (j := 14) (by decide) (by decide) (by decide)).symm (ne (i := 9) (j := 14) (by decide) (by decide) (by decide)).symm (ne (i := 12) (j := 14) (by decide) (by decide) (by decide)).symm
  have gk : ∀ i (hi : i < 15), 6 ≤ i → i ≤ 8 → J1 ((vrl F)[i]'hi) = I1 ((vrl F)[i]'hi) := fun i hi w1 w2 => b2.fr _ (ha.ne (i := 2) (j := i) (by decide) hi (by omega)).symm (ha.ne (i := 3) (j := i) (by decide) hi (by omega)).symm (ha.ne (i := i) (j := 9) hi (by decide) (by omega)) (ha.ne (i := i) (j := 12) hi (by decide) (by omega))
  have hG2 : gR K F J1 R C A lk U V t := hG1.kept (gk 6 (by decide) (by decide) (by decide)) (gk 7 (by decide) (by decide) (by decide)) (gk 8 (by decide) (by decide) (by decide))
  have hS : lS F I1 J1 A C lk U t (K (F 63 2)).2 v0 0 x5 := by
    refine ⟨fun k a b => ?_, fun k a b => (b2.dn k a b).2.1, b2.ou, b2.li, fun k a b nn _ => b2.cm k a b nn, fun k a b => by rw [(b2.dn k a b).2.2]; exact Int.le_refl _, b2.b, fun _ => Or.inl rfl, a3.kept r5 r6, fun b q1 q2 q3 _ _ q6 => b2.fr b q1 q2 q3 q6⟩
    by_cases q : gp_top A lk (t - 1) ≤ k
    · exact (b2.dn k q b).1
    · have e : lgv A C lk U t v0 0 k = v0 k := gv_out (by omega)
      rw [(b2.ou k (by omega)).1, v4, (hv k a (by omega)).2, e]
  obtain ⟨J, F', r, f1, f2, f3, f4⟩ := c_rounds (N := N) (n0 := n0) hN H (fun k a b => (hv k a b).1) 480002 N 0 J1 F x5 (by omega) (by omega) (by omega) ha hV hG2 hS
  have s4 : F' 62 4 = F 62 4 := f3 62 4 (by decide)
  have s5 : F' 62 5 = F 62 5 := f3 62 5 (by decide)
  have hS := lgS_of f4
  have lim : lgv A C lk U t v0 r = lgl A C lk U t v0 := H.lim hS
  refine ⟨J, F', ?_, f2, f3, fun k a b => ?_, fun k a b => ?_, fun k a b => ?_, fun b q1 q2 q3 q4 q5 q6 q7 q8 => ?_⟩
  · unfold X7_solveLayer
    rw [a1, am_cl_s, b1]
    exact f1
  · rw [← s4, f4.vv k a b, lim]
  · have e := f4.rr k a b
    rw [s5] at e
    obtain ⟨m, m1, m2, m3⟩ := H.kc k r (congrFun lim k)
    obtain ⟨m', y1, y2⟩ := H.kn k
    have := m3.uniq y2
    exact ⟨m, e.trans m2, by omega, m3⟩
  · have := (f4.ro k (by omega)).2
    rw [s5] at this
    rw [this, v5]
  · have c2 : F' 72 2 = F 72 2 := f3 72 2 (by decide)
    have c4 : F' 72 4 = F 72 4 := f3 72 4 (by decide)
    rw [f4.fr b (by rw [s4]; exact q1) (by rw [s5]; exact q2) q3 (by rw [c2]; exact q4) q5 (by rw [c4]; exact q6)]
    exact a2 b q7 q8
end CLAYER
