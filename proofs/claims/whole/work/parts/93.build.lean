-- THE CLASS'S GRAPH: building it
/-- what building a graph may touch -/
def bf (F : am_F) (I J : am_I) : Prop := ∀ b j, b ≠ 20 → b ≠ 21 → (b < 23 ∨ 55 < b) → (b ≠ 19 ∨ j ≠ 3) → b ≠ 67 → b ≠ F 63 0 → b ≠ F 63 1 → b ≠ F 63 2 → J b j = I b j
theorem bf.rfl {F : am_F} {I : am_I} : bf F I I := fun _ _ _ _ _ _ _ _ _ _ => Eq.refl _
theorem bf.trans {F : am_F} {I J H : am_I} (h : bf F I J) (h' : bf F J H) : bf F I H := fun b j a1 a2 a3 a4 a5 a6 a7 a8 => (h' b j a1 a2 a3 a4 a5 a6 a7 a8).trans (h b j a1 a2 a3 a4 a5 a6 a7 a8)
theorem cs.bf {F : am_F} {I J : am_I} (h : cs I J) : bf F I J := fun b j a1 a2 a3 a4 _ _ _ _ => h b j a1 a2 a3 a4
/-- what the class has, for building -/
def cB (K : am_K) (F : am_F) (I : am_I) (R C A : Int) (lk U : Int → Int) (V : Int) : Prop := (cw K F) ∧ (cg I R C A lk) ∧ (cW I) ∧ (gm_isL A lk (I 5)) ∧ (cr I U) ∧ (gm_u U) ∧ (1 ≤ gm_L A lk) ∧ (K (F 63 0) = (100, V)) ∧ (K (F 63 1) = (100, V + 1)) ∧ ((K (F 63 2)).1 = 100) ∧ (V ≤ 40000) ∧ ((K (F 63 2)).2 ≤ 480000) ∧ (vok (F 63 0)) ∧ (vok (F 63 1)) ∧ (vok (F 63 2)) ∧ (F 63 0 ≠ F 63 1) ∧ (F 63 0 ≠ F 63 2) ∧ (F 63 1 ≠ F 63 2)
theorem cB.c {K : am_K} {F : am_F} {I : am_I} {R C A : Int} {lk U : Int → Int} {V : Int} (h : cB K F I R C A lk U V) : cw K F := h.1
theorem cB.g {K : am_K} {F : am_F} {I : am_I} {R C A : Int} {lk U : Int → Int} {V : Int} (h : cB K F I R C A lk U V) : cg I R C A lk := h.2.1
theorem cB.w {K : am_K} {F : am_F} {I : am_I} {R C A : Int} {lk U : Int → Int} {V : Int} (h : cB K F I R C A lk U V) : cW I := h.2.2.1
theorem cB.l {K : am_K} {F : am_F} {I : am_I} {R C A : Int} {lk U : Int → Int} {V : Int} (h : cB K F I R C A lk U V) : gm_isL A lk (I 5) := h.2.2.2.1
theorem cB.r {K : am_K} {F : am_F} {I : am_I} {R C A : Int} {lk U : Int → Int} {V : Int} (h : cB K F I R C A lk U V) : cr I U := h.2.2.2.2.1
theorem cB.u {K : am_K} {F : am_F} {I : am_I} {R C A : Int} {lk U : Int → Int} {V : Int} (h : cB K F I R C A lk U V) : gm_u U := h.2.2.2.2.2.1
theorem cB.L {K : am_K} {F : am_F} {I : am_I} {R C A : Int} {lk U : Int → Int} {V : Int} (h : cB K F I R C A lk U V) : 1 ≤ gm_L A lk := h.2.2.2.2.2.2.1
theorem cB.k0 {K : am_K} {F : am_F} {I : am_I} {R C A : Int} {lk U : Int → Int} {V : Int} (h : cB K F I R C A lk U V) : K (F 63 0) = (100, V) := h.2.2.2.2.2.2.2.1
theorem cB.k1 {K : am_K} {F : am_F} {I : am_I} {R C A : Int} {lk U : Int → Int} {V : Int} (h : cB K F I R C A lk U V) : K (F 63 1) = (100, V + 1) := h.2.2.2.2.2.2.2.2.1
theorem cB.k2 {K : am_K} {F : am_F} {I : am_I} {R C A : Int} {lk U : Int → Int} {V : Int} (h : cB K F I R C A lk U V) : (K (F 63 2)).1 = 100 := h.2.2.2.2.2.2.2.2.2.1
theorem cB.V1 {K : am_K} {F : am_F} {I : am_I} {R C A : Int} {lk U : Int → Int} {V : Int} (h : cB K F I R C A lk U V) : V ≤ 40000 := h.2.2.2.2.2.2.2.2.2.2.1
theorem cB.E1 {K : am_K} {F : am_F} {I : am_I} {R C A : Int} {lk U : Int → Int} {V : Int} (h : cB K F I R C A lk U V) : (K (F 63 2)).2 ≤ 480000 := h.2.2.2.2.2.2.2.2.2.2.2.1
theorem cB.v0 {K : am_K} {F : am_F} {I : am_I} {R C A : Int} {lk U : Int → Int} {V : Int} (h : cB K F I R C A lk U V) : vok (F 63 0) := h.2.2.2.2.2.2.2.2.2.2.2.2.1
theorem cB.v1 {K : am_K} {F : am_F} {I : am_I} {R C A : Int} {lk U : Int → Int} {V : Int} (h : cB K F I R C A lk U V) : vok (F 63 1) := h.2.2.2.2.2.2.2.2.2.2.2.2.2.1
theorem cB.v2 {K : am_K} {F : am_F} {I : am_I} {R C A : Int} {lk U : Int → Int} {V : Int} (h : cB K F I R C A lk U V) : vok (F 63 2) := h.2.2.2.2.2.2.2.2.2.2.2.2.2.2.1
theorem cB.n01 {K : am_K} {F : am_F} {I : am_I} {R C A : Int} {lk U : Int → Int} {V : Int} (h : cB K F I R C A lk U V) : F 63 0 ≠ F 63 1 := h.2.2.2.2.2.2.2.2.2.2.2.2.2.2.2.1
theorem cB.n02 {K : am_K} {F : am_F} {I : am_I} {R C A : Int} {lk U : Int → Int} {V : Int} (h : cB K F I R C A lk U V) : F 63 0 ≠ F 63 2 := h.2.2.2.2.2.2.2.2.2.2.2.2.2.2.2.2.1
theorem cB.n12 {K : am_K} {F : am_F} {I : am_I} {R C A : Int} {lk U : Int → Int} {V : Int} (h : cB K F I R C A lk U V) : F 63 1 ≠ F 63 2 := h.2.2.2.2.2.2.2.2.2.2.2.2.2.2.2.2.2
section BUILD
variable {N n : Nat} {K : am_K} {F : am_F} {I J J' : am_I} {R C A : Int} {lk U : Int → Int} {S x y z k p V t : Int}
theorem rel.cB (h : rel n K F I R C A lk U S) : cB K F I R C A lk U (K (F 62 4)).2 :=
  ⟨h.a.c, h.g.c, h.g.t, h.g.l, h.u.c, h.u.gm.1, h.g.n, h.a.g0, h.a.g1, h.a.g2, h.a.V1, h.a.E1, (h.a.v 6 (by decide)).1, (h.a.v 7 (by decide)).1, (h.a.v 8 (by decide)).1, h.a.ne (i := 6) (j := 7) (by decide) (by decide) (by decide), h.a.ne (i := 6) (j := 8) (by decide) (by decide) (by decide), h.a.ne (i := 7) (j := 8) (by decide) (by decide) (by decide)⟩
/-- fixed rows -/
def bfx (b : Nat) : Bool := b != 20 && b != 21 && (b < 23 || 55 < b) && b != 19 && b != 67 && nvk b
theorem bf.row (h : cB K F I R C A lk U V) (hb : bf F I J) {b : Nat} (q : bfx b = true) : J b = I b := by
  unfold bfx at q
  simp only [Bool.and_eq_true, Bool.or_eq_true, decide_eq_true_eq, bne_iff_ne, ne_eq] at q
  funext j
  exact hb b j q.1.1.1.1.1 q.1.1.1.1.2 q.1.1.1.2 (Or.inl q.1.1.2) q.1.2 (h.v0.ne q.2).symm (h.v1.ne q.2).symm (h.v2.ne q.2).symm
theorem cB.kept (h : cB K F I R C A lk U V) (hb : ∀ b, (3 ≤ b ∧ b ≤ 15) ∨ b = 57 → J b = I b) : cB K F J R C A lk U V := by
  refine ⟨h.c, h.g.kept (fun b a1 a2 => hb b (by omega)), ?_, by rw [hb 5 (by omega)]; exact h.l, h.r.kept (hb 15 (by omega)), h.u, h.L, h.k0, h.k1, h.k2, h.V1, h.E1, h.v0, h.v1, h.v2, h.n01, h.n02, h.n12⟩
  intro m k a b c d; rw [hb 57 (by omega)]; exact h.w m k a b c d
theorem cB.bf (h : cB K F I R C A lk U V) (hb : bf F I J) : cB K F J R C A lk U V := h.kept (fun b q => hb.row h (by
  unfold bfx nvk
  simp only [Bool.and_eq_true, Bool.or_eq_true, decide_eq_true_eq, bne_iff_ne, ne_eq, beq_iff_eq]
  omega))
/-- the survey of a place, as the class keeps it -/
def svy (A C : Int) (lk U : Int → Int) (I : am_I) (k : Int) : Prop := gm_eq A (I 67) (gp_b A lk k) ∧ ∀ p, 0 ≤ p → p < A → I 20 p = gp_al A C lk U k p ∧ (gp_al A C lk U k p = 1 → gm_eq A (I (23 + p.toNat)) (gp_mv A C lk U k p) ∧ I 21 p = gp_tk A C lk U k p)
theorem gp_al_sd (hg : gm_g R C A) (k0 : 0 ≤ k) (k1 : k < gp_top A lk 12) (p0 : 0 ≤ p) (p1 : p < A) (q : gm_sd A p ≠ k % 2) : gp_al A C lk U k p = 0 :=
  (gp_al_01 A C lk U k p).resolve_right (fun w => q (gp_move hg k0 k1 p0 p1 w).sd)
/-- the side's pits, as the class has them -/
theorem gp_n_half (hg : gm_g R C A) (k0 : 0 ≤ k) (k1 : k < gp_top A lk 12) : gp_n A C lk U k (if k % 2 = 0 then 0 else (A / 2).toNat) = 0 ∧ gp_n A C lk U k (if k % 2 = 0 then (A / 2).toNat else A.toNat) = gp_N A C lk U k := by
  have hA := hg.A
  have hh := gm_half hg
  by_cases w : k % 2 = 0
  · rw [if_pos w, if_pos w]
    refine ⟨rfl, ?_⟩
    unfold gp_N gp_n
    refine (gm_sm_ext (by omega) (fun i a b => ?_)).symm
    refine gp_al_sd hg k0 k1 (by omega) (by omega) ?_
    unfold gm_sd
    rw [if_neg (by omega)]; omega
  · rw [if_neg w, if_neg w]
    refine ⟨?_, rfl⟩
    unfold gp_n
    refine gm_sm_z (fun i a b => ?_)
    refine gp_al_sd hg k0 k1 (by omega) (by omega) ?_
    unfold gm_sd
    rw [if_pos (by omega)]; omega
theorem c_keepSurvey (h : cB K F I R C A lk U V) (hN : 100 < N) (ht : t ≤ 12) (hV : gp_top A lk t ≤ V) (k0 : 0 ≤ k) (k1 : k < gp_top A lk t) (hE : gp_cnt A C lk U k.toNat + gp_N A C lk U k ≤ (K (F 63 2)).2) (hs : svy A C lk U I k) (hG : gG K F I A C lk U k) :
    ∃ J, X0_keepSurvey N K F 63 I k (k % 2) = some (0, J) ∧ gG K F J A C lk U (k + 1) ∧ (∀ b, b ≠ F 63 0 → b ≠ F 63 1 → b ≠ F 63 2 → J b = I b) := by
  have hc := h.c
  have hg := h.g.1
  have hA := hg.A
  have hh := gm_half hg
  have hL := h.L
  have V1 := h.V1
  have E1 := h.E1
  have k12 : k < gp_top A lk 12 := by have := gp_top_mono (A := A) (lk := lk) (by omega) ht; omega
  have cn := gp_cnt_nn (A := A) (C := C) (lk := lk) (U := U) (by omega) k.toNat
  have lb := gp_ly_b (A := A) (lk := lk) (by omega) k0 k12
  obtain ⟨hb, hsv⟩ := hs
  have st0 := hG.s k.toNat (by omega)
  rw [show ((k.toNat : Nat) : Int) = k by omega] at st0
  obtain ⟨nh1, nh2⟩ := gp_n_half (lk := lk) (U := U) (k := k) hg k0 k12
  generalize hE0 : gp_cnt A C lk U k.toNat = c at *
  have nle : ∀ m : Nat, (m : Int) ≤ A → 0 ≤ gp_n A C lk U k m ∧ gp_n A C lk U k m ≤ gp_N A C lk U k := fun m hm => by
    have a := gm_sm_mono (gp_al_01 A C lk U k) 0 m
    have b := gm_sm_mono (gp_al_01 A C lk U k) m (A.toNat - m)
    rw [Nat.zero_add] at a
    rw [show m + (A.toNat - m) = A.toNat by omega] at b
    exact ⟨a, b⟩
  have hb4 := gp_b_ok (A := A) (lk := lk) (by omega) k0 k12
  have bd67 : gm_bd A (I 67) := (hb.symm.st hb4.1).bd
  -- the tail: starts and endings
  have tail : ∀ (kk : am_I → Int → Int → Int → Int → Option (Int × am_I)) (J : am_I) (x4 : Int), (∀ b, b ≠ F 63 2 → J b = I b) → ¬ x4 < (if k % 2 = 0 then A / 2 else A) → X0_keepSurvey_s18 N K F 63 kk J k (k % 2) (c + gp_N A C lk U k) x4 = some (0, am_u2 (am_u2 J (F 63 1) (k + 1) (c + gp_N A C lk U k)) (F 63 0) k (gp_en A lk U k)) := by
    intro kk J x4 hJ hx
    have hcB := h.kept (J := am_u2 J (F 63 1) (k + 1) (c + gp_N A C lk U k)) (fun b q => by
      have q1 : b ≠ F 63 1 := (h.v1.ne (by unfold nvk; simp only [Bool.or_eq_true, decide_eq_true_eq]; omega)).symm
      have q2 : b ≠ F 63 2 := (h.v2.ne (by unfold nvk; simp only [Bool.or_eq_true, decide_eq_true_eq]; omega)).symm
      rw [← hJ b q2]; funext j; exact am_u2_a q1)
    have r67 : am_u2 J (F 63 1) (k + 1) (c + gp_N A C lk U k) 67 = I 67 := by
      rw [← hJ 67 (h.v2.ne rfl).symm]; funext j; exact am_u2_a (h.v1.ne rfl).symm
    have c1 := c_counts (N := N) hc hcB.g hN hcB.r (a2 := 67) (cwK_67 hc) (by rw [r67]; exact bd67) (s := k % 2) (m := k % 2) (by omega)
    have c2 := c_counts (N := N) hc hcB.g hN hcB.r (a2 := 67) (cwK_67 hc) (by rw [r67]; exact bd67) (s := 1 - k % 2) (m := k % 2) (by omega)
    rw [r67, gm_ct_eq hb] at c1 c2
    have b1 := gm_ct_b (A := A) (e := U 12) (m := k % 2) (s := k % 2) hb4.1.1
    have b2 := gm_ct_b (A := A) (e := U 12) (m := k % 2) (s := 1 - k % 2) hb4.1.1
    have r8 : J 8 = I 8 := hJ 8 (h.v2.ne rfl).symm
    have e8 : I 8 (k % 2) = if k % 2 = 0 then A / 2 else A := by
      rcases (show k % 2 = 0 ∨ k % 2 = 1 by omega) with w | w
      · rw [w, if_pos rfl]; exact h.g.2.2.2.2.1.2.2.1
      · rw [w, if_neg (by decide)]; exact h.g.2.2.2.2.1.2.2.2
    unfold X0_keepSurvey_s18 am_lt
    dsimp only
    rw [cwF_63_5 hc, cwK_3 hc, if_pos (show ((1, 0) : Nat × Int).1 = 1 from rfl), cwF_3_8 hc, cwK_8 hc, if_pos (show ((100, 2) : Nat × Int).1 = 100 from rfl), if_pos (show 0 ≤ k % 2 ∧ k % 2 < 2 by omega), r8, e8, if_neg hx, if_pos (nb_in (by omega)), h.k1, if_pos (show ((100, V + 1) : Nat × Int).1 = 100 from rfl), if_pos (h.v1.ne rfl), if_pos (show 0 ≤ k + 1 ∧ k + 1 < V + 1 by omega), cwF_63_6 hc, cwK_15 hc, if_pos (show ((8, 0) : Nat × Int).1 = 8 from rfl), cwF_63_4 hc, c1, am_cq_s, if_pos (nb_in (by omega)), c2, am_cq_s, if_pos (nb_in (by omega)), h.k0, if_pos (show ((100, V) : Nat × Int).1 = 100 from rfl), if_pos (h.v0.ne rfl), if_pos (show 0 ≤ k ∧ k < V by omega)]
    rfl
  have key : ∀ (d f : Nat) (J : am_I) (x4 : Int), (if k % 2 = 0 then A / 2 else A) - x4 = d → d < f → (if k % 2 = 0 then 0 else A / 2) ≤ x4 → (∀ b, b ≠ F 63 2 → J b = I b) → (∀ j, j < c → J (F 63 2) j = I (F 63 2) j) → (∀ p : Nat, (p : Int) < x4 → (p : Int) < A → gp_al A C lk U k (p : Int) = 1 → J (F 63 2) (c + gp_n A C lk U k p) = gp_cd A C lk U k (p : Int)) →
      ∃ J', X0_keepSurvey_h18 N K F 63 f J k (k % 2) (c + gp_n A C lk U k x4.toNat) x4 = some (0, am_u2 (am_u2 J' (F 63 1) (k + 1) (c + gp_N A C lk U k)) (F 63 0) k (gp_en A lk U k)) ∧ (∀ b, b ≠ F 63 2 → J' b = I b) ∧ (∀ j, j < c → J' (F 63 2) j = I (F 63 2) j) ∧ (∀ p : Nat, (p : Int) < A → gp_al A C lk U k (p : Int) = 1 → J' (F 63 2) (c + gp_n A C lk U k p) = gp_cd A C lk U k (p : Int)) := by
    intro d
    induction d with
    | zero =>
      intro f J x4 hd hf hx hJ h1 h2
      obtain ⟨f, rfl⟩ : ∃ g, f = g + 1 := ⟨f - 1, by omega⟩
      have e : gp_n A C lk U k x4.toNat = gp_N A C lk U k := by
        rw [← nh2]
        congr 1
        split at hd <;> rename_i w
        · rw [if_pos w]; omega
        · rw [if_neg w]; omega
      rw [e]
      refine ⟨J, tail _ J x4 hJ (by omega), hJ, h1, fun p hp al => ?_⟩
      by_cases w : (p : Int) < x4
      · exact h2 p w hp al
      · exfalso
        have sd := (gp_move hg k0 k12 (by omega) hp al).sd
        unfold gm_sd at sd
        split at hd <;> rename_i v
        · rw [if_neg (by omega)] at sd; omega
        · omega
    | succ d ih =>
      intro f J x4 hd hf hx hJ h1 h2
      obtain ⟨f, rfl⟩ : ∃ g, f = g + 1 := ⟨f - 1, by omega⟩
      have x0 : 0 ≤ x4 := by split at hx <;> omega
      have xA : x4 < A := by split at hd <;> omega
      have nx : gp_n A C lk U k (x4 + 1).toNat = gp_n A C lk U k x4.toNat + gp_al A C lk U k x4 := by
        unfold gp_n
        rw [show (x4 + 1).toNat = x4.toNat + 1 by omega, gm_sm_s, show ((x4.toNat : Nat) : Int) = x4 by omega]
      have nb1 := nle x4.toNat (by omega)
      have nb2 := nle (x4 + 1).toNat (by omega)
      have r8 : J 8 = I 8 := hJ 8 (h.v2.ne rfl).symm
      have r20 : J 20 = I 20 := hJ 20 (h.v2.ne rfl).symm
      have r21 : J 21 = I 21 := hJ 21 (h.v2.ne rfl).symm
      have e8 : I 8 (k % 2) = if k % 2 = 0 then A / 2 else A := by
        rcases (show k % 2 = 0 ∨ k % 2 = 1 by omega) with w | w
        · rw [w, if_pos rfl]; exact h.g.2.2.2.2.1.2.2.1
        · rw [w, if_neg (by decide)]; exact h.g.2.2.2.2.1.2.2.2
      obtain ⟨s1, s2⟩ := hsv x4 x0 xA
      have e0 : X0_keepSurvey_h18 N K F 63 (f + 1) J k (k % 2) (c + gp_n A C lk U k x4.toNat) x4 = X0_keepSurvey_s18 N K F 63 (X0_keepSurvey_h18 N K F 63 f) J k (k % 2) (c + gp_n A C lk U k x4.toNat) x4 := rfl
      rw [e0]
      by_cases al : gp_al A C lk U k x4 = 1
      · obtain ⟨s3, s4⟩ := s2 al
        have m := gp_move hg k0 k12 x0 xA al
        have gc := gcd_mk (N := N) (t := t) hg (by omega) ht (by omega) k0 k1 x0 xA al
        have o0 := gc.o0
        have t0 := gc.t0
        have hr : 23 ≤ 23 + x4.toNat ∧ 23 + x4.toNat ≤ 54 := by omega
        have rr : J (23 + x4.toNat) = I (23 + x4.toNat) := hJ _ (h.v2.ne (by unfold nvk; simp only [Bool.or_eq_true, decide_eq_true_eq]; omega)).symm
        have hcB := h.kept (J := J) (fun b q => hJ b (h.v2.ne (by unfold nvk; simp only [Bool.or_eq_true, decide_eq_true_eq]; omega)).symm)
        have tt := m.tot
        have nu := c_numberOf (N := N) hc hcB.w hcB.g hcB.l hN (a1 := 23 + x4.toNat) (cw_rowK hc _ hr.1 hr.2) (by rw [rr]; exact s3.symm.st m.s) (by rw [rr, s3.tot]; omega)
        rw [rr, s3.nu] at nu
        have to : gp_to A C lk U k x4 = 2 * gm_nu A lk (gp_mv A C lk U k x4) + (1 - k % 2) := rfl
        have code := nb_code (p := x4) (t := gp_tk A C lk U k x4) (o := gp_to A C lk U k x4) (by omega) (by omega) (by omega)
        obtain ⟨J', g1, g2⟩ := ih f (am_u2 J (F 63 2) (c + gp_n A C lk U k x4.toNat) (gp_cd A C lk U k x4)) (x4 + 1) (by omega) (by omega) (by split at hx <;> omega) (fun b q => by rw [← hJ b q]; funext j; exact am_u2_a q) (fun j q => by rw [am_u2_k (by omega)]; exact h1 j q) (fun p hp hpA alp => by
          by_cases w : (p : Int) = x4
          · have e : x4.toNat = p := by omega
            rw [e, am_u2_s, w]
          · have st := gm_sm_str (gp_al_01 A C lk U k) (a := p) (b := x4.toNat) (by omega) alp
            rw [am_u2_k (by unfold gp_n; omega)]
            exact h2 p (by omega) hpA alp)
        rw [nx, al] at g1
        refine ⟨J', ?_, g2⟩
        rw [← g1]
        unfold X0_keepSurvey_s18 X0_keepSurvey_b102 am_lt
        dsimp only
        rw [cwF_63_5 hc, cwK_3 hc, if_pos (show ((1, 0) : Nat × Int).1 = 1 from rfl), cwF_3_8 hc, cwK_8 hc, if_pos (show ((100, 2) : Nat × Int).1 = 100 from rfl), if_pos (show 0 ≤ k % 2 ∧ k % 2 < 2 by omega), r8, e8, if_pos (by omega), cwF_63_7 hc, cwK_19 hc, if_pos (show ((10, 0) : Nat × Int).1 = 10 from rfl), cwF_19_0 hc, cwK_20 hc, if_pos (show ((101, 32) : Nat × Int).1 = 101 from rfl), if_pos (show 0 ≤ x4 ∧ x4 < 32 by omega), r20, s1, if_neg (by omega), cwF_19_2 hc, cwK_22 hc, if_pos (show ((103, 32) : Nat × Int).1 = 103 from rfl), if_pos (show 0 ≤ x4 ∧ x4 < 32 by omega), cwF_63_8 hc, cwK_56 hc, if_pos (show ((3, 0) : Nat × Int).1 = 3 from rfl), cw_rowF hc x4 x0 (by omega), nu, am_cq_s, if_pos (nb_in (by omega)), if_pos (nb_in (by omega)), if_pos (nb_in (by omega)), if_pos (nb_in (by omega)), cwF_19_1 hc, cwK_21 hc, if_pos (show ((100, 32) : Nat × Int).1 = 100 from rfl), if_pos (show 0 ≤ x4 ∧ x4 < 32 by omega), if_pos h.k2, if_pos (h.v2.ne rfl), if_pos (by omega), r21, s4, if_pos (nb_in (by omega)), if_pos (nb_in (by omega)), show 2 * gm_nu A lk (gp_mv A C lk U k x4) + 1 - k % 2 = gp_to A C lk U k x4 by omega, code, show c + gp_n A C lk U k x4.toNat + 1 = c + (gp_n A C lk U k x4.toNat + 1) from Int.add_assoc _ _ _]
        rfl
      · have al0 : gp_al A C lk U k x4 = 0 := (gp_al_01 A C lk U k x4).resolve_right al
        obtain ⟨J', g1, g2⟩ := ih f J (x4 + 1) (by omega) (by omega) (by split at hx <;> omega) hJ h1 (fun p hp hpA alp => by
          by_cases w : (p : Int) = x4
          · rw [w] at alp; exact absurd alp al
          · exact h2 p (by omega) hpA alp)
        rw [nx, al0, Int.add_zero] at g1
        refine ⟨J', ?_, g2⟩
        rw [← g1]
        unfold X0_keepSurvey_s18 X0_keepSurvey_b102 am_lt
        dsimp only
        rw [cwF_63_5 hc, cwK_3 hc, if_pos (show ((1, 0) : Nat × Int).1 = 1 from rfl), cwF_3_8 hc, cwK_8 hc, if_pos (show ((100, 2) : Nat × Int).1 = 100 from rfl), if_pos (show 0 ≤ k % 2 ∧ k % 2 < 2 by omega), r8, e8, if_pos (by omega), cwF_63_7 hc, cwK_19 hc, if_pos (show ((10, 0) : Nat × Int).1 = 10 from rfl), cwF_19_0 hc, cwK_20 hc, if_pos (show ((101, 32) : Nat × Int).1 = 101 from rfl), if_pos (show 0 ≤ x4 ∧ x4 < 32 by omega), r20, s1, if_pos al0, if_pos (nb_in (by omega))]
  have e7 : I 7 (k % 2) = if k % 2 = 0 then 0 else A / 2 := by
    rcases (show k % 2 = 0 ∨ k % 2 = 1 by omega) with w | w
    · rw [w, if_pos rfl]; exact h.g.2.2.2.2.1.1
    · rw [w, if_neg (by decide)]; exact h.g.2.2.2.2.1.2.1
  obtain ⟨J', g1, g2, g3, g4⟩ := key ((if k % 2 = 0 then A / 2 else A) - (if k % 2 = 0 then 0 else A / 2)).toNat N I (if k % 2 = 0 then 0 else A / 2) (by split <;> omega) (by split <;> omega) (Int.le_refl _) (fun _ _ => rfl) (fun _ _ => rfl) (fun p hp hpA al => by
    exfalso
    have sd := (gp_move hg k0 k12 (by omega) hpA al).sd
    unfold gm_sd at sd
    split at hp <;> rename_i v
    · omega
    · rw [if_pos (by omega)] at sd; omega)
  have z0 : gp_n A C lk U k (if k % 2 = 0 then (0 : Int) else A / 2).toNat = 0 := by
    have e : (if k % 2 = 0 then (0 : Int) else A / 2).toNat = if k % 2 = 0 then 0 else (A / 2).toNat := by split <;> rfl
    rw [e]; exact nh1
  rw [z0, Int.add_zero] at g1
  generalize hJ2 : am_u2 (am_u2 J' (F 63 1) (k + 1) (c + gp_N A C lk U k)) (F 63 0) k (gp_en A lk U k) = J2 at g1
  have r1 : ∀ j, J2 (F 63 1) j = if j = k + 1 then c + gp_N A C lk U k else I (F 63 1) j := fun j => by
    rw [← hJ2, am_u2_a (Ne.symm h.n01)]
    unfold am_u2
    by_cases w : j = k + 1
    · rw [if_pos ⟨rfl, w⟩, if_pos w]
    · rw [if_neg (fun v => w v.2), if_neg w, g2 _ h.n12]
  have r0 : ∀ j, J2 (F 63 0) j = if j = k then gp_en A lk U k else I (F 63 0) j := fun j => by
    rw [← hJ2]
    by_cases w : j = k
    · rw [w, am_u2_s, if_pos rfl]
    · rw [am_u2_k w, am_u2_a h.n01, if_neg w, g2 _ h.n02]
  have r2 : J2 (F 63 2) = J' (F 63 2) := by rw [← hJ2]; funext j; rw [am_u2_a (Ne.symm h.n02), am_u2_a (Ne.symm h.n12)]
  refine ⟨J2, ?_, ⟨?_, fun j hj => ?_, fun j hj p hp al => ?_, fun j j0 j1 => ?_⟩, fun b b0 b1 b2 => by rw [← hJ2, ← g2 b b2]; funext j; rw [am_u2_a b0, am_u2_a b1]⟩
  · unfold X0_keepSurvey am_lt
    dsimp only
    rw [h.k1, if_pos (show ((100, V + 1) : Nat × Int).1 = 100 from rfl), if_pos (show 0 ≤ k ∧ k < V + 1 by omega), cwF_63_5 hc, cwK_3 hc, if_pos (show ((1, 0) : Nat × Int).1 = 1 from rfl), cwF_3_7 hc, cwK_7 hc, if_pos (show ((100, 2) : Nat × Int).1 = 100 from rfl), if_pos (show 0 ≤ k % 2 ∧ k % 2 < 2 by omega), st0, e7, g1]
  · rw [r1, if_neg (by omega)]; exact hG.s0
  · rw [r1]
    by_cases w : (j : Int) = k + 1
    · rw [if_pos w, show j = k.toNat + 1 by omega, gp_cnt_s, hE0, show ((k.toNat : Nat) : Int) = k by omega]
    · rw [if_neg w]; exact hG.s j (by omega)
  · rw [r2]
    by_cases w : (j : Int) = k
    · have : j = k.toNat := by omega
      rw [this, hE0, show ((k.toNat : Nat) : Int) = k by omega]
      rw [w] at al
      exact g4 p hp al
    · have lt : (j : Int) < k := by omega
      have nn : gp_cnt A C lk U j + gp_n A C lk U (j : Int) p < c := by
        have a := gp_cnt_le (A := A) (C := C) (lk := lk) (U := U) (by omega) (a := j + 1) (b := k.toNat) (by omega)
        rw [gp_cnt_s, hE0] at a
        have b := (gp_p_of (A := A) (C := C) (lk := lk) (U := U) (k := (j : Int)) hp al).2.2
        omega
      rw [g3 _ nn]
      exact hG.e j lt p hp al
  · rw [r0]
    by_cases w : j = k
    · rw [if_pos w, w]
    · rw [if_neg w]; exact hG.d j j0 (by omega)
end BUILD
