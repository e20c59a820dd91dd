-- CALLS: line
/-- the places of a line -/
def gl_w (A C : Int) (lk U v r : Int → Int) (x : Int) : Nat → Int
  | 0 => x
  | i + 1 => gp_to A C lk U (gl_w A C lk U v r x i) (gp_bst A C lk U v r (gl_w A C lk U v r x i))
/-- the place among those ahead that came again -/
def gl_ix (w : Nat → Int) (m : Nat) : Int := gs_f (fun j => decide (w j.toNat = w m)) m 0
/-- how long the line is, and which place came again; d moves more at most -/
def gl_run (b : Int → Int) (w : Nat → Int) : Nat → Nat → Nat × Int
  | 0, i => (i, -1)
  | d + 1, i => if b (w i) < 0 then (i, -1) else if 0 ≤ gl_ix w (i + 1) then (i + 1, gl_ix w (i + 1)) else gl_run b w d (i + 1)
section LINE
variable {N n : Nat} {K : am_K} {F : am_F} {I J J' : am_I} {R C A : Int} {lk U : Int → Int} {S x y z k p V t : Int}
theorem gl_ix_v (w : Nat → Int) (m : Nat) : gl_ix w m = -1 ∨ (0 ≤ gl_ix w m ∧ gl_ix w m < m) := by
  unfold gl_ix
  rcases gs_f_v (fun j => decide (w j.toNat = w m)) m 0 (by omega) with ⟨a, -⟩ | ⟨a, b, -, -⟩
  · exact Or.inl a
  · exact Or.inr ⟨a, by omega⟩
theorem gl_run_b {b : Int → Int} {w : Nat → Int} : ∀ (d i : Nat), i ≤ (gl_run b w d i).1 ∧ (gl_run b w d i).1 ≤ i + d
  | 0, i => ⟨Nat.le_refl _, Nat.le_refl _⟩
  | d + 1, i => by
    unfold gl_run
    split
    · exact ⟨Nat.le_refl _, by omega⟩
    · split
      · exact ⟨by omega, by omega⟩
      · have := gl_run_b (b := b) (w := w) d (i + 1); omega
theorem rel.lin (h : rel n K F I R C A lk U S) (hfr : ∀ b, b ≠ 2 ∧ b ≠ 79 ∧ b ≠ 80 ∧ b ≠ 81 ∧ b ≠ 105 ∧ b ≠ 106 ∧ b ≠ 85 ∧ b ≠ 91 ∧ b ≠ 92 ∧ b ≠ 103 → J b = I b) (h85 : ∀ j, (j < 15 ∨ 15 < j) → (j < 17 ∨ 19 < j) → j ≠ 39 → j ≠ 40 → j ≠ 43 → J 85 j = I 85 j) (hl : rL J) : rel n K F J R C A lk U S := by
  have fv : ∀ r, r ∈ vrl F → J r = I r := fun r hr => by
    have o := (h.a.ok r hr).1
    exact hfr r ⟨o.ne rfl, o.ne rfl, o.ne rfl, o.ne rfl, o.ne rfl, o.ne rfl, o.ne rfl, o.ne rfl, o.ne rfl, o.ne rfl⟩
  have m : ∀ i (hi : i < 15), J ((vrl F)[i]'hi) = I ((vrl F)[i]'hi) := fun i hi => fv _ (List.getElem_mem _)
  have k : ∀ j, (j < 15 ∨ 15 < j) ∧ (j < 17 ∨ 19 < j) ∧ j ≠ 39 ∧ j ≠ 40 ∧ j ≠ 43 → J 85 j = I 85 j := fun j q => h85 j q.1 q.2.1 q.2.2.1 q.2.2.2.1 q.2.2.2.2
  refine ⟨h.a, h.g.kept (fun b q => hfr b (by omega)) (k 0 (by decide)) (k 1 (by decide)), h.u.kept (hfr 15 (by decide)) (fun j a b => k j (by omega)), h.p.kept (hfr 17 (by decide)) (hfr 18 (by decide)) (congrFun (hfr 16 (by decide)) 2) (hfr 87 (by decide)) (hfr 88 (by decide)) (k 5 (by decide)), ?_, hl, ?_, ?_⟩
  · exact h.h.kept ⟨congrFun (hfr 59 (by decide)) 0, congrFun (hfr 59 (by decide)) 1⟩ ⟨k 37 (by decide), k 38 (by decide), k 5 (by decide)⟩ (m 0 (by decide)) (m 1 (by decide)) (hfr 104 (by decide)) (hfr 87 (by decide)) (hfr 88 (by decide))
  · exact h.v.kept (hfr 83 (by decide)) (hfr 84 (by decide)) (hfr 107 (by decide)) (hfr 108 (by decide))
  · exact h.q.kept (hfr 62 (by decide)) (congrFun (hfr 63 (by decide)) 3) ⟨k 21 (by decide), k 22 (by decide), k 23 (by decide), k 24 (by decide)⟩ fv (hfr 93 (by decide)) (hfr 94 (by decide)) (hfr 95 (by decide)) (hfr 96 (by decide))
/-- the class's best move does not ask of other rows -/
theorem rel.cbest' (h : rel n K F I R C A lk U S) (hN : 100 < N) (w : I 85 21 ≠ 0) (k0 : 0 ≤ k) (k1 : k < gp_top A lk (I 85 23 - 1)) (hJ : ∀ r, vok r → J r = I r) : X9_bestEdge N K F J 62 k = some (if gp_bst A C lk U (I 93) (I 94) k < 0 then -1 else gp_cd A C lk U k (gp_bst A C lk U (I 93) (I 94) k)) := by
  have hL := h.g.n
  have q := h.on w
  have gs := h.q.gs (by have := h.q.b1; omega)
  have g0 := h.q.g0
  have y := q.y
  have v4 : vok (F 62 4) := (h.a.v 2 (by decide)).1
  have v5 : vok (F 62 5) := (h.a.v 3 (by decide)).1
  have gr := h.gR.kept (J := J) (hJ _ (h.a.v 6 (by decide)).1) (hJ _ (h.a.v 7 (by decide)).1) (hJ _ (h.a.v 8 (by decide)).1)
  have mt := gp_top_mono (A := A) (lk := lk) (by omega) (show I 85 23 - 1 ≤ I 63 3 - 1 by omega)
  have k12 := gr.lt (k := k) (by omega)
  have le := gp_ly_le (A := A) (lk := lk) (by omega) k0 k12 k1
  have ml := gp_top_mono (A := A) (lk := lk) (by omega) le
  have hv : ∀ j, 0 ≤ j → j < gp_top A lk (I 85 23 - 1) → J (F 62 4) j = I 93 j ∧ J (F 62 5) j = I 94 j := fun j a b => by rw [hJ _ v4, hJ _ v5]; exact ⟨(q.v j a b).1, (q.v j a b).2.1⟩
  have m := q.m
  have := c_bestEdge (N := N) gr hN (by rw [← h.a.v1]) h.a.v2 k0 (by omega) (fun j a b => by
    have e := q.v j a (by omega)
    have l := gp_ly_b (A := A) (lk := lk) (by omega) a (gr.lt (k := j) (by omega))
    unfold gp_ly at l
    rw [hJ _ v4]
    omega)
  rw [gp_bst_congr (v' := I 93) (r' := I 94) h.g.m.g (by omega) k0 k1 (by omega) hv] at this
  exact this
theorem c_indexOf (hc : cw K F) (hN : 2000000 < N) {m : Nat} (hm : m ≤ 400) (hl : I 79 1 = (m : Int)) {q : Int} : X2_indexOf N K F I 79 q = some (gs_f (fun j => decide (I 81 j = q)) m 0) := by
  have key : ∀ (d f : Nat) (j : Int), (m : Int) - j = d → d < f → 0 ≤ j → X2_indexOf_h2 N K F I 79 f q j = some (gs_f (fun j => decide (I 81 j = q)) d j) := by
    intro d
    induction d with
    | zero =>
      intro f j hd hf j0
      obtain ⟨f, rfl⟩ : ∃ g, f = g + 1 := ⟨f - 1, by omega⟩
      show X2_indexOf_s2 N K F I 79 (X2_indexOf_h2 N K F I 79 f) q j = _
      unfold X2_indexOf_s2
      rw [hl, if_neg (by omega)]; rfl
    | succ d ih =>
      intro f j hd hf j0
      obtain ⟨f, rfl⟩ : ∃ g, f = g + 1 := ⟨f - 1, by omega⟩
      show X2_indexOf_s2 N K F I 79 (X2_indexOf_h2 N K F I 79 f) q j = _
      unfold X2_indexOf_s2
      rw [hl, if_pos (by omega), cwF_79_4 hc, cwK_81 hc, if_pos (show ((100, 401) : Nat × Int).1 = 100 from rfl), if_pos (show 0 ≤ j ∧ j < 401 by omega)]
      unfold gs_f
      by_cases e : I 81 j = q
      · rw [if_pos e, decide_eq_true e, if_pos rfl]
      · rw [if_neg e, if_pos (nb_in (by omega)), decide_eq_false e, if_neg (by decide)]
        exact ih f (j + 1) (by omega) (by omega) (by omega)
  exact key m N 0 (by omega) (by omega) (by omega)
/-- places of a line are solved ones -/
theorem gl_w_ok (hg : gm_g R C A) (hL : 0 ≤ gm_L A lk) (ht : t ≤ 12) {v r : Int → Int} {i : Nat} (h0 : 0 ≤ gl_w A C lk U v r x i) (h1 : gl_w A C lk U v r x i < gp_top A lk t) (hb : ¬ gp_bst A C lk U v r (gl_w A C lk U v r x i) < 0) : 0 ≤ gl_w A C lk U v r x (i + 1) ∧ gl_w A C lk U v r x (i + 1) < gp_top A lk t := by
  have hA := hg.A
  rcases gp_bst_v (A := A) (C := C) (lk := lk) (U := U) (v := v) (r := r) (k := gl_w A C lk U v r x i) (by omega) with ⟨b1, -⟩ | ⟨b1, b2, b3⟩
  · omega
  · exact gp_to_lt hg hL h0 h1 ht b1 b2 b3
theorem c_follow_l (h : rel n K F I R C A lk U S) (hN : 2000000 < N) (w : I 85 21 ≠ 0) : ∀ (d f i : Nat) (J : am_I), 400 - i = d → d < f → i ≤ 400 → (∀ b, b ≠ 79 → b ≠ 80 → b ≠ 81 → J b = I b) → J 79 0 = 1 → J 79 1 = (i : Int) → J 79 2 = -1 → (∀ j : Nat, j ≤ i → J 81 (j : Int) = gl_w A C lk U (I 93) (I 94) x j) → (∀ j : Nat, j < i → J 80 (j : Int) = gp_bst A C lk U (I 93) (I 94) (gl_w A C lk U (I 93) (I 94) x j)) → 0 ≤ gl_w A C lk U (I 93) (I 94) x i → gl_w A C lk U (I 93) (I 94) x i < gp_top A lk (I 85 23 - 1) →
    ∃ J', X2_follow_h18 N K F 79 f J 62 (gl_w A C lk U (I 93) (I 94) x i) = some (0, J') ∧ (∀ b, b ≠ 79 → b ≠ 80 → b ≠ 81 → J' b = I b) ∧ J' 79 0 = 1 ∧ J' 79 1 = ((gl_run (gp_bst A C lk U (I 93) (I 94)) (gl_w A C lk U (I 93) (I 94) x) d i).1 : Int) ∧ J' 79 2 = (gl_run (gp_bst A C lk U (I 93) (I 94)) (gl_w A C lk U (I 93) (I 94) x) d i).2 ∧ (∀ j : Nat, j < (gl_run (gp_bst A C lk U (I 93) (I 94)) (gl_w A C lk U (I 93) (I 94) x) d i).1 → J' 80 (j : Int) = gp_bst A C lk U (I 93) (I 94) (gl_w A C lk U (I 93) (I 94) x j)) := by
  have hc := h.a.c
  have hA := h.g.m.A
  have hL := h.g.n
  have q := h.on w
  have v := h.V q
  have gs := h.q.gs (by have := h.q.b1; omega)
  have g0 := h.q.g0
  have y := q.y
  have qm := q.m
  have mt := gp_top_mono (A := A) (lk := lk) (by omega) (show I 85 23 - 1 ≤ I 63 3 - 1 by omega)
  generalize hw : gl_w A C lk U (I 93) (I 94) x = W
  have ws : ∀ i, W (i + 1) = gp_to A C lk U (W i) (gp_bst A C lk U (I 93) (I 94) (W i)) := fun i => by rw [← hw]; rfl
  have wok : ∀ i, 0 ≤ W i → W i < gp_top A lk (I 85 23 - 1) → ¬ gp_bst A C lk U (I 93) (I 94) (W i) < 0 → 0 ≤ W (i + 1) ∧ W (i + 1) < gp_top A lk (I 85 23 - 1) := fun i a b c => by
    rw [← hw] at *; exact gl_w_ok h.g.m.g (by omega) (by omega) a b c
  intro d
  induction d with
  | zero =>
    intro f i J hd hf hi hJ h0 h1 h2 h3 h4 w0 w1
    obtain ⟨f, rfl⟩ : ∃ g, f = g + 1 := ⟨f - 1, by omega⟩
    refine ⟨J, ?_, hJ, h0, h1, h2, h4⟩
    show X2_follow_s18 N K F 79 (X2_follow_h18 N K F 79 f) J 62 (W i) = _
    unfold X2_follow_s18 X2_follow_b100
    rw [h1, if_neg (by omega)]
  | succ d ih =>
    intro f i J hd hf hi hJ h0 h1 h2 h3 h4 w0 w1
    obtain ⟨f, rfl⟩ : ∃ g, f = g + 1 := ⟨f - 1, by omega⟩
    have be := h.cbest' (N := N) (J := J) (by omega) w w0 w1 (fun r o => hJ r (o.ne rfl) (o.ne rfl) (o.ne rfl))
    have bv := gp_bst_v (A := A) (C := C) (lk := lk) (U := U) (v := I 93) (r := I 94) (k := W i) (by omega)
    have wn := wok i w0 w1
    have wsi := ws i
    have rn : gl_run (gp_bst A C lk U (I 93) (I 94)) W (d + 1) i = if gp_bst A C lk U (I 93) (I 94) (W i) < 0 then (i, -1) else if 0 ≤ gl_ix W (i + 1) then (i + 1, gl_ix W (i + 1)) else gl_run (gp_bst A C lk U (I 93) (I 94)) W d (i + 1) := rfl
    rw [rn]
    generalize hbt : gp_bst A C lk U (I 93) (I 94) (W i) = B at *
    have e0 : X2_follow_h18 N K F 79 (f + 1) J 62 (W i) = X2_follow_s18 N K F 79 (X2_follow_h18 N K F 79 f) J 62 (W i) := rfl
    by_cases hB : B < 0
    · rw [if_pos hB]
      rw [if_pos hB] at be
      refine ⟨J, ?_, hJ, h0, h1, h2, h4⟩
      rw [e0]
      unfold X2_follow_s18
      rw [h1, if_pos (by omega), h2, if_pos (by decide), cwK_62 hc, if_pos (show ((9, 0) : Nat × Int).1 = 9 from rfl), be, am_cq_s, if_pos (by decide)]
    · rw [if_neg hB]
      rw [if_neg hB] at be
      obtain ⟨b1, b2, b3⟩ : 0 ≤ B ∧ B < A ∧ gp_al A C lk U (W i) B = 1 := by
        rcases bv with ⟨a, -⟩ | a
        · omega
        · exact a
      obtain ⟨wn0, wn1⟩ := wn hB
      have cd := h.gR.cd (N := N) (k := W i) w0 (by omega) b1 b2 b3
      have c0 := cd.c0
      generalize hJ1 : am_u2 (am_u2 J 80 (i : Int) B) 79 1 ((i : Int) + 1) = J1
      have j1 : ∀ b, b ≠ 79 → b ≠ 80 → J1 b = J b := fun b a c => by rw [← hJ1]; funext j; rw [am_u2_a a, am_u2_a c]
      have j79 : J1 79 1 = ((i + 1 : Nat) : Int) := by rw [← hJ1, am_u2_s]; omega
      have ix := c_indexOf (N := N) (I := J1) hc hN (m := i + 1) (by omega) j79 (q := W (i + 1))
      have ixe : gs_f (fun j => decide (J1 81 j = W (i + 1))) (i + 1) 0 = gl_ix W (i + 1) := by
        unfold gl_ix
        refine gs_f_congr _ _ (fun j a b => ?_)
        have e := h3 j.toNat (by omega)
        rw [show ((j.toNat : Nat) : Int) = j by omega] at e
        rw [j1 81 (by decide) (by decide), e]
      rw [ixe] at ix
      generalize hJ2 : am_u2 (am_u2 J1 79 2 (gl_ix W (i + 1))) 81 ((i : Int) + 1) (W (i + 1)) = J2
      have e1 : X2_follow_h18 N K F 79 (f + 1) J 62 (W i) = X2_follow_h18 N K F 79 f J2 62 (W (i + 1)) := by
        rw [e0]
        unfold X2_follow_s18 am_lt
        dsimp only
        have r1 : am_u2 J 80 (i : Int) B 79 1 = (i : Int) := by rw [am_u2_a (by decide)]; exact h1
        have r2 : am_u2 J1 79 2 (gl_ix W (i + 1)) 79 1 = (i : Int) + 1 := by rw [am_u2_k (by decide), ← hJ1, am_u2_s]
        rw [h1, if_pos (by omega), h2, if_pos (by decide), cwK_62 hc, if_pos (show ((9, 0) : Nat × Int).1 = 9 from rfl), be, am_cq_s, if_neg (by omega), cd.o, am_cq_s, cd.p, am_cq_s, cwF_79_3 hc, cwK_80 hc, if_pos (show ((100, 400) : Nat × Int).1 = 100 from rfl), if_pos (by decide), if_pos (show 0 ≤ (i : Int) ∧ (i : Int) < 400 by omega), r1, if_pos (nb_in (by omega)), hJ1, ← wsi, ix, am_cq_s, cwF_79_4 hc, cwK_81 hc, if_pos (show ((100, 401) : Nat × Int).1 = 100 from rfl), if_pos (by decide), r2, if_pos (show 0 ≤ (i : Int) + 1 ∧ (i : Int) + 1 < 401 by omega), hJ2]
      have j2f : ∀ b, b ≠ 79 → b ≠ 80 → b ≠ 81 → J2 b = I b := fun b a1 a2 a3 => by rw [← hJ b a1 a2 a3, ← j1 b a1 a2, ← hJ2]; funext j; rw [am_u2_a a3, am_u2_a a1]
      have j20 : J2 79 0 = 1 := by rw [← hJ2, am_u2_a (by decide), am_u2_k (by decide), ← hJ1, am_u2_k (by decide), am_u2_a (by decide)]; exact h0
      have j21 : J2 79 1 = ((i + 1 : Nat) : Int) := by rw [← hJ2, am_u2_a (by decide), am_u2_k (by decide)]; exact j79
      have j22 : J2 79 2 = gl_ix W (i + 1) := by rw [← hJ2, am_u2_a (by decide), am_u2_s]
      have j80 : ∀ j : Nat, j < i + 1 → J2 80 (j : Int) = gp_bst A C lk U (I 93) (I 94) (W j) := fun j hj => by
        rw [← hJ2, am_u2_a (by decide), am_u2_a (by decide), ← hJ1, am_u2_a (by decide)]
        by_cases e : j = i
        · rw [e, am_u2_s, hbt]
        · rw [am_u2_k (by omega)]; exact h4 j (by omega)
      have j81 : ∀ j : Nat, j ≤ i + 1 → J2 81 (j : Int) = W j := fun j hj => by
        rw [← hJ2]
        by_cases e : j = i + 1
        · rw [e, show ((i + 1 : Nat) : Int) = (i : Int) + 1 by omega, am_u2_s]
        · rw [am_u2_k (by omega), am_u2_a (by decide), j1 81 (by decide) (by decide)]; exact h3 j (by omega)
      rw [e1]
      rcases gl_ix_v W (i + 1) with gx | gx
      · rw [if_neg (by omega)]
        rw [gx] at j22
        exact ih f (i + 1) J2 (by omega) (by omega) (by omega) j2f j20 j21 j22 j81 j80 wn0 wn1
      · rw [if_pos gx.1]
        refine ⟨J2, ?_, j2f, j20, j21, j22, j80⟩
        obtain ⟨f, rfl⟩ : ∃ g, f = g + 1 := ⟨f - 1, by omega⟩
        show X2_follow_s18 N K F 79 (X2_follow_h18 N K F 79 f) J2 62 (W (i + 1)) = _
        unfold X2_follow_s18 X2_follow_b100
        rw [j21, j22]
        by_cases g4 : ((i + 1 : Nat) : Int) < 400
        · rw [if_pos g4, if_neg (by omega)]
        · rw [if_neg g4]
end LINE
