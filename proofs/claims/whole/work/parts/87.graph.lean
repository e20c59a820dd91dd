-- THE CLASS'S GRAPH: reading it
def gs_f (P : Int → Bool) : Nat → Int → Int
  | 0, _ => -1
  | d + 1, i => if P i = true then i else gs_f P d (i + 1)
theorem gs_f_v (P : Int → Bool) : ∀ (d : Nat) (i : Int), 0 ≤ i → (gs_f P d i = -1 ∧ ∀ j, i ≤ j → j < i + d → P j = false) ∨ (i ≤ gs_f P d i ∧ gs_f P d i < i + d ∧ P (gs_f P d i) = true ∧ ∀ j, i ≤ j → j < gs_f P d i → P j = false)
  | 0, i, _ => Or.inl ⟨rfl, fun j a b => by omega⟩
  | d + 1, i, h0 => by
    unfold gs_f
    by_cases q : P i = true
    · rw [if_pos q]
      exact Or.inr ⟨Int.le_refl _, by omega, q, fun j a b => by omega⟩
    · rw [if_neg q]
      have qf : P i = false := by cases h : P i <;> simp_all
      rcases gs_f_v P d (i + 1) (by omega) with ⟨a, b⟩ | ⟨a, b, c, e⟩
      · refine Or.inl ⟨a, fun j h1 h2 => ?_⟩
        by_cases w : j = i
        · rw [w]; exact qf
        · exact b j (by omega) (by omega)
      · refine Or.inr ⟨by omega, by omega, c, fun j h1 h2 => ?_⟩
        by_cases w : j = i
        · rw [w]; exact qf
        · exact e j (by omega) (by omega)
theorem gs_f_u {P : Int → Bool} {d : Nat} {m : Int} (h0 : 0 ≤ m) (h1 : m < d) (h2 : P m = true) (h3 : ∀ j, 0 ≤ j → j < m → P j = false) : gs_f P d 0 = m := by
  rcases gs_f_v P d 0 (by omega) with ⟨a, b⟩ | ⟨a, b, c, e⟩
  · have := b m h0 (by omega); rw [h2] at this; cases this
  · rcases Int.lt_trichotomy (gs_f P d 0) m with w | w | w
    · have := h3 _ a w; rw [c] at this; cases this
    · exact w
    · have := e m h0 w; rw [h2] at this; cases this
theorem gs_f_n {P : Int → Bool} {d : Nat} (h : ∀ j : Int, 0 ≤ j → j < d → P j = false) : gs_f P d 0 = -1 := by
  rcases gs_f_v P d 0 (by omega) with ⟨a, b⟩ | ⟨a, b, c, e⟩
  · exact a
  · have := h _ a (by omega); rw [c] at this; cases this
theorem gs_f_congr {P Q : Int → Bool} : ∀ (d : Nat) (i : Int), (∀ j, i ≤ j → j < i + d → P j = Q j) → gs_f P d i = gs_f Q d i
  | 0, _, _ => rfl
  | d + 1, i, h => by
    unfold gs_f
    rw [h i (by omega) (by omega), gs_f_congr d (i + 1) (fun j a b => h j (by omega) (by omega))]
/-- a best move: p, of place k, by values v and ranks r -/
def gp_isb (A C : Int) (lk U v r : Int → Int) (k p : Int) : Bool := decide (gp_tk A C lk U k p - v (gp_to A C lk U k p) = v k) && (decide (v k ≤ 0) || decide (0 < gp_tk A C lk U k p) || decide (r (gp_to A C lk U k p) < r k))
def gp_qb (A C : Int) (lk U v r : Int → Int) (k p : Int) : Bool := decide (gp_al A C lk U k p = 1) && gp_isb A C lk U v r k p
/-- the best move of a place; -1: none -/
def gp_bst (A C : Int) (lk U v r : Int → Int) (k : Int) : Int := gs_f (gp_qb A C lk U v r k) A.toNat 0
theorem gp_isb_iff (A C : Int) (lk U v r : Int → Int) (k p : Int) : gp_isb A C lk U v r k p = true ↔ gp_tk A C lk U k p - v (gp_to A C lk U k p) = v k ∧ (v k ≤ 0 ∨ 0 < gp_tk A C lk U k p ∨ r (gp_to A C lk U k p) < r k) := by
  unfold gp_isb
  simp only [Bool.and_eq_true, Bool.or_eq_true, decide_eq_true_eq, or_assoc]
/-- by moves instead of by pits -/
theorem gp_bst_i {A C : Int} {lk U v r : Int → Int} {k : Int} (hA : 0 ≤ A) : gp_bst A C lk U v r k = if gs_f (fun i => gp_isb A C lk U v r k (gp_p A C lk U k i)) (gp_N A C lk U k).toNat 0 < 0 then -1 else gp_p A C lk U k (gs_f (fun i => gp_isb A C lk U v r k (gp_p A C lk U k i)) (gp_N A C lk U k).toNat 0) := by
  have hN := gp_N_b (C := C) (lk := lk) (U := U) hA k
  rcases gs_f_v (fun i => gp_isb A C lk U v r k (gp_p A C lk U k i)) (gp_N A C lk U k).toNat 0 (by omega) with ⟨a, b⟩ | ⟨a, b, c, e⟩
  · rw [a, if_pos (by decide)]
    refine gs_f_n (fun p p0 p1 => ?_)
    unfold gp_qb
    by_cases w : gp_al A C lk U k p = 1
    · obtain ⟨x1, x2, x3⟩ := gp_p_of (A := A) (C := C) (lk := lk) (U := U) (k := k) (p := p.toNat) (by omega) (by rw [show ((p.toNat : Nat) : Int) = p by omega]; exact w)
      rw [show ((p.toNat : Nat) : Int) = p by omega] at x1
      have := b _ x2 (by omega)
      rw [x1] at this
      rw [this, Bool.and_false]
    · rw [decide_eq_false w, Bool.false_and]
  · generalize gs_f (fun i => gp_isb A C lk U v r k (gp_p A C lk U k i)) (gp_N A C lk U k).toNat 0 = m at *
    rw [if_neg (by omega)]
    obtain ⟨y1, y2, y3, y4⟩ := gp_p_ok (C := C) (lk := lk) (U := U) (k := k) hA a (by omega)
    refine gs_f_u y1 (by omega) ?_ (fun p p0 p1 => ?_)
    · unfold gp_qb; rw [y3, c]; rfl
    · unfold gp_qb
      by_cases w : gp_al A C lk U k p = 1
      · obtain ⟨x1, x2, x3⟩ := gp_p_of (A := A) (C := C) (lk := lk) (U := U) (k := k) (p := p.toNat) (by omega) (by rw [show ((p.toNat : Nat) : Int) = p by omega]; exact w)
        rw [show ((p.toNat : Nat) : Int) = p by omega] at x1
        have st := gm_sm_str (gp_al_01 A C lk U k) (a := p.toNat) (b := (gp_p A C lk U k m).toNat) (by omega) (by rw [show ((p.toNat : Nat) : Int) = p by omega]; exact w)
        have lt : gp_n A C lk U k p.toNat < m := by rw [← y4]; unfold gp_n; omega
        have := e _ x2 lt
        rw [x1] at this
        rw [this, Bool.and_false]
      · rw [decide_eq_false w, Bool.false_and]
theorem gp_isb_congr {A C : Int} {lk U v r v' r' : Int → Int} {k p : Int} (h1 : v k = v' k) (h2 : r k = r' k) (h3 : v (gp_to A C lk U k p) = v' (gp_to A C lk U k p)) (h4 : r (gp_to A C lk U k p) = r' (gp_to A C lk U k p)) : gp_isb A C lk U v r k p = gp_isb A C lk U v' r' k p := by
  unfold gp_isb; rw [h1, h2, h3, h4]
/-- a graph that can be read, up to the layer t -/
def gR (K : am_K) (F : am_F) (I : am_I) (R C A : Int) (lk U : Int → Int) (V t : Int) : Prop := (cw K F) ∧ (gm_g R C A) ∧ (1 ≤ gm_L A lk) ∧ (1 ≤ U 10) ∧ (gG K F I A C lk U (gp_top A lk t)) ∧ (-1 ≤ t) ∧ (t ≤ 12) ∧ (gp_top A lk t ≤ V) ∧ (V ≤ 40000) ∧ (K (F 63 0) = (100, V)) ∧ (K (F 63 1) = (100, V + 1)) ∧ ((K (F 63 2)).1 = 100) ∧ (gp_cnt A C lk U (gp_top A lk t).toNat ≤ (K (F 63 2)).2) ∧ ((K (F 63 2)).2 ≤ 480000)
theorem gR.c {K : am_K} {F : am_F} {I : am_I} {R C A : Int} {lk U : Int → Int} {V t : Int} (h : gR K F I R C A lk U V t) : cw K F := h.1
theorem gR.g {K : am_K} {F : am_F} {I : am_I} {R C A : Int} {lk U : Int → Int} {V t : Int} (h : gR K F I R C A lk U V t) : gm_g R C A := h.2.1
theorem gR.L {K : am_K} {F : am_F} {I : am_I} {R C A : Int} {lk U : Int → Int} {V t : Int} (h : gR K F I R C A lk U V t) : 1 ≤ gm_L A lk := h.2.2.1
theorem gR.u {K : am_K} {F : am_F} {I : am_I} {R C A : Int} {lk U : Int → Int} {V t : Int} (h : gR K F I R C A lk U V t) : 1 ≤ U 10 := h.2.2.2.1
theorem gR.G {K : am_K} {F : am_F} {I : am_I} {R C A : Int} {lk U : Int → Int} {V t : Int} (h : gR K F I R C A lk U V t) : gG K F I A C lk U (gp_top A lk t) := h.2.2.2.2.1
theorem gR.t0 {K : am_K} {F : am_F} {I : am_I} {R C A : Int} {lk U : Int → Int} {V t : Int} (h : gR K F I R C A lk U V t) : -1 ≤ t := h.2.2.2.2.2.1
theorem gR.t1 {K : am_K} {F : am_F} {I : am_I} {R C A : Int} {lk U : Int → Int} {V t : Int} (h : gR K F I R C A lk U V t) : t ≤ 12 := h.2.2.2.2.2.2.1
theorem gR.V0 {K : am_K} {F : am_F} {I : am_I} {R C A : Int} {lk U : Int → Int} {V t : Int} (h : gR K F I R C A lk U V t) : gp_top A lk t ≤ V := h.2.2.2.2.2.2.2.1
theorem gR.V1 {K : am_K} {F : am_F} {I : am_I} {R C A : Int} {lk U : Int → Int} {V t : Int} (h : gR K F I R C A lk U V t) : V ≤ 40000 := h.2.2.2.2.2.2.2.2.1
theorem gR.k0 {K : am_K} {F : am_F} {I : am_I} {R C A : Int} {lk U : Int → Int} {V t : Int} (h : gR K F I R C A lk U V t) : K (F 63 0) = (100, V) := h.2.2.2.2.2.2.2.2.2.1
theorem gR.k1 {K : am_K} {F : am_F} {I : am_I} {R C A : Int} {lk U : Int → Int} {V t : Int} (h : gR K F I R C A lk U V t) : K (F 63 1) = (100, V + 1) := h.2.2.2.2.2.2.2.2.2.2.1
theorem gR.k2 {K : am_K} {F : am_F} {I : am_I} {R C A : Int} {lk U : Int → Int} {V t : Int} (h : gR K F I R C A lk U V t) : (K (F 63 2)).1 = 100 := h.2.2.2.2.2.2.2.2.2.2.2.1
theorem gR.E {K : am_K} {F : am_F} {I : am_I} {R C A : Int} {lk U : Int → Int} {V t : Int} (h : gR K F I R C A lk U V t) : gp_cnt A C lk U (gp_top A lk t).toNat ≤ (K (F 63 2)).2 := h.2.2.2.2.2.2.2.2.2.2.2.2.1
theorem gR.E1 {K : am_K} {F : am_F} {I : am_I} {R C A : Int} {lk U : Int → Int} {V t : Int} (h : gR K F I R C A lk U V t) : (K (F 63 2)).2 ≤ 480000 := h.2.2.2.2.2.2.2.2.2.2.2.2.2
/-- a move as the class keeps it -/
def gcd (N : Nat) (A C : Int) (lk U : Int → Int) (t k p : Int) : Prop := (∀ K F I, X0_pitOf N K F I (gp_cd A C lk U k p) = some p) ∧ (∀ K F I, X0_takenBy N K F I (gp_cd A C lk U k p) = some (gp_tk A C lk U k p)) ∧ (∀ K F I, X0_placeBehind N K F I (gp_cd A C lk U k p) = some (gp_to A C lk U k p)) ∧ (0 ≤ gp_tk A C lk U k p ∧ gp_tk A C lk U k p ≤ 12) ∧ (0 ≤ gp_to A C lk U k p ∧ gp_to A C lk U k p < gp_top A lk t) ∧ (0 ≤ gp_cd A C lk U k p) ∧ (gp_cd A C lk U k p = p * 1048576 + gp_tk A C lk U k p * 65536 + gp_to A C lk U k p)
theorem gcd.p {N : Nat} {A C : Int} {lk U : Int → Int} {t k p : Int} (h : gcd N A C lk U t k p) : ∀ K F I, X0_pitOf N K F I (gp_cd A C lk U k p) = some p := h.1
theorem gcd.t {N : Nat} {A C : Int} {lk U : Int → Int} {t k p : Int} (h : gcd N A C lk U t k p) : ∀ K F I, X0_takenBy N K F I (gp_cd A C lk U k p) = some (gp_tk A C lk U k p) := h.2.1
theorem gcd.o {N : Nat} {A C : Int} {lk U : Int → Int} {t k p : Int} (h : gcd N A C lk U t k p) : ∀ K F I, X0_placeBehind N K F I (gp_cd A C lk U k p) = some (gp_to A C lk U k p) := h.2.2.1
theorem gcd.t0 {N : Nat} {A C : Int} {lk U : Int → Int} {t k p : Int} (h : gcd N A C lk U t k p) : 0 ≤ gp_tk A C lk U k p ∧ gp_tk A C lk U k p ≤ 12 := h.2.2.2.1
theorem gcd.o0 {N : Nat} {A C : Int} {lk U : Int → Int} {t k p : Int} (h : gcd N A C lk U t k p) : 0 ≤ gp_to A C lk U k p ∧ gp_to A C lk U k p < gp_top A lk t := h.2.2.2.2.1
theorem gcd.c0 {N : Nat} {A C : Int} {lk U : Int → Int} {t k p : Int} (h : gcd N A C lk U t k p) : 0 ≤ gp_cd A C lk U k p := h.2.2.2.2.2.1
theorem gcd.e {N : Nat} {A C : Int} {lk U : Int → Int} {t k p : Int} (h : gcd N A C lk U t k p) : gp_cd A C lk U k p = p * 1048576 + gp_tk A C lk U k p * 65536 + gp_to A C lk U k p := h.2.2.2.2.2.2
section GRAPH
variable {N n : Nat} {K : am_K} {F : am_F} {I J : am_I} {R C A : Int} {lk U : Int → Int} {S x y V t : Int}
theorem rel.gR (h : rel n K F I R C A lk U S) : gR K F I R C A lk U (K (F 62 4)).2 (I 63 3 - 1) :=
  ⟨h.a.c, h.g.m.g, h.g.n, h.u.u10.1, h.q.g, by have := h.q.g0; omega, by have := h.q.g0; omega, h.q.g1, h.a.V1, h.a.g0, h.a.g1, h.a.g2, h.q.ge, h.a.E1⟩
theorem gR.kept (h : gR K F I R C A lk U V t) (h0 : J (F 63 0) = I (F 63 0)) (h1 : J (F 63 1) = I (F 63 1)) (h2 : J (F 63 2) = I (F 63 2)) : gR K F J R C A lk U V t :=
  ⟨h.c, h.g, h.L, h.u, h.G.kept h0 h1 h2, h.t0, h.t1, h.V0, h.V1, h.k0, h.k1, h.k2, h.E, h.E1⟩
theorem gR.lt (h : gR K F I R C A lk U V t) {k : Int} (k1 : k < gp_top A lk t) : k < gp_top A lk 12 := by
  have := gp_top_mono (A := A) (lk := lk) (by have := h.L; omega) h.t1; omega
theorem gR.st (h : gR K F I R C A lk U V t) {k : Int} (k0 : 0 ≤ k) (k1 : k ≤ gp_top A lk t) : I (F 63 1) k = gp_cnt A C lk U k.toNat := by
  have := h.G.s k.toNat (by omega)
  rw [show ((k.toNat : Nat) : Int) = k by omega] at this
  exact this
theorem gR.cs (hA : 0 ≤ A) {k : Int} (k0 : 0 ≤ k) : gp_cnt A C lk U (k + 1).toNat = gp_cnt A C lk U k.toNat + gp_N A C lk U k := by
  rw [show (k + 1).toNat = k.toNat + 1 by omega, gp_cnt_s, show ((k.toNat : Nat) : Int) = k by omega]
theorem gR.nx (h : gR K F I R C A lk U V t) {k : Int} (k0 : 0 ≤ k) (k1 : k < gp_top A lk t) : I (F 63 1) (k + 1) = gp_cnt A C lk U k.toNat + gp_N A C lk U k := by
  rw [h.st (by omega) (by omega), gR.cs (by have := h.g.A; omega) k0]
theorem gR.cb (h : gR K F I R C A lk U V t) {k : Int} (k0 : 0 ≤ k) (k1 : k ≤ gp_top A lk t) : 0 ≤ gp_cnt A C lk U k.toNat ∧ gp_cnt A C lk U k.toNat ≤ (K (F 63 2)).2 ∧ (K (F 63 2)).2 ≤ 480000 := by
  have hA := h.g.A
  have := gp_cnt_le (A := A) (C := C) (lk := lk) (U := U) (by omega) (a := k.toNat) (b := (gp_top A lk t).toNat) (by omega)
  have := h.E
  exact ⟨gp_cnt_nn (by omega) _, by omega, h.E1⟩
theorem gR.nb (h : gR K F I R C A lk U V t) {k : Int} (k0 : 0 ≤ k) (k1 : k < gp_top A lk t) : 0 ≤ gp_cnt A C lk U k.toNat ∧ gp_cnt A C lk U k.toNat + gp_N A C lk U k ≤ (K (F 63 2)).2 ∧ (K (F 63 2)).2 ≤ 480000 ∧ 0 ≤ gp_N A C lk U k ∧ gp_N A C lk U k ≤ 32 := by
  have hA := h.g.A
  have a := h.cb (k := k) k0 (by omega)
  have b := h.cb (k := k + 1) (by omega) (by omega)
  rw [gR.cs (by omega) k0] at b
  have := gp_N_b (C := C) (lk := lk) (U := U) (A := A) (by omega) k
  exact ⟨a.1, b.2.1, b.2.2, this.1, by omega⟩
theorem gR.ed (h : gR K F I R C A lk U V t) {k i : Int} (k0 : 0 ≤ k) (k1 : k < gp_top A lk t) (i0 : 0 ≤ i) (i1 : i < gp_N A C lk U k) : I (F 63 2) (gp_cnt A C lk U k.toNat + i) = gp_cd A C lk U k (gp_p A C lk U k i) := by
  have hA := h.g.A
  obtain ⟨a, b, c, d⟩ := gp_p_ok (A := A) (C := C) (lk := lk) (U := U) (by omega) i0 i1
  have := h.G.e k.toNat (by omega) (gp_p A C lk U k i).toNat (by omega) (by rw [show ((k.toNat : Nat) : Int) = k by omega, show (((gp_p A C lk U k i).toNat : Nat) : Int) = gp_p A C lk U k i by omega]; exact c)
  rw [show ((k.toNat : Nat) : Int) = k by omega, show (((gp_p A C lk U k i).toNat : Nat) : Int) = gp_p A C lk U k i by omega, d] at this
  exact this
theorem gcd_mk (hg : gm_g R C A) (hL : 0 ≤ gm_L A lk) {k p : Int} (ht : t ≤ 12) (hV : gp_top A lk t ≤ 40000) (k0 : 0 ≤ k) (k1 : k < gp_top A lk t) (p0 : 0 ≤ p) (p1 : p < A) (al : gp_al A C lk U k p = 1) : gcd N A C lk U t k p := by
  have hA := hg.A
  have m12 := gp_top_mono hL ht
  have m := gp_move hg (U := U) k0 (show k < gp_top A lk 12 by omega) p0 p1 al
  have l := m.ly hL k0 (by omega)
  have lb := gp_ly_b hL k0 (show k < gp_top A lk 12 by omega)
  have lt : gp_ly A lk k ≤ t := by
    refine Int.not_lt.mp fun w => ?_
    have := gp_top_mono hL (m := t) (n := gp_ly A lk k - 1) (by omega)
    omega
  have mt := gp_top_mono hL lt
  have t0 := m.t0
  have t1 := m.t1
  have q1 : 0 ≤ p ∧ p < 32 := by omega
  have q2 : 0 ≤ gp_tk A C lk U k p ∧ gp_tk A C lk U k p < 16 := by omega
  have q3 : 0 ≤ gp_to A C lk U k p ∧ gp_to A C lk U k p < 65536 := by omega
  refine ⟨fun K F I => ?_, fun K F I => ?_, fun K F I => ?_, by omega, by omega, ?_, rfl⟩
  · unfold X0_pitOf; rw [nb_pit (c := gp_cd A C lk U k p) rfl q1 q2 q3]
  · unfold X0_takenBy; rw [nb_tkn (c := gp_cd A C lk U k p) rfl q1 q2 q3]
  · unfold X0_placeBehind; rw [nb_beh (c := gp_cd A C lk U k p) rfl q1 q2 q3]
  · unfold gp_cd; omega
theorem gR.cd (h : gR K F I R C A lk U V t) {k p : Int} (k0 : 0 ≤ k) (k1 : k < gp_top A lk t) (p0 : 0 ≤ p) (p1 : p < A) (al : gp_al A C lk U k p = 1) : gcd N A C lk U t k p :=
  gcd_mk h.g (by have := h.L; omega) h.t1 (by have := h.V0; have := h.V1; omega) k0 k1 p0 p1 al
theorem gR.ci (h : gR K F I R C A lk U V t) {k i : Int} (k0 : 0 ≤ k) (k1 : k < gp_top A lk t) (i0 : 0 ≤ i) (i1 : i < gp_N A C lk U k) : gcd N A C lk U t k (gp_p A C lk U k i) := by
  have hA := h.g.A
  obtain ⟨a, b, c, d⟩ := gp_p_ok (A := A) (C := C) (lk := lk) (U := U) (by omega) i0 i1
  exact h.cd k0 k1 a b c
theorem c_hasMove (h : gR K F I R C A lk U V t) {k : Int} (k0 : 0 ≤ k) (k1 : k < gp_top A lk t) : X0_hasMove N K F I 63 k = some (if 0 < gp_N A C lk U k then 1 else 0) := by
  have nb := h.nb k0 k1
  have v0 := h.V0
  have v1 := h.V1
  unfold X0_hasMove X0_hasMove_b22
  rw [h.k1, h.nx k0 k1, h.st k0 (by omega), if_pos (show ((100, V + 1) : Nat × Int).1 = 100 from rfl), if_pos (show (0 : Int) ≤ k ∧ k < V + 1 by omega), if_pos (nb_in (by omega)), if_pos (show (0 : Int) ≤ k + 1 ∧ k + 1 < V + 1 by omega)]
  by_cases q : 0 < gp_N A C lk U k
  · rw [if_pos (by omega), if_pos (Or.inr rfl), if_pos q]
  · rw [if_neg (by omega), if_pos (Or.inl rfl), if_neg q]
theorem c_edgeFrom (h : gR K F I R C A lk U V t) (hN : 100 < N) {k q : Int} (k0 : 0 ≤ k) (k1 : k < gp_top A lk t) (q0 : 0 ≤ q) (q1 : q < A) : X0_edgeFrom N K F I 63 k q = some (if gp_al A C lk U k q = 1 then gp_cd A C lk U k q else -1) := by
  have hA := h.g.A
  have nb := h.nb k0 k1
  have v0 := h.V0
  have v1 := h.V1
  have key : ∀ (d f : Nat) (i : Int), gp_N A C lk U k - i = d → d < f → 0 ≤ i → i ≤ gp_N A C lk U k → X0_edgeFrom_h7 N K F I 63 f k q (gp_cnt A C lk U k.toNat + i) = some (if gp_al A C lk U k q = 1 ∧ i ≤ gp_n A C lk U k q.toNat then gp_cd A C lk U k q else -1) := by
    intro d
    induction d with
    | zero =>
      intro f i hd hf i0 i1
      obtain ⟨f, rfl⟩ : ∃ g, f = g + 1 := ⟨f - 1, by omega⟩
      show X0_edgeFrom_s7 N K F I 63 (X0_edgeFrom_h7 N K F I 63 f) k q _ = _
      unfold X0_edgeFrom_s7
      rw [h.k1, h.nx k0 k1, if_pos (nb_in (by omega)), if_pos (show ((100, V + 1) : Nat × Int).1 = 100 from rfl), if_pos (show (0 : Int) ≤ k + 1 ∧ k + 1 < V + 1 by omega), if_neg (by omega), if_neg]
      intro w
      have := (gp_p_of (A := A) (C := C) (lk := lk) (U := U) (k := k) (p := q.toNat) (by omega) (by rw [show ((q.toNat : Nat) : Int) = q by omega]; exact w.1)).2.2
      omega
    | succ d ih =>
      intro f i hd hf i0 i1
      obtain ⟨f, rfl⟩ : ∃ g, f = g + 1 := ⟨f - 1, by omega⟩
      have c := h.ci (N := N) (k := k) (i := i) k0 k1 i0 (by omega)
      obtain ⟨y1, y2, y3, y4⟩ := gp_p_ok (A := A) (C := C) (lk := lk) (U := U) (k := k) (i := i) (by omega) i0 (by omega)
      show X0_edgeFrom_s7 N K F I 63 (X0_edgeFrom_h7 N K F I 63 f) k q _ = _
      unfold X0_edgeFrom_s7
      rw [h.k1, h.nx k0 k1, h.ed k0 k1 i0 (by omega), c.p, am_cq_s, if_pos (nb_in (by omega)), if_pos (show ((100, V + 1) : Nat × Int).1 = 100 from rfl), if_pos (show (0 : Int) ≤ k + 1 ∧ k + 1 < V + 1 by omega), if_pos (by omega), if_pos h.k2, if_pos (by omega)]
      by_cases w : gp_p A C lk U k i = q
      · rw [if_pos w, if_pos ⟨by rw [← w]; exact y3, by rw [← w, y4]; exact Int.le_refl _⟩, w]
      · rw [if_neg w, if_pos (nb_in (by omega))]
        show X0_edgeFrom_h7 N K F I 63 f k q _ = _
        rw [Int.add_assoc, ih f (i + 1) (by omega) (by omega) (by omega) (by omega)]
        congr 1
        by_cases al : gp_al A C lk U k q = 1
        · have x1 := (gp_p_of (A := A) (C := C) (lk := lk) (U := U) (k := k) (p := q.toNat) (by omega) (by rw [show ((q.toNat : Nat) : Int) = q by omega]; exact al)).1
          have ne : gp_n A C lk U k q.toNat ≠ i := fun v => w (by rw [← v, x1]; omega)
          by_cases le : i ≤ gp_n A C lk U k q.toNat
          · rw [if_pos ⟨al, by omega⟩, if_pos ⟨al, le⟩]
          · rw [if_neg (fun v => le (by omega)), if_neg (fun v => le v.2)]
        · rw [if_neg (fun v => al v.1), if_neg (fun v => al v.1)]
  unfold X0_edgeFrom
  rw [h.k1, h.st k0 (by omega), if_pos (show ((100, V + 1) : Nat × Int).1 = 100 from rfl), if_pos (show (0 : Int) ≤ k ∧ k < V + 1 by omega)]
  show X0_edgeFrom_h7 N K F I 63 N k q _ = _
  have := key (gp_N A C lk U k).toNat N 0 (by omega) (by omega) (by omega) (by omega)
  rw [Int.add_zero] at this
  rw [this]
  congr 1
  by_cases al : gp_al A C lk U k q = 1
  · have x1 := (gp_p_of (A := A) (C := C) (lk := lk) (U := U) (k := k) (p := q.toNat) (by omega) (by rw [show ((q.toNat : Nat) : Int) = q by omega]; exact al)).2.1
    rw [if_pos ⟨al, x1⟩, if_pos al]
  · rw [if_neg (fun v => al v.1), if_neg al]
theorem c_reachOf (h : gR K F I R C A lk U V t) (hk : K (F 62 4) = (100, V)) {k p : Int} (c : gcd N A C lk U t k p) (hb : -1000 ≤ I (F 62 4) (gp_to A C lk U k p) ∧ I (F 62 4) (gp_to A C lk U k p) ≤ 1000) : X9_reachOf N K F I 62 (gp_cd A C lk U k p) = some (gp_tk A C lk U k p - I (F 62 4) (gp_to A C lk U k p)) := by
  have v0 := h.V0
  have o := c.o0
  have t0 := c.t0
  unfold X9_reachOf
  rw [c.t, am_cq_s, c.o, am_cq_s, hk, if_pos (show ((100, V) : Nat × Int).1 = 100 from rfl), if_pos (show 0 ≤ gp_to A C lk U k p ∧ gp_to A C lk U k p < V by omega), if_pos (nb_in (by omega))]
theorem c_forward (h : gR K F I R C A lk U V t) {a2 : Nat} (hk : K a2 = (100, V)) {k p : Int} (k0 : 0 ≤ k) (k1 : k < gp_top A lk t) (c : gcd N A C lk U t k p) : X9_goesForward N K F I (gp_cd A C lk U k p) k a2 = some (if 0 < gp_tk A C lk U k p ∨ I a2 (gp_to A C lk U k p) < I a2 k then 1 else 0) := by
  have v0 := h.V0
  have o := c.o0
  unfold X9_goesForward X9_goesForward_b19 X9_goesForward_b24
  rw [c.t, am_cq_s, c.o, am_cq_s, hk]
  by_cases w : 0 < gp_tk A C lk U k p
  · rw [if_neg (by omega), if_pos (Or.inr rfl), if_pos (Or.inl w)]
  · rw [if_pos (by omega), if_pos (show ((100, V) : Nat × Int).1 = 100 from rfl), if_pos (show 0 ≤ gp_to A C lk U k p ∧ gp_to A C lk U k p < V by omega), if_pos (show 0 ≤ k ∧ k < V by omega)]
    by_cases w2 : I a2 (gp_to A C lk U k p) < I a2 k
    · rw [if_pos w2, if_pos (Or.inr rfl), if_pos (Or.inr w2)]
    · rw [if_neg w2, if_pos (Or.inl rfl), if_neg (fun v => v.elim w w2)]
theorem c_bestEdge (h : gR K F I R C A lk U V t) (hN : 100 < N) (hk4 : K (F 62 4) = (100, V)) (hk5 : K (F 62 5) = (100, V)) {k : Int} (k0 : 0 ≤ k) (k1 : k < gp_top A lk t) (hb : ∀ j, 0 ≤ j → j < gp_top A lk (gp_ly A lk k) → -1000 ≤ I (F 62 4) j ∧ I (F 62 4) j ≤ 1000) :
    X9_bestEdge N K F I 62 k = some (if gp_bst A C lk U (I (F 62 4)) (I (F 62 5)) k < 0 then -1 else gp_cd A C lk U k (gp_bst A C lk U (I (F 62 4)) (I (F 62 5)) k)) := by
  have hA := h.g.A
  have hL := h.L
  have nb := h.nb k0 k1
  have v0 := h.V0
  have v1 := h.V1
  have key : ∀ (d f : Nat) (i : Int), gp_N A C lk U k - i = d → d < f → 0 ≤ i → i ≤ gp_N A C lk U k → X9_bestEdge_h10 N K F I 62 f k (gp_cnt A C lk U k.toNat + i) = some (if gs_f (fun i => gp_isb A C lk U (I (F 62 4)) (I (F 62 5)) k (gp_p A C lk U k i)) d i < 0 then -1 else gp_cd A C lk U k (gp_p A C lk U k (gs_f (fun i => gp_isb A C lk U (I (F 62 4)) (I (F 62 5)) k (gp_p A C lk U k i)) d i))) := by
    intro d
    induction d with
    | zero =>
      intro f i hd hf i0 i1
      obtain ⟨f, rfl⟩ : ∃ g, f = g + 1 := ⟨f - 1, by omega⟩
      show X9_bestEdge_s10 N K F I 62 _ k _ = _
      unfold X9_bestEdge_s10 gs_f
      rw [cwF_62_0 h.c, cwK_63 h.c, h.k1, h.nx k0 k1, if_pos (show ((0, 0) : Nat × Int).1 = 0 from rfl), if_pos (nb_in (by omega)), if_pos (show ((100, V + 1) : Nat × Int).1 = 100 from rfl), if_pos (show (0 : Int) ≤ k + 1 ∧ k + 1 < V + 1 by omega), if_neg (by omega), if_pos (by decide)]
    | succ d ih =>
      intro f i hd hf i0 i1
      obtain ⟨f, rfl⟩ : ∃ g, f = g + 1 := ⟨f - 1, by omega⟩
      have c := h.ci (N := N) (k := k) (i := i) k0 k1 i0 (by omega)
      have m := gp_i h.g (lk := lk) (U := U) (k := k) (i := i) k0 (h.lt k1) i0 (by omega)
      have ml := m.ly (by omega) k0 (h.lt k1)
      have rb := hb _ c.o0.1 ml.2.2.1
      have bk := hb k k0 (gp_ly_b (A := A) (lk := lk) (by omega) k0 (h.lt k1)).2.2.2
      have nxt : X9_bestEdge_b72 N K F I 62 (X9_bestEdge_h10 N K F I 62 f) k (gp_cnt A C lk U k.toNat + i) = some (if gs_f (fun i => gp_isb A C lk U (I (F 62 4)) (I (F 62 5)) k (gp_p A C lk U k i)) d (i + 1) < 0 then -1 else gp_cd A C lk U k (gp_p A C lk U k (gs_f (fun i => gp_isb A C lk U (I (F 62 4)) (I (F 62 5)) k (gp_p A C lk U k i)) d (i + 1)))) := by
        unfold X9_bestEdge_b72
        rw [if_pos (nb_in (by omega))]
        show X9_bestEdge_h10 N K F I 62 f k _ = _
        rw [Int.add_assoc, ih f (i + 1) (by omega) (by omega) (by omega) (by omega)]
      show X9_bestEdge_s10 N K F I 62 (X9_bestEdge_h10 N K F I 62 f) k _ = _
      unfold X9_bestEdge_s10
      rw [cwF_62_0 h.c, cwK_63 h.c, h.k1, h.nx k0 k1, h.ed k0 k1 i0 (by omega), if_pos (show ((0, 0) : Nat × Int).1 = 0 from rfl), if_pos (nb_in (by omega)), if_pos (show ((100, V + 1) : Nat × Int).1 = 100 from rfl), if_pos (show (0 : Int) ≤ k + 1 ∧ k + 1 < V + 1 by omega), if_pos (by omega), if_pos h.k2, if_pos (by omega)]
      unfold am_lt
      dsimp only
      rw [c_reachOf h hk4 c rb, am_cq_s, hk4, if_pos (show ((100, V) : Nat × Int).1 = 100 from rfl), if_pos (show 0 ≤ k ∧ k < V by omega), c_forward h hk5 k0 k1 c, am_cq_s, nxt]
      have ei := gp_isb_iff A C lk U (I (F 62 4)) (I (F 62 5)) k (gp_p A C lk U k i)
      rw [show gs_f (fun i => gp_isb A C lk U (I (F 62 4)) (I (F 62 5)) k (gp_p A C lk U k i)) (d + 1) i = if gp_isb A C lk U (I (F 62 4)) (I (F 62 5)) k (gp_p A C lk U k i) = true then i else gs_f (fun i => gp_isb A C lk U (I (F 62 4)) (I (F 62 5)) k (gp_p A C lk U k i)) d (i + 1) from rfl]
      by_cases w1 : gp_tk A C lk U k (gp_p A C lk U k i) - I (F 62 4) (gp_to A C lk U k (gp_p A C lk U k i)) = I (F 62 4) k
      · rw [if_pos w1]
        by_cases w2 : 0 < I (F 62 4) k
        · rw [if_pos w2]
          by_cases w3 : 0 < gp_tk A C lk U k (gp_p A C lk U k i) ∨ I (F 62 5) (gp_to A C lk U k (gp_p A C lk U k i)) < I (F 62 5) k
          · rw [if_pos w3, if_neg (by decide), if_pos (ei.mpr ⟨w1, Or.inr w3⟩), if_neg (by omega)]; rfl
          · rw [if_neg w3, if_pos rfl, if_neg (fun v => (ei.mp v).2.elim (fun a => by omega) w3)]
        · rw [if_neg w2, if_pos (ei.mpr ⟨w1, Or.inl (by omega)⟩), if_neg (by omega)]; rfl
      · rw [if_neg w1, if_neg (fun v => w1 (ei.mp v).1)]
  have fin := gp_bst_i (A := A) (C := C) (lk := lk) (U := U) (v := I (F 62 4)) (r := I (F 62 5)) (k := k) (by omega)
  have gv := gs_f_v (fun i => gp_isb A C lk U (I (F 62 4)) (I (F 62 5)) k (gp_p A C lk U k i)) (gp_N A C lk U k).toNat 0 (by omega)
  unfold X9_bestEdge
  rw [cwF_62_0 h.c, cwK_63 h.c, h.k1, h.st k0 (by omega), if_pos (show ((0, 0) : Nat × Int).1 = 0 from rfl), if_pos (show ((100, V + 1) : Nat × Int).1 = 100 from rfl), if_pos (show (0 : Int) ≤ k ∧ k < V + 1 by omega)]
  show X9_bestEdge_h10 N K F I 62 N k _ = _
  have := key (gp_N A C lk U k).toNat N 0 (by omega) (by omega) (by omega) (by omega)
  rw [Int.add_zero] at this
  rw [this, fin]
  generalize gs_f (fun i => gp_isb A C lk U (I (F 62 4)) (I (F 62 5)) k (gp_p A C lk U k i)) (gp_N A C lk U k).toNat 0 = m at *
  by_cases w : m < 0
  · rw [if_pos w, if_pos w, if_pos (by decide)]
  · rw [if_neg w, if_neg w]
    have := (gp_p_ok (A := A) (C := C) (lk := lk) (U := U) (k := k) (i := m) (by omega) (by omega) (by omega)).1
    rw [if_neg (by omega)]
end GRAPH
