-- GOING ON, the model; and what both find
/-- what is known of values and ranks of the layers below nx -/
def pQ (A C : Int) (lk U : Int → Int) (nx : Int) (v rk : Int → Int) : Prop := (∀ k, 0 ≤ k → k < gp_top A lk (nx - 1) → (-gp_ly A lk k ≤ v k ∧ v k ≤ gp_ly A lk k)) ∧ (∀ k, 0 ≤ k → k < gp_top A lk (nx - 1) → (0 ≤ rk k ∧ rk k ≤ 1000000)) ∧ (∀ k, 0 ≤ k → k < gp_top A lk (nx - 1) → (∃ p, 0 ≤ p ∧ p < A ∧ gp_al A C lk U k p = 1) → ∃ p, gp_best A C lk U v rk k p)
theorem pQ.vb {A C : Int} {lk U : Int → Int} {nx : Int} {v rk : Int → Int} (h : pQ A C lk U nx v rk) : ∀ k, 0 ≤ k → k < gp_top A lk (nx - 1) → (-gp_ly A lk k ≤ v k ∧ v k ≤ gp_ly A lk k) := h.1
theorem pQ.rb {A C : Int} {lk U : Int → Int} {nx : Int} {v rk : Int → Int} (h : pQ A C lk U nx v rk) : ∀ k, 0 ≤ k → k < gp_top A lk (nx - 1) → (0 ≤ rk k ∧ rk k ≤ 1000000) := h.2.1
theorem pQ.be {A C : Int} {lk U : Int → Int} {nx : Int} {v rk : Int → Int} (h : pQ A C lk U nx v rk) : ∀ k, 0 ≤ k → k < gp_top A lk (nx - 1) → (∃ p, 0 ≤ p ∧ p < A ∧ gp_al A C lk U k p = 1) → ∃ p, gp_best A C lk U v rk k p := h.2.2
section MGOON
variable {N n n0 : Nat} {K : am_K} {F F' F'' : am_F} {I J J' J'' : am_I} {R C A : Int} {lk U : Int → Int} {S x y z k p V t i m mx nx x1 x2 x3 x4 c : Int} {D r : Nat} {v0 v v' rk rk' : Int → Int}
theorem gp_best_congr (h : gp_best A C lk U v rk k p) (h1 : v k = v' k) (h2 : rk k = rk' k) (h3 : v (gp_to A C lk U k p) = v' (gp_to A C lk U k p)) (h4 : rk (gp_to A C lk U k p) = rk' (gp_to A C lk U k p)) : gp_best A C lk U v' rk' k p := by
  unfold gp_best at *
  rw [← h1, ← h2, ← h3, ← h4]; exact h
theorem pQ_step (hg : gm_g R C A) (hL : 1 ≤ gm_L A lk) (hn : 0 ≤ nx ∧ nx ≤ 12) (he : gp_top A lk nx ≤ 40000) (h : pQ A C lk U nx v rk) : pQ A C lk U (nx + 1) (lgl A C lk U nx v) (lgr A C lk U nx v rk) := by
  have hA := hg.A
  have H : lgH A C lk U nx v := gp_gH (R := R) hg (by omega) (n := nx) hn he (fun k a b => h.vb k a b)
  have m12 := gp_top_mono (A := A) (lk := lk) (by omega) hn.2
  have hlo : ∀ k, k < gp_top A lk (nx - 1) → lgl A C lk U nx v k = v k ∧ lgr A C lk U nx v rk k = rk k := fun k q => by
    have e : lgl A C lk U nx v k = v k := gl_out (fun u => by omega)
    unfold lgr
    rw [e, if_neg (fun u => by omega)]; exact ⟨rfl, rfl⟩
  have hrk : ∀ k, gp_top A lk (nx - 1) ≤ k → k < gp_top A lk nx → ∃ n : Nat, lgr A C lk U nx v rk k = (n : Int) ∧ n ≤ 480001 ∧ lgK A C lk U nx v k n := fun k a b => by
    obtain ⟨n, n1, n2⟩ := H.kn k
    exact ⟨n, lgr_of H n2 a b, n1, n2⟩
  refine ⟨fun k a b => ?_, fun k a b => ?_, fun k a b ex => ?_⟩
  · rw [show nx + 1 - 1 = nx by omega] at b
    by_cases q : gp_top A lk (nx - 1) ≤ k
    · have ly := gp_ly_u (A := A) (lk := lk) (by omega) (k := k) (n := nx) a (by omega) q b
      rw [ly]; exact H.lb q b
    · rw [(hlo k (by omega)).1]; exact h.vb k a (by omega)
  · rw [show nx + 1 - 1 = nx by omega] at b
    by_cases q : gp_top A lk (nx - 1) ≤ k
    · obtain ⟨n, n1, n2, -⟩ := hrk k q b
      rw [n1]; omega
    · rw [(hlo k (by omega)).2]; exact h.rb k a (by omega)
  · rw [show nx + 1 - 1 = nx by omega] at b
    by_cases q : gp_top A lk (nx - 1) ≤ k
    · obtain ⟨p, p0, p1, p2⟩ := ex
      have pos : 0 < gp_N A C lk U k := by
        obtain ⟨-, y2, y3⟩ := gp_p_of (A := A) (C := C) (lk := lk) (U := U) (k := k) (p := p.toNat) (by omega) (by rw [show ((p.toNat : Nat) : Int) = p by omega]; exact p2)
        omega
      obtain ⟨i, i0, i1, i2, i3⟩ := H.best (rk := lgr A C lk U nx v rk) (fun k a b => by obtain ⟨n, n1, -, n3⟩ := hrk k a b; exact ⟨n, n1, n3⟩) q b pos
      obtain ⟨y1, y2, y3, -⟩ := gp_p_ok (A := A) (C := C) (lk := lk) (U := U) (k := k) (i := i) (by omega) i0 i1
      exact ⟨gp_p A C lk U k i, y1, y2, y3, i2, i3⟩
    · obtain ⟨p, hp⟩ := h.be k a (Int.not_le.mp q) ex
      have o := gp_to_lt hg (U := U) (t := nx - 1) (by omega) a (Int.not_le.mp q) (by omega) hp.1 hp.2.1 hp.2.2.1
      have e1 := hlo k (Int.not_le.mp q)
      have e2 := hlo _ o.2
      exact ⟨p, gp_best_congr hp e1.1.symm e1.2.symm e2.1.symm e2.2.symm⟩
theorem pQ_it (hg : gm_g R C A) (hL : 1 ≤ gm_L A lk) (hm : 0 ≤ mx ∧ mx ≤ 12) (he : gp_top A lk mx ≤ 40000) : ∀ (j : Nat) (nx : Int) (v rk : Int → Int), 0 ≤ nx → nx + j ≤ mx + 1 → pQ A C lk U nx v rk → pQ A C lk U (nx + j) (gIv A C lk U j nx v rk) (gIr A C lk U j nx v rk) := by
  intro j
  induction j with
  | zero => intro nx v rk n0 nj h; rw [show nx + ((0 : Nat) : Int) = nx by omega]; exact h
  | succ j ih =>
    intro nx v rk n0 nj h
    have t1 := gp_top_mono (A := A) (lk := lk) (by omega) (show nx ≤ mx by omega)
    have := ih (nx + 1) _ _ (by omega) (by omega) (pQ_step hg hL (by omega) (by omega) h)
    rw [show nx + ((j + 1 : Nat) : Int) = nx + 1 + (j : Int) by omega]
    exact this
theorem m_goOn (hN : 2000000 < N) (hx : x1 ≤ 13) : ∀ (d f : Nat) (J : am_I) (F : am_F) (x2 nx : Int) (v rk : Int → Int), x1 - x2 = d → d < f → 0 ≤ x2 → mQ K F J R C A lk U mx nx v rk →
    ∃ (J' : am_I) (F' : am_F) (j : Nat), X12_goOn_h35 N 85 f n0 K J F 0 0 x1 x2 = some (mx + 1 - (nx + j), n0, K, am_u2 J' 85 15 0, F', 0, 0) ∧ sm F F' ∧ mlf J J' ∧ mQ K F' J' R C A lk U mx (nx + j) (gIv A C lk U j nx v rk) (gIr A C lk U j nx v rk) ∧ (j : Int) = if x1 - x2 ≤ mx + 1 - nx then x1 - x2 else mx + 1 - nx := by
  have b61 : ∀ (J : am_I) (F : am_F) (nx : Int) (v rk : Int → Int), mQ K F J R C A lk U mx nx v rk → X12_goOn_b61 N 85 n0 K J F 0 0 = some (mx + 1 - nx, n0, K, am_u2 J 85 15 0, F, 0, 0) := fun J F nx v rk h => by
    have m := h.m
    have y := h.y
    unfold X12_goOn_b61
    rw [am_mo_0, mwK_85 h.B.m, if_pos (show ((12, 0) : Nat × Int).1 = 12 from rfl), h.l2, h.l3, if_pos (nb_in (by omega)), if_pos (nb_in (by omega)), m_okk, am_cl_s]
  intro d
  induction d with
  | zero =>
    intro f J F x2 nx v rk hd hf y0 h
    obtain ⟨f, rfl⟩ : ∃ g, f = g + 1 := ⟨f - 1, by omega⟩
    have y := h.y
    refine ⟨J, F, 0, ?_, sm_refl, mlf_refl, by rw [show nx + ((0 : Nat) : Int) = nx by omega]; exact h, by rw [if_pos (by omega)]; omega⟩
    show X12_goOn_s35 N 85 (X12_goOn_h35 N 85 f) n0 K J F 0 0 x1 x2 = _
    unfold X12_goOn_s35
    rw [am_mo_0, if_neg (by omega), b61 J F nx v rk h, show nx + ((0 : Nat) : Int) = nx by omega]
  | succ d ih =>
    intro f J F x2 nx v rk hd hf y0 h
    obtain ⟨f, rfl⟩ : ∃ g, f = g + 1 := ⟨f - 1, by omega⟩
    have hm := h.B.m
    have y := h.y
    by_cases q : nx ≤ mx
    · obtain ⟨J1, F1, e1, e2, e3, e4⟩ := m_next (N := N) (n0 := n0) h hN q
      obtain ⟨J', F', j, f1, f2, f3, f4, f5⟩ := ih f J1 F1 (x2 + 1) (nx + 1) _ _ (by omega) (by omega) (by omega) e4
      refine ⟨J', F', j + 1, ?_, sm_tr e2 f2, mlf_tr e3 f3, ?_, ?_⟩
      · rw [show nx + ((j + 1 : Nat) : Int) = nx + 1 + (j : Int) by omega, ← f1]
        show X12_goOn_s35 N 85 (X12_goOn_h35 N 85 f) n0 K J F 0 0 x1 x2 = _
        unfold X12_goOn_s35
        rw [am_mo_0, if_pos (by omega), mwK_85 hm, if_pos (show ((12, 0) : Nat × Int).1 = 12 from rfl), h.l2, h.l3, if_pos q, e1, am_ca_s, Nat.add_zero, am_mo_0, if_pos (nb_in (by omega))]
        rfl
      · rw [show nx + ((j + 1 : Nat) : Int) = nx + 1 + (j : Int) by omega]; exact f4
      · by_cases w : x1 - x2 ≤ mx + 1 - nx
        · rw [if_pos (by omega)] at f5; rw [if_pos w]; omega
        · rw [if_neg (by omega)] at f5; rw [if_neg w]; omega
    · refine ⟨J, F, 0, ?_, sm_refl, mlf_refl, by rw [show nx + ((0 : Nat) : Int) = nx by omega]; exact h, ?_⟩
      · show X12_goOn_s35 N 85 (X12_goOn_h35 N 85 f) n0 K J F 0 0 x1 x2 = _
        unfold X12_goOn_s35
        rw [am_mo_0, if_pos (by omega), mwK_85 hm, if_pos (show ((12, 0) : Nat × Int).1 = 12 from rfl), h.l2, h.l3, if_neg q, b61 J F nx v rk h, show nx + ((0 : Nat) : Int) = nx by omega]
      · rw [if_neg (by omega)]; omega
theorem rA_sm (h : rA n K F) (hs : sm F F') (hm : mmp F') : rA n K F' := by
  have e : ∀ a j, a ≠ 85 → F' a j = F a j := fun a j q => hs a j (Or.inl q)
  have ev : vrl F' = vrl F := by
    unfold vrl
    rw [e 59 2 (by decide), e 59 3 (by decide), e 62 4 (by decide), e 62 5 (by decide), e 62 6 (by decide), e 62 7 (by decide), e 63 0 (by decide), e 63 1 (by decide), e 63 2 (by decide), e 72 1 (by decide), e 72 2 (by decide), e 72 3 (by decide), e 72 4 (by decide), e 72 5 (by decide), e 72 6 (by decide)]
  have a4 := e 62 4 (by decide)
  have b2 := e 63 2 (by decide)
  refine ⟨h.c.kept (fun _ _ => rfl) (fun a j _ q => hs a j (fixd_m q)), sm_mw h.m hs, by rw [ev]; exact h.nd, by rw [ev]; exact h.ok, h.nn, hm, ?_, ?_, ?_, ?_, ?_, ?_, ?_, ?_, ?_, ?_, ?_, ?_, ?_, ?_, ?_, ?_, ?_⟩
  · rw [a4]; exact h.v1
  · rw [a4, e 62 5 (by decide)]; exact h.v2
  · rw [a4, e 62 6 (by decide)]; exact h.v3
  · rw [a4, e 62 7 (by decide)]; exact h.v4
  · rw [a4, e 63 0 (by decide)]; exact h.g0
  · rw [a4, e 63 1 (by decide)]; exact h.g1
  · rw [b2]; exact h.g2
  · rw [a4, e 72 1 (by decide)]; exact h.w1
  · rw [a4, e 72 2 (by decide)]; exact h.w2
  · rw [a4, e 72 3 (by decide)]; exact h.w3
  · rw [a4, e 72 4 (by decide)]; exact h.w4
  · rw [a4, e 72 5 (by decide)]; exact h.w5
  · rw [b2, e 72 6 (by decide)]; exact h.w6
  · rw [a4]; exact h.V0
  · rw [a4]; exact h.V1
  · rw [b2]; exact h.E0
  · rw [b2]; exact h.E1
end MGOON
