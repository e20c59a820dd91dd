-- GOING ON, the class: layer after layer
section CGOON
variable {N n n0 : Nat} {K : am_K} {F F' F'' : am_F} {I J J' J'' : am_I} {R C A : Int} {lk U : Int → Int} {S x y z k p V t s i m mx nx x1 x2 : Int} {D r : Nat} {v0 v v' rk rk' : Int → Int}
theorem rel.cQ (h : rel n K F I R C A lk U S) (q : rQ1 K F I A C lk U) (w : I 85 21 = 1) : cQ n K F I R C A lk U (K (F 62 4)).2 (I 85 22) (I 85 23) (I 93) (I 94) :=
  ⟨h.a, rfl, h.cB, h.q.g0, h.q.g1, h.q.g, h.q.ge, h.q.gs w, q.m, q.l8, q.l9, q.y, q.s, q.rV, fun x hx => h.rE q hx, fun k a b => ⟨(q.v k a b).1, (q.v k a b).2.1⟩, fun k a b => (q.v k a b).2.2.1⟩
theorem c_layersLeft (h : cQ n K F J R C A lk U V mx nx v rk) : X9_layersLeft N K F J 62 = some (mx + 1 - nx) := by
  have m := h.m
  have y := h.y
  unfold X9_layersLeft
  rw [h.l8, h.l9, if_pos (nb_in (by omega))]
theorem c_goOn_b (h : cQ n K F J R C A lk U V mx nx v rk) : X11_goOn_b65 N 2 n0 K J F 0 0 = some (mx + 1 - nx, n0, K, am_u2 J 2 9 0, F, 0, 0) := by
  have hc := h.B.c
  unfold X11_goOn_b65
  rw [am_mo_0, cwK_2 hc, if_pos (show ((11, 0) : Nat × Int).1 = 11 from rfl), cwF_2_6 hc, cwK_62 hc, if_pos (show ((9, 0) : Nat × Int).1 = 9 from rfl), c_layersLeft h, am_cq_s, c_acc, am_cl_s]
theorem c_goOn (hN : 2000000 < N) (hx : x1 ≤ 13) : ∀ (d f : Nat) (J : am_I) (F : am_F) (x2 nx : Int) (v rk : Int → Int), x1 - x2 = d → d < f → 0 ≤ x2 → cQ n K F J R C A lk U V mx nx v rk →
    ∃ (J' : am_I) (F' : am_F) (j : Nat), X11_goOn_h37 N 2 f n0 K J F 0 0 x1 x2 = some (mx + 1 - (nx + j), n0, K, am_u2 J' 2 9 0, F', 0, 0) ∧ cF F F' J J' ∧ cQ n K F' J' R C A lk U V mx (nx + j) (gIv A C lk U j nx v rk) (gIr A C lk U j nx v rk) ∧ (j : Int) = if x1 - x2 ≤ mx + 1 - nx then x1 - x2 else mx + 1 - nx := by
  intro d
  induction d with
  | zero =>
    intro f J F x2 nx v rk hd hf y0 h
    obtain ⟨f, rfl⟩ : ∃ g, f = g + 1 := ⟨f - 1, by omega⟩
    have y := h.y
    refine ⟨J, F, 0, ?_, cF_refl, by rw [show nx + ((0 : Nat) : Int) = nx by omega]; exact h, by rw [if_pos (by omega)]; omega⟩
    show X11_goOn_s37 N 2 (X11_goOn_h37 N 2 f) n0 K J F 0 0 x1 x2 = _
    unfold X11_goOn_s37
    rw [am_mo_0, if_neg (by omega), c_goOn_b h, show nx + ((0 : Nat) : Int) = nx by omega]
  | succ d ih =>
    intro f J F x2 nx v rk hd hf y0 h
    obtain ⟨f, rfl⟩ : ∃ g, f = g + 1 := ⟨f - 1, by omega⟩
    have hc := h.B.c
    have y := h.y
    by_cases q : nx ≤ mx
    · obtain ⟨J1, F1, e1, e2, e3⟩ := c_next (N := N) (n0 := n0) h hN q
      obtain ⟨J', F', j, f1, f2, f3, f4⟩ := ih f J1 F1 (x2 + 1) (nx + 1) _ _ (by omega) (by omega) (by omega) e3
      refine ⟨J', F', j + 1, ?_, cF_tr e2 f2, ?_, ?_⟩
      · rw [show nx + ((j + 1 : Nat) : Int) = nx + 1 + (j : Int) by omega, ← f1]
        show X11_goOn_s37 N 2 (X11_goOn_h37 N 2 f) n0 K J F 0 0 x1 x2 = _
        unfold X11_goOn_s37
        rw [am_mo_0, if_pos (by omega), cwK_2 hc, if_pos (show ((11, 0) : Nat × Int).1 = 11 from rfl), cwF_2_6 hc, cwK_62 hc, if_pos (show ((9, 0) : Nat × Int).1 = 9 from rfl), c_layersLeft h, am_cq_s, if_pos (by omega), e1, am_ca_s, Nat.add_zero, am_mo_0, if_pos (nb_in (by omega))]
        rfl
      · rw [show nx + ((j + 1 : Nat) : Int) = nx + 1 + (j : Int) by omega]; exact f3
      · by_cases w : x1 - x2 ≤ mx + 1 - nx
        · rw [if_pos (by omega)] at f4; rw [if_pos w]; omega
        · rw [if_neg (by omega)] at f4; rw [if_neg w]; omega
    · refine ⟨J, F, 0, ?_, cF_refl, by rw [show nx + ((0 : Nat) : Int) = nx by omega]; exact h, ?_⟩
      · show X11_goOn_s37 N 2 (X11_goOn_h37 N 2 f) n0 K J F 0 0 x1 x2 = _
        unfold X11_goOn_s37
        rw [am_mo_0, if_pos (by omega), cwK_2 hc, if_pos (show ((11, 0) : Nat × Int).1 = 11 from rfl), cwF_2_6 hc, cwK_62 hc, if_pos (show ((9, 0) : Nat × Int).1 = 9 from rfl), c_layersLeft h, am_cq_s, if_neg (by omega), c_goOn_b h, show nx + ((0 : Nat) : Int) = nx by omega]
      · rw [if_neg (by omega)]; omega
end CGOON
