-- CALLS: solve
section SOLVE
variable {N n n' : Nat} {K K' : am_K} {F F' : am_F} {I J J' : am_I} {R C A : Int} {lk U : Int → Int} {S x y X : Int} {c z : Nat}
theorem gG_room {T : Int} (h : gG K F I A C lk U T) (m : mrf n n' K K' F F' I J) (hA : 0 ≤ A) (hT0 : 0 ≤ T) (hT : T ≤ (K (F 62 4)).2) (hE : gp_cnt A C lk U T.toNat ≤ (K (F 63 2)).2) : gG K' F' J A C lk U T := by
  refine ⟨by rw [m.e1 0 (by omega) (by omega)]; exact h.s0, fun k hk => by rw [m.e1 _ (by omega) (by omega)]; exact h.s k hk, fun k hk p hp al => ?_, fun k k0 k1 => by rw [m.e0 k k0 (by omega)]; exact h.d k k0 k1⟩
  have a := (gp_p_of (A := A) (C := C) (lk := lk) (U := U) (k := (k : Int)) hp al).2
  have b := gp_cnt_le (A := A) (C := C) (lk := lk) (U := U) hA (a := k + 1) (b := T.toNat) (by omega)
  rw [gp_cnt_s] at b
  have c := gp_cnt_nn (A := A) (C := C) (lk := lk) (U := U) hA k
  rw [m.e2 _ (by omega) (by omega)]
  exact h.e k hk p hp al
theorem rH_kf {A C S : Int} (h : rH K F I A C lk U S) (hF : F' 59 = F 59) (h2 : K' (F 59 2) = K (F 59 2)) (h3 : K' (F 59 3) = K (F 59 3)) : rH K' F' I A C lk U S :=
  ⟨h.a, h.b, h.a0, h.b0, h.b1, by rw [hF, h2]; exact h.k1, by rw [hF, h2, h3]; exact h.k2, by rw [hF, h2]; exact h.l0, by rw [hF, h2]; exact h.l1, by rw [hF, h2]; exact h.l2, by rw [hF]; exact h.st, h.cu, by rw [hF]; exact h.bo⟩
/-- moves need not more room than this -/
theorem gW_need {L x : Int} (hL : 0 ≤ L) (hx : 0 ≤ x ∧ x ≤ 12) (h : 2 * gW (L + 1) x ≤ 40000) : 0 ≤ L * gW (L + 1) (x - 1) ∧ L * gW (L + 1) (x - 1) ≤ 240000 := by
  have nn := gW_nn (L + 1) (x - 1)
  refine ⟨Int.mul_nonneg hL nn, ?_⟩
  by_cases e : x = 0
  · rw [gW_neg (by omega)]; omega
  · have p := gw_P L.toNat (x - 1).toNat
    have e1 : gW (L + 1) x = (gw (L.toNat + 1) ((x - 1).toNat + 1) : Int) := by
      unfold gW; rw [if_pos hx.1, show (L + 1).toNat = L.toNat + 1 by omega, show x.toNat = (x - 1).toNat + 1 by omega]
    have e2 : gW (L + 1) (x - 1) = (gw (L.toNat + 1) (x - 1).toNat : Int) := by
      unfold gW; rw [if_pos (by omega), show (L + 1).toNat = L.toNat + 1 by omega]
    have p' : (((x - 1).toNat + 1 : Nat) : Int) * gW (L + 1) x = ((L.toNat + 1 + (x - 1).toNat : Nat) : Int) * gW (L + 1) (x - 1) := by
      rw [e1, e2]; exact_mod_cast p
    have q1 : (((x - 1).toNat + 1 : Nat) : Int) = x := by omega
    have q2 : ((L.toNat + 1 + (x - 1).toNat : Nat) : Int) = L + x := by omega
    rw [q1, q2, Int.add_mul] at p'
    have s1 : x * gW (L + 1) x ≤ 12 * gW (L + 1) x := Int.mul_le_mul_of_nonneg_right hx.2 (gW_nn _ _)
    have s2 := Int.mul_nonneg hx.1 nn
    omega
theorem c_zero {T V : Int} (hc : cw K F) (h6 : K (F 62 6) = (100, V)) (h7 : K (F 62 7) = (100, V)) (v6 : F 62 6 ≠ 1) (v7 : F 62 7 ≠ 1) (w6 : F 62 6 ≠ 62) (w7 : F 62 7 ≠ 62) (ne : F 62 6 ≠ F 62 7) (hT : 0 ≤ T ∧ T ≤ V) (hV : V ≤ 40000) {I0 : am_I} (h2 : I0 62 2 = T) : ∀ (d f : Nat) (J : am_I) (x : Int), T - x = d → d < f → 0 ≤ x → (∀ b, b ≠ F 62 6 → b ≠ F 62 7 → J b = I0 b) → (∀ k, 0 ≤ k → k < x → J (F 62 6) k = 0 ∧ J (F 62 7) k = 0) →
    ∃ J', X9_begin_h66 N 62 f n K J F c z x = some (0, n, K, J', F, c, z) ∧ (∀ b, b ≠ F 62 6 → b ≠ F 62 7 → J' b = I0 b) ∧ (∀ k, 0 ≤ k → k < T → J' (F 62 6) k = 0 ∧ J' (F 62 7) k = 0) := by
  intro d
  induction d with
  | zero =>
    intro f J x hd hf x0 h1 h3
    obtain ⟨f, rfl⟩ : ∃ g, f = g + 1 := ⟨f - 1, by omega⟩
    refine ⟨J, ?_, h1, fun k a b => h3 k a (by omega)⟩
    show X9_begin_s66 N 62 (X9_begin_h66 N 62 f) n K J F c z x = _
    unfold X9_begin_s66
    refine am_mo_e ?_ (Nat.le_refl _) (Nat.le_refl _)
    rw [cwK_62 hc, if_pos (show ((9, 0) : Nat × Int).1 = 9 from rfl), h1 62 w6.symm w7.symm, h2, if_neg (by omega)]
  | succ d ih =>
    intro f J x hd hf x0 h1 h3
    obtain ⟨f, rfl⟩ : ∃ g, f = g + 1 := ⟨f - 1, by omega⟩
    obtain ⟨J', g1, g2⟩ := ih f (am_u2 (am_u2 J (F 62 6) x 0) (F 62 7) x 0) (x + 1) (by omega) (by omega) (by omega) (fun b a1 a2 => by rw [← h1 b a1 a2]; funext j; rw [am_u2_a a2, am_u2_a a1]) (fun k k0 k1 => by
      refine ⟨?_, ?_⟩
      · rw [am_u2_a ne]
        by_cases e : k = x
        · rw [e, am_u2_s]
        · rw [am_u2_k e]; exact (h3 k k0 (by omega)).1
      · by_cases e : k = x
        · rw [e, am_u2_s]
        · rw [am_u2_k e, am_u2_k e]; exact (h3 k k0 (by omega)).2)
    refine ⟨J', ?_, g2⟩
    show X9_begin_s66 N 62 (X9_begin_h66 N 62 f) n K J F c z x = _
    unfold X9_begin_s66
    refine am_mo_e ?_ (Nat.le_refl _) (Nat.le_refl _)
    rw [cwK_62 hc, if_pos (show ((9, 0) : Nat × Int).1 = 9 from rfl), h1 62 w6.symm w7.symm, h2, if_pos (by omega), h6, if_pos (show ((100, V) : Nat × Int).1 = 100 from rfl), if_pos v6, if_pos (show 0 ≤ x ∧ x < V by omega)]
    unfold am_lt
    dsimp only
    rw [h7, if_pos (show ((100, V) : Nat × Int).1 = 100 from rfl), if_pos v7, if_pos (show 0 ≤ x ∧ x < V by omega), if_pos (nb_in (by omega))]
    exact g1
theorem m_zero (hm : mw K F) (hB : mB K F I R C A lk U) (hN : 2000000 < N) (hx : 0 ≤ x ∧ x ≤ 12) (hT : gp_top A lk x ≤ 40000) {J0 : am_I} (h0 : J0 86 = I 86 ∧ J0 85 0 = I 85 0 ∧ J0 85 1 = I 85 1) : ∀ (d f : Nat) (J : am_I) (y : Int), 40000 - y = d → d < f → 0 ≤ y → (∀ b, b ≠ 95 → b ≠ 96 → J b = J0 b) → (∀ k, 0 ≤ k → k < y → J 95 k = 0 ∧ J 96 k = 0) →
    ∃ J', X12_solve_h99 N K F 85 f J x y = some (gp_top A lk x, am_u2 J' 85 15 0) ∧ (∀ b, b ≠ 95 → b ≠ 96 → J' b = J0 b) ∧ (∀ k, 0 ≤ k → k < 40000 → J' 95 k = 0 ∧ J' 96 k = 0) := by
  intro d
  induction d with
  | zero =>
    intro f J y hd hf y0 h1 h3
    obtain ⟨f, rfl⟩ : ∃ g, f = g + 1 := ⟨f - 1, by omega⟩
    have hG : mg J R C A := hB.g.kept (by rw [h1 85 (by decide) (by decide)]; exact h0.2.1) (by rw [h1 85 (by decide) (by decide)]; exact h0.2.2)
    have hp : X12_placesTo N K F J 85 x = some (gp_top A lk x) := by
      rw [m_placesTo hm hG (by omega) (by omega), h1 86 (by decide) (by decide), h0.1, hB.l]; rfl
    have nn := gp_top_nn (A := A) (lk := lk) x
    refine ⟨J, ?_, h1, fun k a b => h3 k a (by omega)⟩
    show X12_solve_s99 N K F 85 (X12_solve_h99 N K F 85 f) J x y = _
    unfold X12_solve_s99
    rw [if_neg (by omega), hp, am_cq_s, if_pos (nb_in (by omega)), m_okk, am_cl_s]
  | succ d ih =>
    intro f J y hd hf y0 h1 h3
    obtain ⟨f, rfl⟩ : ∃ g, f = g + 1 := ⟨f - 1, by omega⟩
    obtain ⟨J', g1, g2⟩ := ih f (am_u2 (am_u2 J 95 y 0) 96 y 0) (y + 1) (by omega) (by omega) (by omega) (fun b a1 a2 => by rw [← h1 b a1 a2]; funext j; rw [am_u2_a a2, am_u2_a a1]) (fun k k0 k1 => by
      refine ⟨?_, ?_⟩
      · rw [am_u2_a (by decide)]
        by_cases e : k = y
        · rw [e, am_u2_s]
        · rw [am_u2_k e]; exact (h3 k k0 (by omega)).1
      · by_cases e : k = y
        · rw [e, am_u2_s]
        · rw [am_u2_k e, am_u2_a (by decide)]; exact (h3 k k0 (by omega)).2)
    refine ⟨J', ?_, g2⟩
    show X12_solve_s99 N K F 85 (X12_solve_h99 N K F 85 f) J x y = _
    unfold X12_solve_s99
    rw [if_pos (by omega), mwF_85_27 hm, mwK_95 hm, if_pos (show ((100, 40000) : Nat × Int).1 = 100 from rfl), if_pos (by decide), if_pos (show 0 ≤ y ∧ y < 40000 by omega)]
    unfold am_lt
    dsimp only
    rw [mwF_85_28 hm, mwK_96 hm, if_pos (show ((100, 40000) : Nat × Int).1 = 100 from rfl), if_pos (by decide), if_pos (show 0 ≤ y ∧ y < 40000 by omega), if_pos (nb_in (by omega))]
    exact g1
end SOLVE
