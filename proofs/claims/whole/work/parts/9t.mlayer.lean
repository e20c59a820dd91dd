-- SOLVING A LAYER, the model
/-- what the model leaves alone in a layer -/
def mlf (J J' : am_I) : Prop := ∀ b j, b ≠ 91 → b ≠ 92 → b ≠ 93 → b ≠ 94 → (b < 97 ∨ 103 < b) → (b ≠ 85 ∨ ((j < 17 ∨ 19 < j) ∧ j ≠ 23 ∧ j ≠ 24)) → J' b j = J b j
/-- what the model holds while it solves -/
def mQ (K : am_K) (F : am_F) (J : am_I) (R C A : Int) (lk U : Int → Int) (mx nx : Int) (v rk : Int → Int) : Prop := (mB K F J R C A lk U) ∧ (mmp F) ∧ (0 ≤ mx ∧ mx ≤ 12) ∧ (0 ≤ nx ∧ nx ≤ mx + 1) ∧ (J 85 22 = mx) ∧ (J 85 23 = nx) ∧ (J 85 24 = gp_top A lk (nx - 1)) ∧ (gp_top A lk mx ≤ 40000) ∧ (2 * gW (gm_L A lk) mx * am_max (gm_Ls A lk 0) (gm_Ls A lk 1) ≤ 200000) ∧ (∀ k, 0 ≤ k → k < gp_top A lk (nx - 1) → J 93 k = v k ∧ J 94 k = rk k) ∧ (∀ k, 0 ≤ k → k < gp_top A lk (nx - 1) → (-gp_ly A lk k ≤ v k ∧ v k ≤ gp_ly A lk k))
theorem mQ.B {K : am_K} {F : am_F} {J : am_I} {R C A : Int} {lk U : Int → Int} {mx nx : Int} {v rk : Int → Int} (h : mQ K F J R C A lk U mx nx v rk) : mB K F J R C A lk U := h.1
theorem mQ.mm {K : am_K} {F : am_F} {J : am_I} {R C A : Int} {lk U : Int → Int} {mx nx : Int} {v rk : Int → Int} (h : mQ K F J R C A lk U mx nx v rk) : mmp F := h.2.1
theorem mQ.m {K : am_K} {F : am_F} {J : am_I} {R C A : Int} {lk U : Int → Int} {mx nx : Int} {v rk : Int → Int} (h : mQ K F J R C A lk U mx nx v rk) : 0 ≤ mx ∧ mx ≤ 12 := h.2.2.1
theorem mQ.y {K : am_K} {F : am_F} {J : am_I} {R C A : Int} {lk U : Int → Int} {mx nx : Int} {v rk : Int → Int} (h : mQ K F J R C A lk U mx nx v rk) : 0 ≤ nx ∧ nx ≤ mx + 1 := h.2.2.2.1
theorem mQ.l2 {K : am_K} {F : am_F} {J : am_I} {R C A : Int} {lk U : Int → Int} {mx nx : Int} {v rk : Int → Int} (h : mQ K F J R C A lk U mx nx v rk) : J 85 22 = mx := h.2.2.2.2.1
theorem mQ.l3 {K : am_K} {F : am_F} {J : am_I} {R C A : Int} {lk U : Int → Int} {mx nx : Int} {v rk : Int → Int} (h : mQ K F J R C A lk U mx nx v rk) : J 85 23 = nx := h.2.2.2.2.2.1
theorem mQ.l4 {K : am_K} {F : am_F} {J : am_I} {R C A : Int} {lk U : Int → Int} {mx nx : Int} {v rk : Int → Int} (h : mQ K F J R C A lk U mx nx v rk) : J 85 24 = gp_top A lk (nx - 1) := h.2.2.2.2.2.2.1
theorem mQ.rV {K : am_K} {F : am_F} {J : am_I} {R C A : Int} {lk U : Int → Int} {mx nx : Int} {v rk : Int → Int} (h : mQ K F J R C A lk U mx nx v rk) : gp_top A lk mx ≤ 40000 := h.2.2.2.2.2.2.2.1
theorem mQ.ws {K : am_K} {F : am_F} {J : am_I} {R C A : Int} {lk U : Int → Int} {mx nx : Int} {v rk : Int → Int} (h : mQ K F J R C A lk U mx nx v rk) : 2 * gW (gm_L A lk) mx * am_max (gm_Ls A lk 0) (gm_Ls A lk 1) ≤ 200000 := h.2.2.2.2.2.2.2.2.1
theorem mQ.v {K : am_K} {F : am_F} {J : am_I} {R C A : Int} {lk U : Int → Int} {mx nx : Int} {v rk : Int → Int} (h : mQ K F J R C A lk U mx nx v rk) : ∀ k, 0 ≤ k → k < gp_top A lk (nx - 1) → J 93 k = v k ∧ J 94 k = rk k := h.2.2.2.2.2.2.2.2.2.1
theorem mQ.vb {K : am_K} {F : am_F} {J : am_I} {R C A : Int} {lk U : Int → Int} {mx nx : Int} {v rk : Int → Int} (h : mQ K F J R C A lk U mx nx v rk) : ∀ k, 0 ≤ k → k < gp_top A lk (nx - 1) → (-gp_ly A lk k ≤ v k ∧ v k ≤ gp_ly A lk k) := h.2.2.2.2.2.2.2.2.2.2
section MLAYER
variable {N n n0 : Nat} {K : am_K} {F F' F'' : am_F} {I J J' J'' : am_I} {R C A : Int} {lk U : Int → Int} {S x y z k p V t i m mx nx x1 x2 x3 x4 c : Int} {D r : Nat} {v0 v v' rk rk' : Int → Int}
theorem mlf_refl : mlf J J := fun _ _ _ _ _ _ _ _ => rfl
theorem mlf_tr (h : mlf J J') (h' : mlf J' J'') : mlf J J'' := fun b j a1 a2 a3 a4 a5 a6 => (h' b j a1 a2 a3 a4 a5 a6).trans (h b j a1 a2 a3 a4 a5 a6)
theorem rkN_z {s : Int} {w : Nat} (h : ∀ k, s ≤ k → k < s + w → 0 ≤ J 94 k) : rkN J s w = 0 := gm_sm_z (fun i a b => if_neg (Int.not_lt.mpr (h (s + i) (by omega) (by omega))))
theorem rkN_all {s : Int} {w : Nat} (h : rkN J s w = 0) (k0 : s ≤ k) (k1 : k < s + w) : 0 ≤ J 94 k := by
  refine Int.not_lt.mp fun q => ?_
  have := gm_sm_get (g := fun i => if J 94 (s + i) < 0 then (1 : Int) else 0) (d := w) (fun i _ _ => by split <;> omega) (k - s) (by omega) (by omega)
  rw [show s + (k - s) = k by omega, if_pos q] at this
  unfold rkN at h
  omega
theorem m_ranks (hN : 2000000 < N) : ∀ (d f r : Nat) (J : am_I) (F : am_F), 480002 - r = d → d < f → r ≤ 480001 → mL K F J A C lk U t v0 → (∀ x, 0 ≤ x → x < gp_top A lk t - gp_top A lk (t - 1) → J (F 85 33) x = lgv A C lk U t v0 r (gp_top A lk (t - 1) + x)) → (∀ k, gp_top A lk (t - 1) ≤ k → k < gp_top A lk t → J 93 k = lgl A C lk U t v0 k) → (∀ k, gp_top A lk (t - 1) ≤ k → k < gp_top A lk t → rkS A C lk U t v0 J r k) → 0 ≤ J 85 23 ∧ J 85 23 ≤ 12 →
    ∃ J' F', X12_solveLayer_h180 N 85 f n0 K J F 0 0 (gp_top A lk (t - 1)) (gp_top A lk t) (rkN J (gp_top A lk (t - 1)) (gp_top A lk t - gp_top A lk (t - 1)).toNat) ((r : Int) + 1) = some (0, n0, K, am_u2 (am_u2 J' 85 23 (J' 85 23 + 1)) 85 24 (gp_top A lk t), F', 0, 0) ∧ sm F F' ∧ mmp F' ∧ (∀ b, b ≠ 94 → b ≠ 101 → b ≠ 102 → J' b = J b) ∧ (∀ k, ¬ (gp_top A lk (t - 1) ≤ k ∧ k < gp_top A lk t) → J' 94 k = J 94 k) ∧ (∀ k, gp_top A lk (t - 1) ≤ k → k < gp_top A lk t → ∃ m : Nat, J' 94 k = (m : Int) ∧ m ≤ 480001 ∧ lgK A C lk U t v0 k m) := by
  intro d
  induction d with
  | zero => intro f r J F hd hf hr; omega
  | succ d ih =>
    intro f r J F hd hf hr h hv h93 hk h23
    obtain ⟨f, rfl⟩ : ∃ g, f = g + 1 := ⟨f - 1, by omega⟩
    have o1 : 480002 - (r + 1) = d := by omega
    have o2 : d < f := by omega
    have nn := h.H.l
    have b := rkN_b J (gp_top A lk (t - 1)) (gp_top A lk t - gp_top A lk (t - 1)).toNat
    by_cases q : 0 < rkN J (gp_top A lk (t - 1)) (gp_top A lk t - gp_top A lk (t - 1)).toNat
    · have hr2 : r ≤ 480000 := by
        refine Nat.not_lt.mp fun w => ?_
        have := rkN_z (J := J) (s := gp_top A lk (t - 1)) (w := (gp_top A lk t - gp_top A lk (t - 1)).toNat) (fun k a b => by
          rcases hk k a (by omega) with ⟨n, n1, n2, n3⟩ | ⟨n1, n2⟩
          · rw [n3]; exact Int.natCast_nonneg n
          · obtain ⟨n, y1, y2⟩ := h.H.kn k
            exact absurd y2.1 (n1 n (Nat.le_trans y1 w)))
        omega
      obtain ⟨J1, fl, e1, e2, e3, e4, -, -⟩ := m_round (N := N) (n0 := n0) h hN hv
      have ne := h.mm.ne
      have c3 := (swm_34 F).1
      have h1 : mL K (swm F) J1 A C lk U t v0 := h.kept sm_swm h.mm.s (fun b b1 _ _ _ => e2 b (by omega)) (fun k _ _ => by rw [e2 93 (by omega)])
      have rN : rkN J1 (gp_top A lk (t - 1)) (gp_top A lk t - gp_top A lk (t - 1)).toNat = rkN J (gp_top A lk (t - 1)) (gp_top A lk t - gp_top A lk (t - 1)).toNat := by unfold rkN; rw [e2 94 (by omega)]
      obtain ⟨J2, f1, f2, f3, f4⟩ := m_rank1 (N := N) (n0 := n0) (r := r) h1 hr2 (by rw [c3]; exact e3) (fun k a b => by rw [e2 93 (by omega)]; exact h93 k a b) (X12_solveLayer_h180 N 85 f) (gp_top A lk t - gp_top A lk (t - 1)).toNat N J1 0 (by omega) (by omega) (by omega) (fun _ _ => rfl) (fun _ _ => rfl) (fun k a b => by omega) (fun k a b => rkS_kept (hk k (by omega) b) (by rw [e2 94 (by omega)]))
      rw [rN] at f1
      have h2 : mL K (swm F) J2 A C lk U t v0 := h1.kept sm_refl h1.mm (fun b _ _ _ q2 => f2 b q2) (fun k _ _ => by rw [f2 93 (by decide)])
      have ne' := h1.mm.ne
      obtain ⟨J', F', g1, g2, g3, g4, g5, g6⟩ := ih f (r + 1) J2 (swm F) o1 o2 (Nat.succ_le_succ hr2) h2 (fun x a b => by rw [f2 _ (by omega), c3]; exact e3 x a b) (fun k a b => by rw [f2 93 (by decide), e2 93 (by omega)]; exact h93 k a b) f4 (by rw [f2 85 (by decide), e2 85 (by omega)]; exact h23)
      refine ⟨J', F', ?_, sm_tr sm_swm g2, g3, fun b q1 q2 q3 => by rw [g4 b q1 q2 q3, f2 b q1]; exact e2 b (by omega), fun k q => by rw [g5 k q, f3 k q, e2 94 (by omega)], g6⟩
      rw [show (((r + 1 : Nat) : Int) + 1) = (r : Int) + 1 + 1 by omega] at g1
      rw [← g1, ← f1]
      show X12_solveLayer_s180 N 85 (X12_solveLayer_h180 N 85 f) n0 K J F 0 0 _ _ _ _ = _
      unfold X12_solveLayer_s180
      rw [am_mo_0, if_pos q, mwK_85 h.m, if_pos (show ((12, 0) : Nat × Int).1 = 12 from rfl), e1, am_ca_s, Nat.add_zero, am_mo_0]
    · have z0 : rkN J (gp_top A lk (t - 1)) (gp_top A lk t - gp_top A lk (t - 1)).toNat = 0 := by omega
      refine ⟨J, F, ?_, sm_refl, h.mm, fun _ _ _ _ => rfl, fun _ _ => rfl, fun k a b => ?_⟩
      · show X12_solveLayer_s180 N 85 (X12_solveLayer_h180 N 85 f) n0 K J F 0 0 _ _ _ _ = _
        unfold X12_solveLayer_s180 am_lt
        dsimp only
        rw [am_mo_0, if_neg q, mwK_85 h.m, if_pos (show ((12, 0) : Nat × Int).1 = 12 from rfl), if_pos (nb_in (by omega))]
      · have p := rkN_all z0 a (show k < gp_top A lk (t - 1) + ((gp_top A lk t - gp_top A lk (t - 1)).toNat : Nat) by omega)
        rcases hk k a b with ⟨n, n1, n2, n3⟩ | ⟨n1, n2⟩
        · exact ⟨n, n3, Nat.le_trans n1 hr, n2⟩
        · rw [n2] at p; exact absurd p (by decide)
theorem m_next (h : mQ K F J R C A lk U mx nx v rk) (hN : 2000000 < N) (hx : nx ≤ mx) : ∃ J' F', X12_solveLayer N 85 n0 K J F = some (0, n0, K, J', F', 0, 0) ∧ sm F F' ∧ mlf J J' ∧ mQ K F' J' R C A lk U mx (nx + 1) (lgl A C lk U nx v) (lgr A C lk U nx v rk) := by
  have B := h.B
  have hm := B.m
  have m := h.m
  have y := h.y
  have hL := B.L
  have hA := B.g.A
  have rV := h.rV
  have t1 := gp_top_mono (A := A) (lk := lk) (by omega) hx
  have nn := gp_top_nn (A := A) (lk := lk) nx
  have nn1 := gp_top_nn (A := A) (lk := lk) (nx - 1)
  have t2 := gp_top_mono (A := A) (lk := lk) (by omega) (show nx - 1 ≤ nx by omega)
  have m12 := gp_top_mono (A := A) (lk := lk) (by omega) (show nx - 1 ≤ 12 by omega)
  have H : lgH A C lk U nx v := gp_gH (R := R) B.g.g (by omega) (n := nx) (by omega) (by omega) (fun k a b => h.vb k a b)
  obtain ⟨J1, a1, a2, a3, a4⟩ := m_gather (N := N) B hN (t := nx) (mx := mx) ⟨y.1, hx⟩ m.2 rV h.ws
  have vb12 : ∀ k, 0 ≤ k → k < gp_top A lk (nx - 1) → -12 ≤ v k ∧ v k ≤ 12 := fun k a b => by
    have vb := h.vb k a b
    have ly := gp_ly_b (A := A) (lk := lk) (by omega) a (show k < gp_top A lk 12 by omega)
    omega
  have cn := gp_cnt_one (U := U) B.g.g hL (n := nx) (m := mx) ⟨y.1, hx⟩ m.2 h.ws (a := (gp_top A lk nx).toNat) (by omega) (by omega)
  have g93 : J1 93 = J 93 := funext fun j => a2 93 j (by decide) (by decide) (by decide) (by decide) (Or.inl (by decide))
  have g94 : J1 94 = J 94 := funext fun j => a2 94 j (by decide) (by decide) (by decide) (by decide) (Or.inl (by decide))
  have L1 : mL K F J1 A C lk U nx v := ⟨hm, h.mm, H, a3, a4, cn, by omega, fun k a b => ⟨by rw [g93]; exact (h.v k a b).1, vb12 k a b⟩⟩
  have ne := h.mm.ne
  obtain ⟨J2, b1, b2, b3⟩ := m_start (N := N) L1 hN
  have L2 : mL K F J2 A C lk U nx v := L1.kept sm_refl h.mm (fun b b1 _ _ _ => b2 b (by omega)) (fun k _ _ => by rw [b2 93 (by omega)])
  obtain ⟨J3, F3, c1, c2, c3, c4, c5⟩ := m_rounds (N := N) (n0 := n0) hN 480003 N 0 J2 F 1 (by omega) (by omega) (by omega) L2 b3 (Or.inl ⟨rfl, Or.inl rfl⟩)
  have L3 : mL K F3 J3 A C lk U nx v := L2.kept c2 c3 (fun b b1 _ _ _ => c4 b (by omega) (by omega)) (fun k _ _ => by rw [c4 93 (by decide) (by decide)])
  obtain ⟨J4, d1, d2, d3, d4, d5⟩ := m_store (N := N) (n0 := n0) L3 hN c5 (gp_top A lk nx - gp_top A lk (nx - 1)).toNat N J3 0 (by omega) (by omega) (by omega) (fun _ _ _ => rfl) (fun _ _ => ⟨rfl, rfl⟩) (fun k a b => by omega)
  have L4 : mL K F3 J4 A C lk U nx v := L3.kept sm_refl c3 (fun b b1 _ q1 q2 => d2 b q1 q2 (by omega) (by omega)) (fun k _ b => (d3 k (fun u => absurd u.1 (Int.not_le.mpr b))).1)
  have e1 := m_count (N := N) (n0 := n0) L4 (gp_top A lk nx - gp_top A lk (nx - 1)).toNat N 0 (by omega) (by omega) (by omega)
  have e2 : rkN J4 (gp_top A lk (nx - 1)) (0 : Int).toNat = 0 := rfl
  rw [e2] at e1
  have r85 : ∀ j, j < 17 ∨ 19 < j → J4 85 j = J 85 j := fun j q => by
    rw [d2 85 (by decide) (by decide) (by decide) (by decide), c4 85 (by decide) (by decide), b2 85 (by omega)]
    exact a2 85 j (by decide) (by decide) (by decide) (by decide) (Or.inr q)
  have l3 := h.l3
  obtain ⟨J5, F5, f1, f2, f3, f4, f5, f6⟩ := m_ranks (N := N) (n0 := n0) hN 480002 N 0 J4 F3 (by omega) (by omega) (by omega) L4 d5 (fun k a b => (d4 k a b).1) (fun k a b => (d4 k a b).2) (by rw [r85 23 (by decide)]; omega)
  have q85 : ∀ j, j < 17 ∨ 19 < j → J5 85 j = J 85 j := fun j q => by rw [f4 85 (by decide) (by decide) (by decide)]; exact r85 j q
  generalize hJ6 : am_u2 (am_u2 J5 85 23 (J5 85 23 + 1)) 85 24 (gp_top A lk nx) = J6 at f1
  have j6 : ∀ b, b ≠ 85 → J6 b = J5 b := fun b q => by rw [← hJ6, am_u2_row_b q, am_u2_row_b q]
  have rows : ∀ b, b ≠ 91 → b ≠ 92 → b ≠ 93 → b ≠ 94 → (b < 97 ∨ 103 < b) → b ≠ 85 → J6 b = J b := fun b q1 q2 q3 q4 q5 q6 => by
    rw [j6 b q6, f4 b q4 (by omega) (by omega), d2 b q3 q4 (by omega) (by omega), c4 b (by omega) (by omega), b2 b (by omega)]
    exact funext fun j => a2 b j q1 q2 (by omega) (by omega) (Or.inl q6)
  have flds : ∀ j, j < 17 ∨ 19 < j → j ≠ 23 → j ≠ 24 → J6 85 j = J 85 j := fun j q1 q2 q3 => by
    rw [← hJ6, am_u2_k q3, am_u2_k q2]; exact q85 j q1
  have w93 : J6 93 = J4 93 := by rw [j6 93 (by decide), f4 93 (by decide) (by decide) (by decide)]
  have w94 : J6 94 = J5 94 := j6 94 (by decide)
  have lo : ∀ k, ¬ (gp_top A lk (nx - 1) ≤ k ∧ k < gp_top A lk nx) → J6 93 k = J 93 k ∧ J6 94 k = J 94 k := fun k q => by
    rw [w93, w94, f5 k q, (d3 k q).1, (d3 k q).2, c4 93 (by decide) (by decide), c4 94 (by decide) (by decide), b2 93 (by omega), b2 94 (by omega), g93, g94]
    exact ⟨rfl, rfl⟩
  have sF := sm_tr c2 f2
  refine ⟨J6, F5, ?_, sF, fun b j a1 a2 a3 a4 a5 a6 => ?_, ⟨(B.kept (J := J6) (fun b q => rows b (by omega) (by omega) (by omega) (by omega) (by omega) (by omega)) (fun j q => flds j (by omega) (by omega) (by omega))).kf (sm_mw hm sF), f3, m, by omega, ?_, ?_, ?_, rV, h.ws, fun k a b => ?_, fun k a b => ?_⟩⟩
  · have pl : ∀ x, -1 ≤ x ∧ x ≤ 12 → X12_placesTo N K F J 85 x = some (gp_top A lk x) := fun x q => by rw [m_placesTo hm B.g (by omega) q, B.l]; rfl
    have b22 : X12_solveLayer_b22 N 85 n0 K J F 0 0 (gp_top A lk (nx - 1)) = some (0, n0, K, J6, F5, 0, 0) := by
      unfold X12_solveLayer_b22
      rw [am_mo_0, mwK_85 hm, if_pos (show ((12, 0) : Nat × Int).1 = 12 from rfl), l3, pl nx (by omega), am_cq_s, if_pos (nb_in (by omega)), a1, am_cl_s, if_pos (nb_in (by omega)), b1, am_cl_s, c1, d1, e1]
      exact f1
    unfold X12_solveLayer
    rw [l3]
    by_cases q : nx = 0
    · have z0 : gp_top A lk (nx - 1) = 0 := gp_top_neg _ _ (by omega)
      rw [if_pos q]
      rw [z0] at b22
      exact b22
    · rw [if_neg q, if_pos (nb_in (by omega)), pl (nx - 1) (by omega), am_cq_s, if_pos (nb_in (by omega)), b22]
  · by_cases q : b = 85
    · subst q
      have := a6.resolve_left (fun u => u rfl)
      exact flds j this.1 this.2.1 this.2.2
    · rw [rows b a1 a2 a3 a4 a5 q]
  · rw [flds 22 (by decide) (by decide) (by decide)]; exact h.l2
  · rw [← hJ6, am_u2_k (by decide), am_u2_s, q85 23 (by decide), l3]
  · rw [← hJ6, am_u2_s, show nx + 1 - 1 = nx by omega]
  · rw [show nx + 1 - 1 = nx by omega] at b
    by_cases q : gp_top A lk (nx - 1) ≤ k
    · obtain ⟨mm, x1, x2, x3⟩ := f6 k q b
      rw [w93, w94, (d4 k q b).1, x1, lgr_of H x3 q b]
      exact ⟨rfl, rfl⟩
    · have l := lo k (by omega)
      have hv := h.v k a (by omega)
      have e : lgl A C lk U nx v k = v k := gl_out (by omega)
      unfold lgr
      rw [l.1, l.2, e, if_neg (by omega)]; exact hv
  · rw [show nx + 1 - 1 = nx by omega] at b
    by_cases q : gp_top A lk (nx - 1) ≤ k
    · have ly := gp_ly_u (A := A) (lk := lk) (by omega) (k := k) (n := nx) a (by have := gp_top_mono (A := A) (lk := lk) (by omega) (show nx ≤ 12 by omega); omega) q b
      rw [ly]
      exact H.lb q b
    · have e : lgl A C lk U nx v k = v k := gl_out (by omega)
      rw [e]; exact h.vb k a (by omega)
end MLAYER
