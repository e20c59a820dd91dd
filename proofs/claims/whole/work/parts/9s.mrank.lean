-- SOLVING A LAYER, the model: values kept, ranks found
def rkS (A C : Int) (lk U : Int → Int) (t : Int) (v0 : Int → Int) (J : am_I) (r : Nat) (k : Int) : Prop := (∃ n : Nat, n ≤ r ∧ lgK A C lk U t v0 k n ∧ J 94 k = (n : Int)) ∨ ((∀ n : Nat, n ≤ r → lgv A C lk U t v0 n k ≠ lgl A C lk U t v0 k) ∧ J 94 k = -1)
def rkN (J : am_I) (s : Int) (w : Nat) : Int := gm_sm (fun i => if J 94 (s + i) < 0 then 1 else 0) w
section MRANK
variable {N n n0 : Nat} {K : am_K} {F F' F'' : am_F} {I J J' J'' : am_I} {R C A : Int} {lk U : Int → Int} {S x y z k p V t i m mx nx x1 x2 x3 x4 c : Int} {D r : Nat} {v0 v v' rk rk' : Int → Int}
theorem rkS_kept (h : rkS A C lk U t v0 J r k) (e : J' 94 k = J 94 k) : rkS A C lk U t v0 J' r k := by
  unfold rkS at *; rw [e]; exact h
theorem rkN_b (J : am_I) (s : Int) (w : Nat) : 0 ≤ rkN J s w ∧ rkN J s w ≤ w := by
  have := gm_sm_b (g := fun i => if J 94 (s + i) < 0 then 1 else 0) (B := 1) (d := w) (fun i _ _ => by split <;> omega)
  unfold rkN; omega
theorem rkN_upd {s : Int} {w : Nat} (x0 : 0 ≤ x) (x1 : x < w) (hn : J 94 (s + x) < 0) (hy : 0 ≤ y) : rkN (am_u2 J 94 (s + x) y) s w = rkN J s w - 1 := by
  have e1 : rkN (am_u2 J 94 (s + x) y) s w = gm_sm (fun i => if i = x then 0 else (fun i => if J 94 (s + i) < 0 then (1 : Int) else 0) i) w := gm_sm_congr (fun i _ _ => by
    dsimp only
    by_cases q : i = x
    · rw [q, am_u2_s, if_neg (by omega), if_pos rfl]
    · rw [am_u2_k (by omega), if_neg q])
  have e2 := gm_sm_upd (fun i => if J 94 (s + i) < 0 then (1 : Int) else 0) x 0 w
  rw [if_pos ⟨x0, x1⟩, if_pos hn] at e2
  rw [e1, e2]
  unfold rkN
  omega
/-- values kept -/
theorem m_store (h : mL K F I A C lk U t v0) (hN : 2000000 < N) (hv : ∀ x, 0 ≤ x → x < gp_top A lk t - gp_top A lk (t - 1) → I (F 85 33) x = lgl A C lk U t v0 (gp_top A lk (t - 1) + x)) : ∀ (d f : Nat) (J : am_I) (x : Int), gp_top A lk t - gp_top A lk (t - 1) - x = d → d < f → 0 ≤ x → (∀ b, b ≠ 93 → b ≠ 94 → J b = I b) → (∀ k, ¬ (gp_top A lk (t - 1) ≤ k ∧ k < gp_top A lk (t - 1) + x) → J 93 k = I 93 k ∧ J 94 k = I 94 k) → (∀ k, gp_top A lk (t - 1) ≤ k → k < gp_top A lk (t - 1) + x → J 93 k = lgl A C lk U t v0 k ∧ rkS A C lk U t v0 J 0 k) →
    ∃ J', X12_solveLayer_h65 N 85 f n0 K J F 0 0 (gp_top A lk (t - 1)) (gp_top A lk t) x = X12_solveLayer_h141 N 85 N n0 K J' F 0 0 (gp_top A lk (t - 1)) (gp_top A lk t) 0 0 ∧ (∀ b, b ≠ 93 → b ≠ 94 → b ≠ 101 → b ≠ 102 → J' b = I b) ∧ (∀ k, ¬ (gp_top A lk (t - 1) ≤ k ∧ k < gp_top A lk t) → J' 93 k = I 93 k ∧ J' 94 k = I 94 k) ∧ (∀ k, gp_top A lk (t - 1) ≤ k → k < gp_top A lk t → J' 93 k = lgl A C lk U t v0 k ∧ rkS A C lk U t v0 J' 0 k) ∧ (∀ x, 0 ≤ x → x < gp_top A lk t - gp_top A lk (t - 1) → J' (F 85 33) x = lgv A C lk U t v0 0 (gp_top A lk (t - 1) + x)) := by
  have nn := h.H.l
  have kk := h.mm.kd h.m
  have ne := h.mm.ne
  have hm := h.m
  intro d
  induction d with
  | zero =>
    intro f J x hd hf x0 hJ ho hw
    obtain ⟨f, rfl⟩ : ∃ g, f = g + 1 := ⟨f - 1, by omega⟩
    have xe : gp_top A lk (t - 1) + x = gp_top A lk t := by omega
    have xw : gp_top A lk t - gp_top A lk (t - 1) = x := by omega
    rw [xe] at ho hw
    have hk : mL K F J A C lk U t v0 := h.kept (fun _ _ _ => rfl) h.mm (fun b _ _ q1 q2 => hJ b q1 q2) (fun k _ b => (ho k (fun u => absurd u.1 (Int.not_le.mpr b))).1)
    obtain ⟨J', e1, e2, e3⟩ := m_start (N := N) hk hN
    refine ⟨J', ?_, fun b q1 q2 q3 q4 => by rw [e2 b (by omega)]; exact hJ b q1 q2, fun k q => by rw [e2 93 (by omega), e2 94 (by omega)]; exact ho k q, fun k a b => ?_, e3⟩
    · show X12_solveLayer_s65 N 85 (X12_solveLayer_h65 N 85 f) n0 K J F 0 0 _ _ x = _
      unfold X12_solveLayer_s65
      rw [am_mo_0, if_pos (nb_in (by omega)), if_neg (by omega), mwK_85 hm, if_pos (show ((12, 0) : Nat × Int).1 = 12 from rfl), e1, am_cl_s]
    · have w := hw k a b
      exact ⟨by rw [e2 93 (by omega)]; exact w.1, rkS_kept w.2 (by rw [e2 94 (by omega)])⟩
  | succ d ih =>
    intro f J x hd hf x0 hJ ho hw
    obtain ⟨f, rfl⟩ : ∃ g, f = g + 1 := ⟨f - 1, by omega⟩
    have ja : J (F 85 33) x = lgl A C lk U t v0 (gp_top A lk (t - 1) + x) := by rw [hJ _ (by omega) (by omega)]; exact hv x x0 (by omega)
    generalize hk : gp_top A lk (t - 1) + x = k at *
    generalize hJ1 : am_u2 J 93 k (lgl A C lk U t v0 k) = J1
    have j1 : ∀ b, b ≠ 93 → J1 b = J b := fun b q => by rw [← hJ1, am_u2_row_b q]
    have j3 : ∀ j, J1 93 j = if j = k then lgl A C lk U t v0 k else J 93 j := fun j => by
      rw [← hJ1]
      by_cases q : j = k
      · rw [q, am_u2_s, if_pos rfl]
      · rw [am_u2_k q, if_neg q]
    have hk1 : mL K F J1 A C lk U t v0 := h.kept (fun _ _ _ => rfl) h.mm (fun b _ _ q1 q2 => by rw [j1 b q1]; exact hJ b q1 q2) (fun j a b => by rw [j3, if_neg (by omega)]; exact (ho j (by omega)).1)
    have ie := m_isEnd (N := N) hk1 (x := x) x0 (by omega)
    rw [hk] at ie
    have nx : ∀ J w, X12_solveLayer_b121 N 85 (X12_solveLayer_h65 N 85 f) n0 K J F 0 0 (gp_top A lk (t - 1)) (gp_top A lk t) x w k 94 = X12_solveLayer_h65 N 85 f n0 K (am_u2 J 94 k w) F 0 0 (gp_top A lk (t - 1)) (gp_top A lk t) (x + 1) := fun J w => by
      unfold X12_solveLayer_b121 am_lt
      dsimp only
      rw [am_mo_0, mwK_94 hm, if_pos (show ((100, 40000) : Nat × Int).1 = 100 from rfl), if_pos (show (94 : Nat) ≠ 1 by decide), if_pos (show 0 ≤ k ∧ k < 40000 by omega), if_pos (nb_in (by omega))]
    have gen : ∀ w, rkS A C lk U t v0 (am_u2 J1 94 k w) 0 k → ∃ J', X12_solveLayer_h65 N 85 f n0 K (am_u2 J1 94 k w) F 0 0 (gp_top A lk (t - 1)) (gp_top A lk t) (x + 1) = X12_solveLayer_h141 N 85 N n0 K J' F 0 0 (gp_top A lk (t - 1)) (gp_top A lk t) 0 0 ∧ (∀ b, b ≠ 93 → b ≠ 94 → b ≠ 101 → b ≠ 102 → J' b = I b) ∧ (∀ k, ¬ (gp_top A lk (t - 1) ≤ k ∧ k < gp_top A lk t) → J' 93 k = I 93 k ∧ J' 94 k = I 94 k) ∧ (∀ k, gp_top A lk (t - 1) ≤ k → k < gp_top A lk t → J' 93 k = lgl A C lk U t v0 k ∧ rkS A C lk U t v0 J' 0 k) ∧ (∀ x, 0 ≤ x → x < gp_top A lk t - gp_top A lk (t - 1) → J' (F 85 33) x = lgv A C lk U t v0 0 (gp_top A lk (t - 1) + x)) := fun w hr => by
      refine ih f (am_u2 J1 94 k w) (x + 1) (by omega) (by omega) (by omega) (fun b q1 q2 => by rw [am_u2_row_b q2, j1 b q1]; exact hJ b q1 q2) (fun j q => ?_) (fun j a b => ?_)
      · have : j ≠ k := by omega
        rw [am_u2_a (by decide), am_u2_k this, j1 94 (by decide), j3, if_neg this]
        exact ho j (by omega)
      · by_cases q : j = k
        · rw [q, am_u2_a (by decide), j3, if_pos rfl]; exact ⟨rfl, hr⟩
        · have w' := hw j a (by omega)
          rw [am_u2_a (by decide), j3, if_neg q]
          exact ⟨w'.1, rkS_kept w'.2 (by rw [am_u2_k q, j1 94 (by decide)])⟩
    have e0 : X12_solveLayer_h65 N 85 (f + 1) n0 K J F 0 0 (gp_top A lk (t - 1)) (gp_top A lk t) x = X12_solveLayer_h65 N 85 f n0 K (am_u2 J1 94 k (if lgl A C lk U t v0 k = 0 ∨ ¬ 0 < gp_N A C lk U k then 0 else -1)) F 0 0 (gp_top A lk (t - 1)) (gp_top A lk t) (x + 1) := by
      show X12_solveLayer_s65 N 85 (X12_solveLayer_h65 N 85 f) n0 K J F 0 0 _ _ x = _
      unfold X12_solveLayer_s65 X12_solveLayer_b116 am_lt
      dsimp only
      rw [am_mo_0, if_pos (nb_in (by omega)), if_pos (by omega), mwK_85 hm, if_pos (show ((12, 0) : Nat × Int).1 = 12 from rfl), hk, if_pos (nb_in (by omega)), kk.1, if_pos (show ((100, 40000) : Nat × Int).1 = 100 from rfl), if_pos (show 0 ≤ x ∧ x < 40000 by omega), mwF_85_25 hm, mwK_93 hm, if_pos (show ((100, 40000) : Nat × Int).1 = 100 from rfl), if_pos (show (93 : Nat) ≠ 1 by decide), if_pos (show 0 ≤ k ∧ k < 40000 by omega), ja, hJ1, j1 _ (show F 85 33 ≠ 93 by omega), ja, ie, am_cq_s, mwF_85_26 hm]
      simp only [am_mo_0]
      by_cases q : lgl A C lk U t v0 k = 0
      · rw [if_pos q, if_pos (Or.inl q), nx]
      · rw [if_neg q]
        by_cases q2 : 0 < gp_N A C lk U k
        · rw [if_pos q2, if_pos rfl, if_neg (fun u => u.elim q (fun w => w q2)), nx]
        · rw [if_neg q2, if_neg (by decide), if_pos (Or.inr q2), nx]
    rw [e0]
    refine gen _ ?_
    have kr : gp_top A lk (t - 1) ≤ k ∧ k < gp_top A lk t := by omega
    by_cases q : lgl A C lk U t v0 k = 0 ∨ ¬ 0 < gp_N A C lk U k
    · rw [if_pos q]
      refine Or.inl ⟨0, Nat.le_refl _, ⟨?_, fun j hj => absurd hj (Nat.not_lt_zero j)⟩, am_u2_s _ _ _ _⟩
      show lgv A C lk U t v0 0 k = lgl A C lk U t v0 k
      by_cases q2 : 0 < gp_N A C lk U k
      · have g : lgv A C lk U t v0 0 k = 0 := gv_0 kr q2
        rw [g]
        exact (q.resolve_right (fun w => w q2)).symm
      · exact (gv_end kr q2).trans (gl_end kr q2).symm
    · rw [if_neg q]
      refine Or.inr ⟨fun n hn => ?_, am_u2_s _ _ _ _⟩
      have n0 : n = 0 := Nat.le_zero.mp hn
      have g : lgv A C lk U t v0 0 k = 0 := gv_0 kr (Classical.byContradiction fun w => q (Or.inr w))
      rw [n0, g]
      exact fun w => q (Or.inl w.symm)
/-- how many want a rank -/
theorem m_count (h : mL K F J A C lk U t v0) : ∀ (d f : Nat) (x : Int), gp_top A lk t - gp_top A lk (t - 1) - x = d → d < f → 0 ≤ x → X12_solveLayer_h141 N 85 f n0 K J F 0 0 (gp_top A lk (t - 1)) (gp_top A lk t) (rkN J (gp_top A lk (t - 1)) x.toNat) x = X12_solveLayer_h180 N 85 N n0 K J F 0 0 (gp_top A lk (t - 1)) (gp_top A lk t) (rkN J (gp_top A lk (t - 1)) (gp_top A lk t - gp_top A lk (t - 1)).toNat) 1 := by
  have nn := h.H.l
  have hm := h.m
  intro d
  induction d with
  | zero =>
    intro f x hd hf x0
    obtain ⟨f, rfl⟩ : ∃ g, f = g + 1 := ⟨f - 1, by omega⟩
    show X12_solveLayer_s141 N 85 (X12_solveLayer_h141 N 85 f) n0 K J F 0 0 _ _ _ x = _
    unfold X12_solveLayer_s141
    rw [am_mo_0, if_pos (nb_in (by omega)), if_neg (by omega), show gp_top A lk t - gp_top A lk (t - 1) = x by omega]
  | succ d ih =>
    intro f x hd hf x0
    obtain ⟨f, rfl⟩ : ∃ g, f = g + 1 := ⟨f - 1, by omega⟩
    have b := rkN_b J (gp_top A lk (t - 1)) x.toNat
    have e : rkN J (gp_top A lk (t - 1)) (x + 1).toNat = rkN J (gp_top A lk (t - 1)) x.toNat + (if J 94 (gp_top A lk (t - 1) + x) < 0 then 1 else 0) := by
      rw [show (x + 1).toNat = x.toNat + 1 by omega]
      unfold rkN
      rw [gm_sm_s, show ((x.toNat : Nat) : Int) = x by omega]
    rw [← ih f (x + 1) (by omega) (by omega) (by omega), e]
    show X12_solveLayer_s141 N 85 (X12_solveLayer_h141 N 85 f) n0 K J F 0 0 _ _ _ x = _
    unfold X12_solveLayer_s141 X12_solveLayer_b168 am_lt
    dsimp only
    rw [am_mo_0, if_pos (nb_in (by omega)), if_pos (by omega), mwK_85 hm, if_pos (show ((12, 0) : Nat × Int).1 = 12 from rfl), if_pos (nb_in (by omega)), mwF_85_26 hm, mwK_94 hm, if_pos (show ((100, 40000) : Nat × Int).1 = 100 from rfl), if_pos (show 0 ≤ gp_top A lk (t - 1) + x ∧ gp_top A lk (t - 1) + x < 40000 by omega)]
    simp only [am_mo_0]
    by_cases q : J 94 (gp_top A lk (t - 1) + x) < 0
    · rw [if_pos q, if_pos q, if_pos (nb_in (by omega)), if_pos (nb_in (by omega))]
    · rw [if_neg q, if_neg q, if_pos (nb_in (by omega)), if_pos (nb_in (by omega))]
/-- ranks of one round -/
theorem m_rank1 (h : mL K F I A C lk U t v0) (r1 : r ≤ 480000) (hv : ∀ x, 0 ≤ x → x < gp_top A lk t - gp_top A lk (t - 1) → I (F 85 33) x = lgv A C lk U t v0 (r + 1) (gp_top A lk (t - 1) + x)) (h93 : ∀ k, gp_top A lk (t - 1) ≤ k → k < gp_top A lk t → I 93 k = lgl A C lk U t v0 k) (kk : Nat → am_K → am_I → am_F → Nat → Nat → Int → Int → Int → Int → Option am_A) : ∀ (d f : Nat) (J : am_I) (x : Int), gp_top A lk t - gp_top A lk (t - 1) - x = d → d < f → 0 ≤ x → (∀ b, b ≠ 94 → J b = I b) → (∀ k, ¬ (gp_top A lk (t - 1) ≤ k ∧ k < gp_top A lk t) → J 94 k = I 94 k) → (∀ k, gp_top A lk (t - 1) ≤ k → k < gp_top A lk (t - 1) + x → rkS A C lk U t v0 J (r + 1) k) → (∀ k, gp_top A lk (t - 1) + x ≤ k → k < gp_top A lk t → rkS A C lk U t v0 J r k) →
    ∃ J', X12_solveLayer_h196 N 85 kk f n0 K J F 0 0 (gp_top A lk (t - 1)) (gp_top A lk t) (rkN J (gp_top A lk (t - 1)) (gp_top A lk t - gp_top A lk (t - 1)).toNat) ((r : Int) + 1) x = kk n0 K J' F 0 0 (gp_top A lk (t - 1)) (gp_top A lk t) (rkN J' (gp_top A lk (t - 1)) (gp_top A lk t - gp_top A lk (t - 1)).toNat) ((r : Int) + 1 + 1) ∧ (∀ b, b ≠ 94 → J' b = I b) ∧ (∀ k, ¬ (gp_top A lk (t - 1) ≤ k ∧ k < gp_top A lk t) → J' 94 k = I 94 k) ∧ (∀ k, gp_top A lk (t - 1) ≤ k → k < gp_top A lk t → rkS A C lk U t v0 J' (r + 1) k) := by
  have nn := h.H.l
  have kn := h.mm.kd h.m
  have ne := h.mm.ne
  have hm := h.m
  intro d
  induction d with
  | zero =>
    intro f J x hd hf x0 hJ ho h1 h2
    obtain ⟨f, rfl⟩ : ∃ g, f = g + 1 := ⟨f - 1, by omega⟩
    rw [show gp_top A lk (t - 1) + x = gp_top A lk t by omega] at h1
    refine ⟨J, ?_, hJ, ho, h1⟩
    show X12_solveLayer_s196 N 85 kk (X12_solveLayer_h196 N 85 kk f) n0 K J F 0 0 _ _ _ _ x = _
    unfold X12_solveLayer_s196 am_lt
    dsimp only
    rw [am_mo_0, if_pos (nb_in (by omega)), if_neg (by omega), if_pos (nb_in (by omega))]
  | succ d ih =>
    intro f J x hd hf x0 hJ ho h1 h2
    obtain ⟨f, rfl⟩ : ∃ g, f = g + 1 := ⟨f - 1, by omega⟩
    have b := rkN_b J (gp_top A lk (t - 1)) (gp_top A lk t - gp_top A lk (t - 1)).toNat
    have ja : J (F 85 33) x = lgv A C lk U t v0 (r + 1) (gp_top A lk (t - 1) + x) := by rw [hJ _ (by omega)]; exact hv x x0 (by omega)
    have j93 : J 93 (gp_top A lk (t - 1) + x) = lgl A C lk U t v0 (gp_top A lk (t - 1) + x) := by rw [hJ _ (by omega)]; exact h93 _ (by omega) (by omega)
    have nx : ∀ J c, X12_solveLayer_b252 N 85 kk (X12_solveLayer_h196 N 85 kk f) n0 K J F 0 0 (gp_top A lk (t - 1)) (gp_top A lk t) c ((r : Int) + 1) x = X12_solveLayer_h196 N 85 kk f n0 K J F 0 0 (gp_top A lk (t - 1)) (gp_top A lk t) c ((r : Int) + 1) (x + 1) := fun J c => by
      unfold X12_solveLayer_b252 am_lt
      rw [am_mo_0, if_pos (nb_in (by omega))]
    have hr := h2 (gp_top A lk (t - 1) + x) (by omega) (by omega)
    by_cases q : J 94 (gp_top A lk (t - 1) + x) < 0
    · have hno : ∀ n : Nat, n ≤ r → lgv A C lk U t v0 n (gp_top A lk (t - 1) + x) ≠ lgl A C lk U t v0 (gp_top A lk (t - 1) + x) := by
        rcases hr with ⟨n, n1, n2, n3⟩ | ⟨n1, n2⟩
        · rw [n3] at q; exact absurd q (by omega)
        · exact n1
      by_cases w : lgv A C lk U t v0 (r + 1) (gp_top A lk (t - 1) + x) = lgl A C lk U t v0 (gp_top A lk (t - 1) + x)
      · have uu := rkN_upd (J := J) (y := (r : Int) + 1) (s := gp_top A lk (t - 1)) (w := (gp_top A lk t - gp_top A lk (t - 1)).toNat) x0 (by omega) q (by omega)
        have b2 := rkN_b (am_u2 J 94 (gp_top A lk (t - 1) + x) ((r : Int) + 1)) (gp_top A lk (t - 1)) (gp_top A lk t - gp_top A lk (t - 1)).toNat
        have oo : d < f := by omega
        have o3 : gp_top A lk t - gp_top A lk (t - 1) - (x + 1) = d := by omega
        obtain ⟨J', e1, e2, e3, e4⟩ := ih f (am_u2 J 94 (gp_top A lk (t - 1) + x) ((r : Int) + 1)) (x + 1) o3 oo (by omega) (fun b q => by rw [am_u2_row_b q]; exact hJ b q) (fun k q => by rw [am_u2_k (by omega)]; exact ho k q) (fun k a b => by
          by_cases u : k = gp_top A lk (t - 1) + x
          · rw [u]
            exact Or.inl ⟨r + 1, Nat.le_refl _, ⟨w, fun j hj => hno j (Nat.le_of_lt_succ hj)⟩, am_u2_s _ _ _ _⟩
          · exact rkS_kept (h1 k a (by omega)) (am_u2_k u)) (fun k a b => rkS_kept (h2 k (by omega) b) (am_u2_k (by omega)))
        refine ⟨J', ?_, e2, e3, e4⟩
        rw [← e1, uu]
        show X12_solveLayer_s196 N 85 kk (X12_solveLayer_h196 N 85 kk f) n0 K J F 0 0 _ _ _ _ x = _
        unfold X12_solveLayer_s196 am_lt
        dsimp only
        rw [am_mo_0, if_pos (nb_in (by omega)), if_pos (by omega), mwK_85 hm, if_pos (show ((12, 0) : Nat × Int).1 = 12 from rfl), if_pos (nb_in (by omega)), mwF_85_26 hm, mwK_94 hm, if_pos (show ((100, 40000) : Nat × Int).1 = 100 from rfl), if_pos (show 0 ≤ gp_top A lk (t - 1) + x ∧ gp_top A lk (t - 1) + x < 40000 by omega), if_pos q, kn.1, if_pos (show ((100, 40000) : Nat × Int).1 = 100 from rfl), if_pos (show 0 ≤ x ∧ x < 40000 by omega), mwF_85_25 hm, mwK_93 hm, if_pos (show ((100, 40000) : Nat × Int).1 = 100 from rfl), if_pos (show 0 ≤ gp_top A lk (t - 1) + x ∧ gp_top A lk (t - 1) + x < 40000 by omega), ja, j93, if_pos w, if_pos (show (94 : Nat) ≠ 1 by decide), if_pos (nb_in (by omega)), nx]
        rfl
      · have oo : d < f := by omega
        have o3 : gp_top A lk t - gp_top A lk (t - 1) - (x + 1) = d := by omega
        obtain ⟨J', e1, e2, e3, e4⟩ := ih f J (x + 1) o3 oo (by omega) hJ ho (fun k a b => by
          by_cases u : k = gp_top A lk (t - 1) + x
          · rw [u]
            refine Or.inr ⟨fun n hn => ?_, ?_⟩
            · by_cases un : n = r + 1
              · rw [un]; exact w
              · exact hno n (by omega)
            · rcases hr with ⟨n, n1, n2, n3⟩ | ⟨n1, n2⟩
              · rw [n3] at q; exact absurd q (by omega)
              · exact n2
          · exact h1 k a (by omega)) (fun k a b => h2 k (by omega) b)
        refine ⟨J', ?_, e2, e3, e4⟩
        rw [← e1]
        show X12_solveLayer_s196 N 85 kk (X12_solveLayer_h196 N 85 kk f) n0 K J F 0 0 _ _ _ _ x = _
        unfold X12_solveLayer_s196 am_lt
        dsimp only
        rw [am_mo_0, if_pos (nb_in (by omega)), if_pos (by omega), mwK_85 hm, if_pos (show ((12, 0) : Nat × Int).1 = 12 from rfl), if_pos (nb_in (by omega)), mwF_85_26 hm, mwK_94 hm, if_pos (show ((100, 40000) : Nat × Int).1 = 100 from rfl), if_pos (show 0 ≤ gp_top A lk (t - 1) + x ∧ gp_top A lk (t - 1) + x < 40000 by omega), if_pos q, kn.1, if_pos (show ((100, 40000) : Nat × Int).1 = 100 from rfl), if_pos (show 0 ≤ x ∧ x < 40000 by omega), mwF_85_25 hm, mwK_93 hm, if_pos (show ((100, 40000) : Nat × Int).1 = 100 from rfl), if_pos (show 0 ≤ gp_top A lk (t - 1) + x ∧ gp_top A lk (t - 1) + x < 40000 by omega), ja, j93, if_neg w, nx]
    · have oo : d < f := by omega
      have o3 : gp_top A lk t - gp_top A lk (t - 1) - (x + 1) = d := by omega
      obtain ⟨J', e1, e2, e3, e4⟩ := ih f J (x + 1) o3 oo (by omega) hJ ho (fun k a b => by
        by_cases u : k = gp_top A lk (t - 1) + x
        · rw [u]
          rcases hr with ⟨n, n1, n2, n3⟩ | ⟨n1, n2⟩
          · exact Or.inl ⟨n, Nat.le_succ_of_le n1, n2, n3⟩
          · rw [n2] at q; exact absurd (by decide) q
        · exact h1 k a (by omega)) (fun k a b => h2 k (by omega) b)
      refine ⟨J', ?_, e2, e3, e4⟩
      rw [← e1]
      show X12_solveLayer_s196 N 85 kk (X12_solveLayer_h196 N 85 kk f) n0 K J F 0 0 _ _ _ _ x = _
      unfold X12_solveLayer_s196
      rw [am_mo_0, if_pos (nb_in (by omega)), if_pos (by omega), mwK_85 hm, if_pos (show ((12, 0) : Nat × Int).1 = 12 from rfl), if_pos (nb_in (by omega)), mwF_85_26 hm, mwK_94 hm, if_pos (show ((100, 40000) : Nat × Int).1 = 100 from rfl), if_pos (show 0 ≤ gp_top A lk (t - 1) + x ∧ gp_top A lk (t - 1) + x < 40000 by omega), if_neg q, nx]
end MRANK
