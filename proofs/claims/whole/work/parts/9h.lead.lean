-- SOLVING A LAYER, the class: who leads where
/-- how many of the d edges from a on lead to p -/
def gq (q : Int → Int) (a p : Int) (d : Nat) : Int := gm_sm (fun i => if q (a + i) = p then 1 else 0) d
/-- how many lead to the w places from s on -/
def gQ (q : Int → Int) (a s : Int) (D w : Nat) : Int := gm_sm (fun i => gq q a (s + i) D) w
theorem gq_s (q : Int → Int) (a p : Int) (d : Nat) : gq q a p (d + 1) = gq q a p d + (if q (a + d) = p then 1 else 0) := rfl
theorem gq_nn (q : Int → Int) (a p : Int) (d : Nat) : 0 ≤ gq q a p d := by
  induction d with
  | zero => exact Int.le_refl _
  | succ d ih => rw [gq_s]; split <;> omega
theorem gq_le (q : Int → Int) (a p : Int) {d d' : Nat} (h : d ≤ d') : gq q a p d ≤ gq q a p d' := by
  induction h with
  | refl => exact Int.le_refl _
  | step _ ih => rw [gq_s]; split <;> omega
theorem gq_b (q : Int → Int) (a p : Int) (d : Nat) : gq q a p d ≤ d := by
  induction d with
  | zero => exact Int.le_refl _
  | succ d ih => rw [gq_s]; split <;> omega
theorem gq_z {q : Int → Int} {a p : Int} {d : Nat} (h : ∀ i : Int, 0 ≤ i → i < d → q (a + i) ≠ p) : gq q a p d = 0 := gm_sm_z (fun i x y => if_neg (h i x y))
theorem gQ_s (q : Int → Int) (a s : Int) (D w : Nat) : gQ q a s D (w + 1) = gQ q a s D w + gq q a (s + w) D := rfl
theorem gQ_mono (q : Int → Int) (a s : Int) (D : Nat) {w w' : Nat} (h : w ≤ w') : gQ q a s D w ≤ gQ q a s D w' := by
  induction h with
  | refl => exact Int.le_refl _
  | @step m _ ih => rw [gQ_s]; have := gq_nn q a (s + m) D; omega
theorem gQ_nn (q : Int → Int) (a s : Int) (D w : Nat) : 0 ≤ gQ q a s D w := gQ_mono q a s D (Nat.zero_le w)
theorem gQ_le (q : Int → Int) (a s : Int) (w : Nat) : ∀ D : Nat, gQ q a s D w ≤ D := by
  intro D
  induction D with
  | zero => rw [show gQ q a s 0 w = 0 from gm_sm_z (fun i _ _ => rfl)]; exact Int.le_refl _
  | succ D ih =>
    have e1 : gQ q a s (D + 1) w = gQ q a s D w + gm_sm (fun i => if q (a + D) = s + i then 1 else 0) w := gm_sm_add _ _ _
    have e2 : gm_sm (fun i => if q (a + D) = s + i then (1 : Int) else 0) w = gm_sm (fun i => if i = q (a + D) - s then (1 : Int) else 0) w := gm_sm_congr (fun i _ _ => by
      by_cases c : q (a + D) = s + i
      · rw [if_pos c, if_pos (by omega)]
      · rw [if_neg c, if_neg (by omega)])
    have e3 : gm_sm (fun i => if i = q (a + D) - s then (1 : Int) else 0) w = gm_sm (fun _ => (0 : Int)) w + (if 0 ≤ q (a + D) - s ∧ q (a + D) - s < w then 1 - 0 else 0) := gm_sm_upd (fun _ => (0 : Int)) (q (a + D) - s) 1 w
    rw [gm_sm_z (g := fun _ => (0 : Int)) (fun _ _ _ => rfl)] at e3
    split at e3 <;> omega
/-- the place behind the m-th edge -/
def gqf (F : am_F) (I : am_I) (m : Int) : Int := am_iand (I (F 63 2) m) 65535
def lH (K : am_K) (F : am_F) (I : am_I) (R C A : Int) (lk U : Int → Int) (V t s : Int) : Prop := (gR K F I R C A lk U V t) ∧ (K (F 72 5) = (100, V + 1)) ∧ (K (F 72 6) = (100, (K (F 63 2)).2)) ∧ (F 72 5 ≠ 1) ∧ (F 72 6 ≠ 1) ∧ (F 72 6 ≠ F 72 5) ∧ (F 63 0 ≠ F 72 5) ∧ (F 63 1 ≠ F 72 5) ∧ (F 63 2 ≠ F 72 5) ∧ (F 63 0 ≠ F 72 6) ∧ (F 63 1 ≠ F 72 6) ∧ (F 63 2 ≠ F 72 6) ∧ (0 ≤ s) ∧ (s < gp_top A lk t)
theorem lH.h {K : am_K} {F : am_F} {I : am_I} {R C A : Int} {lk U : Int → Int} {V t s : Int} (h : lH K F I R C A lk U V t s) : gR K F I R C A lk U V t := h.1
theorem lH.k5 {K : am_K} {F : am_F} {I : am_I} {R C A : Int} {lk U : Int → Int} {V t s : Int} (h : lH K F I R C A lk U V t s) : K (F 72 5) = (100, V + 1) := h.2.1
theorem lH.k6 {K : am_K} {F : am_F} {I : am_I} {R C A : Int} {lk U : Int → Int} {V t s : Int} (h : lH K F I R C A lk U V t s) : K (F 72 6) = (100, (K (F 63 2)).2) := h.2.2.1
theorem lH.n5 {K : am_K} {F : am_F} {I : am_I} {R C A : Int} {lk U : Int → Int} {V t s : Int} (h : lH K F I R C A lk U V t s) : F 72 5 ≠ 1 := h.2.2.2.1
theorem lH.n6 {K : am_K} {F : am_F} {I : am_I} {R C A : Int} {lk U : Int → Int} {V t s : Int} (h : lH K F I R C A lk U V t s) : F 72 6 ≠ 1 := h.2.2.2.2.1
theorem lH.d {K : am_K} {F : am_F} {I : am_I} {R C A : Int} {lk U : Int → Int} {V t s : Int} (h : lH K F I R C A lk U V t s) : F 72 6 ≠ F 72 5 := h.2.2.2.2.2.1
theorem lH.a0 {K : am_K} {F : am_F} {I : am_I} {R C A : Int} {lk U : Int → Int} {V t s : Int} (h : lH K F I R C A lk U V t s) : F 63 0 ≠ F 72 5 := h.2.2.2.2.2.2.1
theorem lH.a1 {K : am_K} {F : am_F} {I : am_I} {R C A : Int} {lk U : Int → Int} {V t s : Int} (h : lH K F I R C A lk U V t s) : F 63 1 ≠ F 72 5 := h.2.2.2.2.2.2.2.1
theorem lH.a2 {K : am_K} {F : am_F} {I : am_I} {R C A : Int} {lk U : Int → Int} {V t s : Int} (h : lH K F I R C A lk U V t s) : F 63 2 ≠ F 72 5 := h.2.2.2.2.2.2.2.2.1
theorem lH.b0 {K : am_K} {F : am_F} {I : am_I} {R C A : Int} {lk U : Int → Int} {V t s : Int} (h : lH K F I R C A lk U V t s) : F 63 0 ≠ F 72 6 := h.2.2.2.2.2.2.2.2.2.1
theorem lH.b1 {K : am_K} {F : am_F} {I : am_I} {R C A : Int} {lk U : Int → Int} {V t s : Int} (h : lH K F I R C A lk U V t s) : F 63 1 ≠ F 72 6 := h.2.2.2.2.2.2.2.2.2.2.1
theorem lH.b2 {K : am_K} {F : am_F} {I : am_I} {R C A : Int} {lk U : Int → Int} {V t s : Int} (h : lH K F I R C A lk U V t s) : F 63 2 ≠ F 72 6 := h.2.2.2.2.2.2.2.2.2.2.2.1
theorem lH.s0 {K : am_K} {F : am_F} {I : am_I} {R C A : Int} {lk U : Int → Int} {V t s : Int} (h : lH K F I R C A lk U V t s) : 0 ≤ s := h.2.2.2.2.2.2.2.2.2.2.2.2.1
theorem lH.s1 {K : am_K} {F : am_F} {I : am_I} {R C A : Int} {lk U : Int → Int} {V t s : Int} (h : lH K F I R C A lk U V t s) : s < gp_top A lk t := h.2.2.2.2.2.2.2.2.2.2.2.2.2
section LEAD
variable {N n : Nat} {K : am_K} {F : am_F} {I J J' : am_I} {R C A : Int} {lk U : Int → Int} {S x y z k p V t s : Int}
theorem gp_pos (hA : 0 ≤ A) {m : Int} : ∀ (d a : Nat), gp_cnt A C lk U a ≤ m → m < gp_cnt A C lk U (a + d) → ∃ k : Nat, a ≤ k ∧ k < a + d ∧ gp_cnt A C lk U k ≤ m ∧ m < gp_cnt A C lk U k + gp_N A C lk U (k : Int) := by
  intro d
  induction d with
  | zero => intro a h0 h1; rw [Nat.add_zero] at h1; omega
  | succ d ih =>
    intro a h0 h1
    by_cases q : m < gp_cnt A C lk U (a + d)
    · obtain ⟨k, x1, x2, x3, x4⟩ := ih a h0 q
      exact ⟨k, x1, by omega, x3, x4⟩
    · refine ⟨a + d, by omega, by omega, by omega, ?_⟩
      rw [← Nat.add_assoc, gp_cnt_s] at h1
      exact h1
theorem gp_pos_u (hA : 0 ≤ A) {k k' i i' : Int} (k0 : 0 ≤ k) (k1 : 0 ≤ k') (i0 : 0 ≤ i) (i1 : i < gp_N A C lk U k) (j0 : 0 ≤ i') (j1 : i' < gp_N A C lk U k') (h : gp_cnt A C lk U k.toNat + i = gp_cnt A C lk U k'.toNat + i') : k = k' ∧ i = i' := by
  have key : ∀ a b : Int, 0 ≤ a → a < b → gp_cnt A C lk U a.toNat + gp_N A C lk U a ≤ gp_cnt A C lk U b.toNat := fun a b a0 ab => by
    have := gp_cnt_le (A := A) (C := C) (lk := lk) (U := U) hA (a := (a + 1).toNat) (b := b.toNat) (by omega)
    rw [gR.cs hA a0] at this
    exact this
  rcases Int.lt_trichotomy k k' with q | q | q
  · have := key k k' k0 q; omega
  · subst q; exact ⟨rfl, by omega⟩
  · have := key k' k k1 q; omega
theorem gR.qf (h : gR K F I R C A lk U V t) {k i : Int} (k0 : 0 ≤ k) (k1 : k < gp_top A lk t) (i0 : 0 ≤ i) (i1 : i < gp_N A C lk U k) : gqf F I (gp_cnt A C lk U k.toNat + i) = gp_O A C lk U k i := by
  have c := (h.ci (N := 0) k0 k1 i0 i1).o K F I
  unfold gqf
  rw [h.ed k0 k1 i0 i1]
  unfold X0_placeBehind at c
  exact Option.some.inj c
theorem lH.q (h : lH K F I R C A lk U V t s) {m : Int} (h0 : gp_cnt A C lk U s.toNat ≤ m) (h1 : m < gp_cnt A C lk U (gp_top A lk t).toNat) : 0 ≤ gqf F I m ∧ gqf F I m < gp_top A lk t := by
  have hA := h.h.g.A
  have s0 := h.s0
  have s1 := h.s1
  obtain ⟨k, x1, x2, x3, x4⟩ := gp_pos (A := A) (C := C) (lk := lk) (U := U) (by omega) (m := m) ((gp_top A lk t).toNat - s.toNat) s.toNat h0 (by rw [show s.toNat + ((gp_top A lk t).toNat - s.toNat) = (gp_top A lk t).toNat by omega]; exact h1)
  have e := h.h.qf (k := (k : Int)) (i := m - gp_cnt A C lk U k) (by omega) (by omega) (by omega) (by omega)
  rw [Int.toNat_natCast, show gp_cnt A C lk U k + (m - gp_cnt A C lk U k) = m by omega] at e
  rw [e]
  exact (h.h.ci (N := 0) (k := (k : Int)) (i := m - gp_cnt A C lk U k) (by omega) (by omega) (by omega) (by omega)).o0
theorem lH.kept (h : lH K F I R C A lk U V t s) (hJ : ∀ b, b ≠ F 72 5 → b ≠ F 72 6 → J b = I b) : gR K F J R C A lk U V t := h.h.kept (hJ _ h.a0 h.b0) (hJ _ h.a1 h.b1) (hJ _ h.a2 h.b2)
/-- first: nothing counted -/
theorem c_lead1 (h : lH K F I R C A lk U V t s) : ∀ (d f : Nat) (J : am_I) (x : Int), gp_top A lk t + 1 - x = d → d < f → s ≤ x → (∀ b, b ≠ F 72 5 → J b = I b) → (∀ p, s ≤ p → p < x → J (F 72 5) p = 0) →
    ∃ J', X7_listLeaders_h2 N K F 72 f J s (gp_top A lk t) x = X7_listLeaders_h30 N K F 72 N J' s (gp_top A lk t) (gp_cnt A C lk U s.toNat) ∧ (∀ b, b ≠ F 72 5 → J' b = I b) ∧ (∀ p, s ≤ p → p ≤ gp_top A lk t → J' (F 72 5) p = 0) := by
  have s0 := h.s0
  have s1 := h.s1
  have v0 := h.h.V0
  have v1 := h.h.V1
  have hc := h.h.c
  intro d
  induction d with
  | zero =>
    intro f J x hd hf sx hJ hz
    obtain ⟨f, rfl⟩ : ∃ g, f = g + 1 := ⟨f - 1, by omega⟩
    refine ⟨J, ?_, hJ, fun p a b => hz p a (by omega)⟩
    show X7_listLeaders_s2 N K F 72 (X7_listLeaders_h2 N K F 72 f) J s (gp_top A lk t) x = _
    unfold X7_listLeaders_s2 am_lt
    dsimp only
    rw [if_neg (by omega), cwF_72_0 hc, cwK_63 hc, if_pos (show ((0, 0) : Nat × Int).1 = 0 from rfl), h.h.k1, if_pos (show ((100, V + 1) : Nat × Int).1 = 100 from rfl), if_pos (show 0 ≤ s ∧ s < V + 1 by omega), hJ _ h.a1, h.h.st s0 (by omega)]
  | succ d ih =>
    intro f J x hd hf sx hJ hz
    obtain ⟨f, rfl⟩ : ∃ g, f = g + 1 := ⟨f - 1, by omega⟩
    obtain ⟨J', e1, e2, e3⟩ := ih f (am_u2 J (F 72 5) x 0) (x + 1) (by omega) (by omega) (by omega) (fun b q => by rw [am_u2_row_b q]; exact hJ b q) (fun p a b => by
      by_cases q : p = x
      · rw [q, am_u2_s]
      · rw [am_u2_k q]; exact hz p a (by omega))
    refine ⟨J', ?_, e2, e3⟩
    rw [← e1]
    show X7_listLeaders_s2 N K F 72 (X7_listLeaders_h2 N K F 72 f) J s (gp_top A lk t) x = _
    unfold X7_listLeaders_s2 am_lt
    dsimp only
    rw [if_pos (by omega), h.k5, if_pos (show ((100, V + 1) : Nat × Int).1 = 100 from rfl), if_pos h.n5, if_pos (show 0 ≤ x ∧ x < V + 1 by omega), if_pos (nb_in (by omega))]
/-- second: counted -/
theorem c_lead2 (h : lH K F I R C A lk U V t s) {D : Nat} (hD : gp_cnt A C lk U (gp_top A lk t).toNat = gp_cnt A C lk U s.toNat + D) : ∀ (d f i : Nat) (J : am_I), D - i = d → d < f → i ≤ D → (∀ b, b ≠ F 72 5 → J b = I b) → (∀ p, s ≤ p → p ≤ gp_top A lk t → J (F 72 5) p = gq (gqf F I) (gp_cnt A C lk U s.toNat) p i) →
    ∃ J', X7_listLeaders_h30 N K F 72 f J s (gp_top A lk t) (gp_cnt A C lk U s.toNat + i) = X7_listLeaders_h84 N K F 72 N J' s (gp_top A lk t) (s + 1) ∧ (∀ b, b ≠ F 72 5 → J' b = I b) ∧ (∀ p, s ≤ p → p ≤ gp_top A lk t → J' (F 72 5) p = gq (gqf F I) (gp_cnt A C lk U s.toNat) p D) := by
  have s0 := h.s0
  have s1 := h.s1
  have v0 := h.h.V0
  have v1 := h.h.V1
  have hc := h.h.c
  have c0 := h.h.cb (k := s) s0 (by omega)
  have c1 := h.h.cb (k := gp_top A lk t) (by omega) (by omega)
  intro d
  induction d with
  | zero =>
    intro f i J hd hf iD hJ hz
    obtain ⟨f, rfl⟩ : ∃ g, f = g + 1 := ⟨f - 1, by omega⟩
    have : i = D := by omega
    subst this
    refine ⟨J, ?_, hJ, hz⟩
    show X7_listLeaders_s30 N K F 72 (X7_listLeaders_h30 N K F 72 f) J s (gp_top A lk t) _ = _
    unfold X7_listLeaders_s30 am_lt
    dsimp only
    rw [cwF_72_0 hc, cwK_63 hc, if_pos (show ((0, 0) : Nat × Int).1 = 0 from rfl), h.h.k1, if_pos (show ((100, V + 1) : Nat × Int).1 = 100 from rfl), if_pos (show 0 ≤ gp_top A lk t ∧ gp_top A lk t < V + 1 by omega), hJ _ h.a1, h.h.st (k := gp_top A lk t) (by omega) (by omega), if_neg (by omega), if_pos (nb_in (by omega))]
  | succ d ih =>
    intro f i J hd hf iD hJ hz
    obtain ⟨f, rfl⟩ : ∃ g, f = g + 1 := ⟨f - 1, by omega⟩
    have qb := h.q (m := gp_cnt A C lk U s.toNat + i) (by omega) (by omega)
    have eq0 : X0_placeBehind N K F J (J (F 63 2) (gp_cnt A C lk U s.toNat + i)) = some (gqf F I (gp_cnt A C lk U s.toNat + i)) := by
      unfold X0_placeBehind gqf; rw [hJ _ h.a2]
    have st : X7_listLeaders_h30 N K F 72 (f + 1) J s (gp_top A lk t) (gp_cnt A C lk U s.toNat + i) = X7_listLeaders_h30 N K F 72 f (if s ≤ gqf F I (gp_cnt A C lk U s.toNat + i) then am_u2 J (F 72 5) (gqf F I (gp_cnt A C lk U s.toNat + i)) (J (F 72 5) (gqf F I (gp_cnt A C lk U s.toNat + i)) + 1) else J) s (gp_top A lk t) (gp_cnt A C lk U s.toNat + (i + 1 : Nat)) := by
      show X7_listLeaders_s30 N K F 72 (X7_listLeaders_h30 N K F 72 f) J s (gp_top A lk t) _ = _
      unfold X7_listLeaders_s30 X7_listLeaders_b74 am_lt
      dsimp only
      rw [cwF_72_0 hc, cwK_63 hc, if_pos (show ((0, 0) : Nat × Int).1 = 0 from rfl), h.h.k1, if_pos (show ((100, V + 1) : Nat × Int).1 = 100 from rfl), if_pos (show 0 ≤ gp_top A lk t ∧ gp_top A lk t < V + 1 by omega), hJ _ h.a1, h.h.st (k := gp_top A lk t) (by omega) (by omega), if_pos (by omega), if_pos h.h.k2, if_pos (by omega), eq0, am_cq_s, show gp_cnt A C lk U s.toNat + (i : Int) + 1 = gp_cnt A C lk U s.toNat + (i + 1 : Nat) by omega]
      by_cases q : s ≤ gqf F I (gp_cnt A C lk U s.toNat + i)
      · have hv := hz _ q (by omega)
        have b1 := gq_nn (gqf F I) (gp_cnt A C lk U s.toNat) (gqf F I (gp_cnt A C lk U s.toNat + i)) i
        have b2 := gq_b (gqf F I) (gp_cnt A C lk U s.toNat) (gqf F I (gp_cnt A C lk U s.toNat + i)) i
        rw [if_pos q, if_pos q, h.k5, if_pos (show ((100, V + 1) : Nat × Int).1 = 100 from rfl), if_pos (show 0 ≤ gqf F I (gp_cnt A C lk U s.toNat + i) ∧ gqf F I (gp_cnt A C lk U s.toNat + i) < V + 1 by omega), if_pos (nb_in (by omega)), if_pos h.n5, if_pos (nb_in (by omega))]
      · rw [if_neg q, if_neg q, if_pos (nb_in (by omega))]
    rw [st]
    refine ih f (i + 1) _ (by omega) (by omega) (by omega) (fun b q => ?_) (fun p a b => ?_)
    · split
      · rw [am_u2_row_b q]; exact hJ b q
      · exact hJ b q
    · rw [gq_s]
      by_cases q : s ≤ gqf F I (gp_cnt A C lk U s.toNat + i)
      · rw [if_pos q]
        by_cases w : gqf F I (gp_cnt A C lk U s.toNat + i) = p
        · rw [if_pos w, w, am_u2_s, hz p a b]
        · rw [if_neg w, am_u2_k (fun v => w v.symm), hz p a b, Int.add_zero]
      · rw [if_neg q, if_neg (by omega), hz p a b, Int.add_zero]
/-- third: added up -/
theorem c_lead3 (h : lH K F I R C A lk U V t s) {D : Nat} (hD : gp_cnt A C lk U (gp_top A lk t).toNat = gp_cnt A C lk U s.toNat + D) : ∀ (d f : Nat) (J : am_I) (x : Int), gp_top A lk t + 1 - x = d → d < f → s + 1 ≤ x → (∀ b, b ≠ F 72 5 → J b = I b) → (∀ p, s ≤ p → p < x → J (F 72 5) p = gQ (gqf F I) (gp_cnt A C lk U s.toNat) s D (p - s + 1).toNat) → (∀ p, x ≤ p → p ≤ gp_top A lk t → J (F 72 5) p = gq (gqf F I) (gp_cnt A C lk U s.toNat) p D) →
    ∃ J', X7_listLeaders_h84 N K F 72 f J s (gp_top A lk t) x = X7_listLeaders_h114 N K F 72 N J' s (gp_top A lk t) s ∧ (∀ b, b ≠ F 72 5 → J' b = I b) ∧ (∀ p, s ≤ p → p ≤ gp_top A lk t → J' (F 72 5) p = gQ (gqf F I) (gp_cnt A C lk U s.toNat) s D (p - s + 1).toNat) := by
  have s0 := h.s0
  have s1 := h.s1
  have v0 := h.h.V0
  have v1 := h.h.V1
  have c0 := h.h.cb (k := s) s0 (by omega)
  have c1 := h.h.cb (k := gp_top A lk t) (by omega) (by omega)
  intro d
  induction d with
  | zero =>
    intro f J x hd hf sx hJ hz hy
    obtain ⟨f, rfl⟩ : ∃ g, f = g + 1 := ⟨f - 1, by omega⟩
    refine ⟨J, ?_, hJ, fun p a b => hz p a (by omega)⟩
    show X7_listLeaders_s84 N K F 72 (X7_listLeaders_h84 N K F 72 f) J s (gp_top A lk t) x = _
    unfold X7_listLeaders_s84
    rw [if_neg (by omega)]
  | succ d ih =>
    intro f J x hd hf sx hJ hz hy
    obtain ⟨f, rfl⟩ : ∃ g, f = g + 1 := ⟨f - 1, by omega⟩
    have a1 := hz (x - 1) (by omega) (by omega)
    have a2 := hy x (by omega) (by omega)
    have b1 := gQ_nn (gqf F I) (gp_cnt A C lk U s.toNat) s D (x - 1 - s + 1).toNat
    have b2 := gQ_le (gqf F I) (gp_cnt A C lk U s.toNat) s (x - 1 - s + 1).toNat D
    have b3 := gq_nn (gqf F I) (gp_cnt A C lk U s.toNat) x D
    have b4 := gq_b (gqf F I) (gp_cnt A C lk U s.toNat) x D
    have es : gQ (gqf F I) (gp_cnt A C lk U s.toNat) s D (x - s + 1).toNat = gQ (gqf F I) (gp_cnt A C lk U s.toNat) s D (x - 1 - s + 1).toNat + gq (gqf F I) (gp_cnt A C lk U s.toNat) x D := by
      rw [show (x - s + 1).toNat = (x - 1 - s + 1).toNat + 1 by omega, gQ_s, show s + (((x - 1 - s + 1).toNat : Nat) : Int) = x by omega]
    obtain ⟨J', e1, e2, e3⟩ := ih f (am_u2 J (F 72 5) x (J (F 72 5) x + J (F 72 5) (x - 1))) (x + 1) (by omega) (by omega) (by omega) (fun b q => by rw [am_u2_row_b q]; exact hJ b q) (fun p a b => by
      by_cases q : p = x
      · rw [q, am_u2_s, a1, a2, es]; omega
      · rw [am_u2_k q]; exact hz p a (by omega)) (fun p a b => by rw [am_u2_k (by omega)]; exact hy p (by omega) b)
    refine ⟨J', ?_, e2, e3⟩
    rw [← e1]
    show X7_listLeaders_s84 N K F 72 (X7_listLeaders_h84 N K F 72 f) J s (gp_top A lk t) x = _
    unfold X7_listLeaders_s84 am_lt
    dsimp only
    rw [if_pos (show x ≤ gp_top A lk t by omega), h.k5, if_pos (show ((100, V + 1) : Nat × Int).1 = 100 from rfl), if_pos (show 0 ≤ x ∧ x < V + 1 by omega), if_pos (nb_in (by omega)), if_pos (show 0 ≤ x - 1 ∧ x - 1 < V + 1 by omega), if_pos (nb_in (by omega)), if_pos h.n5, if_pos (nb_in (by omega))]
end LEAD
