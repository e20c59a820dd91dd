-- SOLVING A LAYER, the class: settling
theorem am_mo_0 (x : Option am_A) : am_mo 0 0 x = x := by
  cases x with
  | none => rfl
  | some r => exact am_mo_s (Nat.zero_le _) (Nat.zero_le _)
/-- the list of the round to come -/
def lU (F : am_F) (J : am_I) (A C : Int) (lk U : Int → Int) (t s ro x5 : Int) : Prop := (∀ k, s ≤ k → k < gp_top A lk t → J (F 72 4) k ≤ ro) ∧ (x5 = gm_sm (fun i => if J (F 72 4) (s + i) = ro then 1 else 0) (gp_top A lk t - s).toNat) ∧ (∀ j, 0 ≤ j → j < x5 → s ≤ J (F 72 3) j ∧ J (F 72 3) j < gp_top A lk t ∧ 0 < gp_N A C lk U (J (F 72 3) j)) ∧ (∀ k, s ≤ k → k < gp_top A lk t → J (F 72 4) k = ro → ∃ j, 0 ≤ j ∧ j < x5 ∧ J (F 72 3) j = k)
theorem lU.le {F : am_F} {J : am_I} {A C : Int} {lk U : Int → Int} {t s ro x5 : Int} (h : lU F J A C lk U t s ro x5) : ∀ k, s ≤ k → k < gp_top A lk t → J (F 72 4) k ≤ ro := h.1
theorem lU.ct {F : am_F} {J : am_I} {A C : Int} {lk U : Int → Int} {t s ro x5 : Int} (h : lU F J A C lk U t s ro x5) : x5 = gm_sm (fun i => if J (F 72 4) (s + i) = ro then 1 else 0) (gp_top A lk t - s).toNat := h.2.1
theorem lU.up {F : am_F} {J : am_I} {A C : Int} {lk U : Int → Int} {t s ro x5 : Int} (h : lU F J A C lk U t s ro x5) : ∀ j, 0 ≤ j → j < x5 → s ≤ J (F 72 3) j ∧ J (F 72 3) j < gp_top A lk t ∧ 0 < gp_N A C lk U (J (F 72 3) j) := h.2.2.1
theorem lU.cu {F : am_F} {J : am_I} {A C : Int} {lk U : Int → Int} {t s ro x5 : Int} (h : lU F J A C lk U t s ro x5) : ∀ k, s ≤ k → k < gp_top A lk t → J (F 72 4) k = ro → ∃ j, 0 ≤ j ∧ j < x5 ∧ J (F 72 3) j = k := h.2.2.2
/-- a round, half way -/
def lT (F : am_F) (I J : am_I) (A C : Int) (lk U : Int → Int) (t s ro : Int) (v v' rk rk' : Int → Int) (x5 j : Int) : Prop := (∀ b, b ≠ F 62 4 → b ≠ F 62 5 → b ≠ F 72 3 → b ≠ F 72 4 → J b = I b) ∧ (lU F J A C lk U t s ro x5) ∧ (∀ k, ¬ (s ≤ k ∧ k < gp_top A lk t) → J (F 62 4) k = I (F 62 4) k ∧ J (F 62 5) k = I (F 62 5) k) ∧ (∀ k, s ≤ k → k < gp_top A lk t → (J (F 62 4) k = v k ∧ J (F 62 5) k = rk k) ∨ (J (F 62 4) k = v' k ∧ J (F 62 5) k = rk' k)) ∧ (∀ i, 0 ≤ i → i < j → J (F 62 4) (I (F 72 1) i) = v' (I (F 72 1) i)) ∧ (∀ p, s ≤ p → p < gp_top A lk t → J (F 62 4) p ≠ v p → ∀ k i, s ≤ k → k < gp_top A lk t → 0 ≤ i → i < gp_N A C lk U k → gp_O A C lk U k i = p → J (F 72 4) k = ro) ∧ (0 < x5 → ∃ p, v' p ≠ v p)
theorem lT.fr {F : am_F} {I J : am_I} {A C : Int} {lk U : Int → Int} {t s ro : Int} {v v' rk rk' : Int → Int} {x5 j : Int} (h : lT F I J A C lk U t s ro v v' rk rk' x5 j) : ∀ b, b ≠ F 62 4 → b ≠ F 62 5 → b ≠ F 72 3 → b ≠ F 72 4 → J b = I b := h.1
theorem lT.u {F : am_F} {I J : am_I} {A C : Int} {lk U : Int → Int} {t s ro : Int} {v v' rk rk' : Int → Int} {x5 j : Int} (h : lT F I J A C lk U t s ro v v' rk rk' x5 j) : lU F J A C lk U t s ro x5 := h.2.1
theorem lT.vo {F : am_F} {I J : am_I} {A C : Int} {lk U : Int → Int} {t s ro : Int} {v v' rk rk' : Int → Int} {x5 j : Int} (h : lT F I J A C lk U t s ro v v' rk rk' x5 j) : ∀ k, ¬ (s ≤ k ∧ k < gp_top A lk t) → J (F 62 4) k = I (F 62 4) k ∧ J (F 62 5) k = I (F 62 5) k := h.2.2.1
theorem lT.or {F : am_F} {I J : am_I} {A C : Int} {lk U : Int → Int} {t s ro : Int} {v v' rk rk' : Int → Int} {x5 j : Int} (h : lT F I J A C lk U t s ro v v' rk rk' x5 j) : ∀ k, s ≤ k → k < gp_top A lk t → (J (F 62 4) k = v k ∧ J (F 62 5) k = rk k) ∨ (J (F 62 4) k = v' k ∧ J (F 62 5) k = rk' k) := h.2.2.2.1
theorem lT.dn {F : am_F} {I J : am_I} {A C : Int} {lk U : Int → Int} {t s ro : Int} {v v' rk rk' : Int → Int} {x5 j : Int} (h : lT F I J A C lk U t s ro v v' rk rk' x5 j) : ∀ i, 0 ≤ i → i < j → J (F 62 4) (I (F 72 1) i) = v' (I (F 72 1) i) := h.2.2.2.2.1
theorem lT.cg {F : am_F} {I J : am_I} {A C : Int} {lk U : Int → Int} {t s ro : Int} {v v' rk rk' : Int → Int} {x5 j : Int} (h : lT F I J A C lk U t s ro v v' rk rk' x5 j) : ∀ p, s ≤ p → p < gp_top A lk t → J (F 62 4) p ≠ v p → ∀ k i, s ≤ k → k < gp_top A lk t → 0 ≤ i → i < gp_N A C lk U k → gp_O A C lk U k i = p → J (F 72 4) k = ro := h.2.2.2.2.2.1
theorem lT.ch {F : am_F} {I J : am_I} {A C : Int} {lk U : Int → Int} {t s ro : Int} {v v' rk rk' : Int → Int} {x5 j : Int} (h : lT F I J A C lk U t s ro v v' rk rk' x5 j) : 0 < x5 → ∃ p, v' p ≠ v p := h.2.2.2.2.2.2
theorem lD.kept {F : am_F} {I J : am_I} {A C : Int} {lk U : Int → Int} {t s E : Int} (h : lD F I A C lk U t s E) (h5 : J (F 72 5) = I (F 72 5)) (h6 : J (F 72 6) = I (F 72 6)) : lD F J A C lk U t s E := ⟨by rw [h5]; exact h.b, by rw [h5, h6]; exact h.g, by rw [h5, h6]; exact h.c⟩
theorem lU.kept {F : am_F} {I J : am_I} {A C : Int} {lk U : Int → Int} {t s ro x5 : Int} (h : lU F I A C lk U t s ro x5) (h3 : J (F 72 3) = I (F 72 3)) (h4 : J (F 72 4) = I (F 72 4)) : lU F J A C lk U t s ro x5 := ⟨by rw [h4]; exact h.le, by rw [h4]; exact h.ct, by rw [h3]; exact h.up, by rw [h3, h4]; exact h.cu⟩
section SETTLE
variable {N n n0 : Nat} {K : am_K} {F : am_F} {I J J' : am_I} {R C A : Int} {lk U : Int → Int} {S x y z k p V t s i m x1 x3 x5 x6 ro j : Int} {D a3 a4 : Nat} {v v' rk rk' : Int → Int}
theorem lU.b (h : lU F J A C lk U t s ro x5) (hs : s ≤ gp_top A lk t) : 0 ≤ x5 ∧ x5 ≤ gp_top A lk t - s := by
  have := gm_sm_b (g := fun i => if J (F 72 4) (s + i) = ro then 1 else 0) (B := 1) (d := (gp_top A lk t - s).toNat) (fun i _ _ => by split <;> omega)
  rw [h.ct]; omega
theorem lU_step (hd : F 72 3 ≠ F 72 4) (h : lU F J A C lk U t s ro x5) (k0 : s ≤ k) (k1 : k < gp_top A lk t) (kn : 0 < gp_N A C lk U k) (hk : J (F 72 4) k ≠ ro) : lU F (am_u2 (am_u2 J (F 72 4) k ro) (F 72 3) x5 k) A C lk U t s ro (x5 + 1) := by
  have b := h.b (by omega)
  have r4 : ∀ j, am_u2 (am_u2 J (F 72 4) k ro) (F 72 3) x5 k (F 72 4) j = if j = k then ro else J (F 72 4) j := fun j => by
    rw [am_u2_a (fun w => hd w.symm)]
    by_cases q : j = k
    · rw [q, am_u2_s, if_pos rfl]
    · rw [am_u2_k q, if_neg q]
  have r3 : ∀ j, am_u2 (am_u2 J (F 72 4) k ro) (F 72 3) x5 k (F 72 3) j = if j = x5 then k else J (F 72 3) j := fun j => by
    by_cases q : j = x5
    · rw [q, am_u2_s, if_pos rfl]
    · rw [am_u2_k q, am_u2_a hd, if_neg q]
  refine ⟨fun k' a c => ?_, ?_, fun j a c => ?_, fun k' a c w => ?_⟩
  · rw [r4]
    by_cases q : k' = k
    · rw [if_pos q]; exact Int.le_refl _
    · rw [if_neg q]; exact h.le k' a c
  · have e1 : gm_sm (fun i => if am_u2 (am_u2 J (F 72 4) k ro) (F 72 3) x5 k (F 72 4) (s + i) = ro then (1 : Int) else 0) (gp_top A lk t - s).toNat = gm_sm (fun i => if i = k - s then 1 else (fun i => if J (F 72 4) (s + i) = ro then (1 : Int) else 0) i) (gp_top A lk t - s).toNat := gm_sm_congr (fun i _ _ => by
      dsimp only
      rw [r4]
      by_cases q : s + i = k
      · rw [if_pos q, if_pos rfl, if_pos (show i = k - s by omega)]
      · rw [if_neg q, if_neg (show ¬ i = k - s by omega)])
    have e2 := gm_sm_upd (fun i => if J (F 72 4) (s + i) = ro then (1 : Int) else 0) (k - s) 1 (gp_top A lk t - s).toNat
    rw [if_pos (show 0 ≤ k - s ∧ k - s < ((gp_top A lk t - s).toNat : Nat) by omega)] at e2
    rw [show s + (k - s) = k by omega, if_neg hk] at e2
    have e3 := h.ct
    rw [e1]
    dsimp only
    omega
  · rw [r3]
    by_cases q : j = x5
    · rw [if_pos q]; exact ⟨k0, k1, kn⟩
    · rw [if_neg q]; exact h.up j a (by omega)
  · rw [r4] at w
    by_cases q : k' = k
    · exact ⟨x5, b.1, by omega, by rw [r3, if_pos rfl, q]⟩
    · rw [if_neg q] at w
      obtain ⟨j, j0, j1, j2⟩ := h.cu k' a c w
      exact ⟨j, j0, by omega, by rw [r3, if_neg (by omega)]; exact j2⟩
/-- the leaders of one place -/
theorem c_set1 (ha : rA n K F) (hV : (K (F 62 4)).2 = V) (hT : gp_top A lk t ≤ V) (s0 : 0 ≤ s) (hD : lD F I A C lk U t s (K (F 63 2)).2) (p0 : s ≤ p) (p1 : p < gp_top A lk t) (y0 : 0 ≤ x6) (y1 : x6 ≤ 40000) (k6 : Nat → am_K → am_I → am_F → Nat → Nat → Int → Int → Nat → Nat → Int → Int → Option am_A) : ∀ (d f : Nat) (J : am_I) (x5 x8 : Int), I (F 72 5) (p + 1) - x8 = d → d < f → I (F 72 5) p ≤ x8 → lU F J A C lk U t s ro x5 → (∀ b, b ≠ F 72 3 → b ≠ F 72 4 → J b = I b) → (∀ k, I (F 72 4) k = ro → J (F 72 4) k = ro) → (∀ j, I (F 72 5) p ≤ j → j < x8 → J (F 72 4) (I (F 72 6) j) = ro) →
    ∃ J' x5', X7_settle_h61 N 72 k6 f n0 K J F 0 0 x1 ro a3 a4 x5 x6 p x8 = k6 n0 K J' F 0 0 x1 ro a3 a4 x5' (x6 + 1) ∧ lU F J' A C lk U t s ro x5' ∧ (∀ b, b ≠ F 72 3 → b ≠ F 72 4 → J' b = I b) ∧ (∀ k, I (F 72 4) k = ro → J' (F 72 4) k = ro) ∧ (∀ j, I (F 72 5) p ≤ j → j < I (F 72 5) (p + 1) → J' (F 72 4) (I (F 72 6) j) = ro) := by
  have hc := ha.c
  have V1 := ha.V1
  have E1 := ha.E1
  have db := hD.b p p0 p1
  have k3 : K (F 72 3) = (100, V) := by rw [← hV]; exact ha.w3
  have k4 : K (F 72 4) = (100, V) := by rw [← hV]; exact ha.w4
  have k5 : K (F 72 5) = (100, V + 1) := by rw [← hV]; exact ha.w5
  have k6' := ha.w6
  have n3 : F 72 3 ≠ 1 := (ha.v 11 (by decide)).1.ne rfl
  have n4 : F 72 4 ≠ 1 := (ha.v 12 (by decide)).1.ne rfl
  have d34 : F 72 3 ≠ F 72 4 := ha.ne (i := 11) (j := 12) (by decide) (by decide) (by decide)
  have d53 : F 72 5 ≠ F 72 3 := (ha.ne (i := 11) (j := 13) (by decide) (by decide) (by decide)).symm
  have d54 : F 72 5 ≠ F 72 4 := (ha.ne (i := 12) (j := 13) (by decide) (by decide) (by decide)).symm
  have d63 : F 72 6 ≠ F 72 3 := (ha.ne (i := 11) (j := 14) (by decide) (by decide) (by decide)).symm
  have d64 : F 72 6 ≠ F 72 4 := (ha.ne (i := 12) (j := 14) (by decide) (by decide) (by decide)).symm
  intro d
  induction d with
  | zero =>
    intro f J x5 x8 hd hf x8l hu hJ hm hj
    obtain ⟨f, rfl⟩ : ∃ g, f = g + 1 := ⟨f - 1, by omega⟩
    refine ⟨J, x5, ?_, hu, hJ, hm, fun j a b => hj j a (by omega)⟩
    show X7_settle_s61 N 72 k6 (X7_settle_h61 N 72 k6 f) n0 K J F 0 0 x1 ro a3 a4 x5 x6 p x8 = _
    unfold X7_settle_s61 X7_settle_b127 am_lt
    dsimp only
    rw [am_mo_0, cwK_72 hc, if_pos (show ((7, 0) : Nat × Int).1 = 7 from rfl), if_pos (nb_in (by omega)), k5, if_pos (show ((100, V + 1) : Nat × Int).1 = 100 from rfl), if_pos (show 0 ≤ p + 1 ∧ p + 1 < V + 1 by omega), hJ _ d53 d54, if_neg (by omega), am_mo_0, if_pos (nb_in (by omega))]
  | succ d ih =>
    intro f J x5 x8 hd hf x8l hu hJ hm hj
    obtain ⟨f, rfl⟩ : ∃ g, f = g + 1 := ⟨f - 1, by omega⟩
    have hk := hD.g p x8 p0 p1 x8l (by omega)
    have ub := hu.b (by omega)
    have nx : ∀ J x5, X7_settle_b121 N 72 k6 (X7_settle_h61 N 72 k6 f) n0 K J F 0 0 x1 ro a3 a4 x5 x6 p x8 = X7_settle_h61 N 72 k6 f n0 K J F 0 0 x1 ro a3 a4 x5 x6 p (x8 + 1) := fun J x5 => by
      unfold X7_settle_b121 am_lt
      rw [am_mo_0, if_pos (nb_in (by omega))]
    by_cases q : J (F 72 4) (I (F 72 6) x8) = ro
    · obtain ⟨J', x5', e1, e2⟩ := ih f J x5 (x8 + 1) (by omega) (by omega) (by omega) hu hJ hm (fun j a b => by
        by_cases w : j = x8
        · rw [w]; exact q
        · exact hj j a (by omega))
      refine ⟨J', x5', ?_, e2⟩
      rw [← e1]
      show X7_settle_s61 N 72 k6 (X7_settle_h61 N 72 k6 f) n0 K J F 0 0 x1 ro a3 a4 x5 x6 p x8 = _
      unfold X7_settle_s61 am_lt
      dsimp only
      rw [am_mo_0, cwK_72 hc, if_pos (show ((7, 0) : Nat × Int).1 = 7 from rfl), if_pos (nb_in (by omega)), k5, if_pos (show ((100, V + 1) : Nat × Int).1 = 100 from rfl), if_pos (show 0 ≤ p + 1 ∧ p + 1 < V + 1 by omega), hJ _ d53 d54, if_pos (by omega), k6', if_pos (show ((100, (K (F 63 2)).2) : Nat × Int).1 = 100 from rfl), if_pos (show 0 ≤ x8 ∧ x8 < (K (F 63 2)).2 by omega), k4, if_pos (show ((100, V) : Nat × Int).1 = 100 from rfl), hJ _ d63 d64, if_pos (show 0 ≤ I (F 72 6) x8 ∧ I (F 72 6) x8 < V by omega), if_pos q, nx]
    · have hu' := lU_step d34 hu hk.1 hk.2.1 hk.2.2 q
      have ub' := hu'.b (by omega)
      have r4 : ∀ j, am_u2 (am_u2 J (F 72 4) (I (F 72 6) x8) ro) (F 72 3) x5 (I (F 72 6) x8) (F 72 4) j = if j = I (F 72 6) x8 then ro else J (F 72 4) j := fun j => by
        rw [am_u2_a (fun w => d34 w.symm)]
        by_cases q : j = I (F 72 6) x8
        · rw [q, am_u2_s, if_pos rfl]
        · rw [am_u2_k q, if_neg q]
      obtain ⟨J', x5', e1, e2⟩ := ih f _ (x5 + 1) (x8 + 1) (by omega) (by omega) (by omega) hu' (fun b b3 b4 => by rw [am_u2_row_b b3, am_u2_row_b b4]; exact hJ b b3 b4) (fun k w => by
        rw [r4]; split
        · rfl
        · exact hm k w) (fun j a b => by
        rw [r4]
        by_cases w : j = x8
        · rw [w, if_pos rfl]
        · split
          · rfl
          · exact hj j a (by omega))
      refine ⟨J', x5', ?_, e2⟩
      rw [← e1]
      show X7_settle_s61 N 72 k6 (X7_settle_h61 N 72 k6 f) n0 K J F 0 0 x1 ro a3 a4 x5 x6 p x8 = _
      unfold X7_settle_s61 am_lt
      dsimp only
      rw [am_mo_0, cwK_72 hc, if_pos (show ((7, 0) : Nat × Int).1 = 7 from rfl), if_pos (nb_in (by omega)), k5, if_pos (show ((100, V + 1) : Nat × Int).1 = 100 from rfl), if_pos (show 0 ≤ p + 1 ∧ p + 1 < V + 1 by omega), hJ _ d53 d54, if_pos (by omega), k6', if_pos (show ((100, (K (F 63 2)).2) : Nat × Int).1 = 100 from rfl), if_pos (show 0 ≤ x8 ∧ x8 < (K (F 63 2)).2 by omega), k4, if_pos (show ((100, V) : Nat × Int).1 = 100 from rfl), hJ _ d63 d64, if_pos (show 0 ≤ I (F 72 6) x8 ∧ I (F 72 6) x8 < V by omega), if_neg q, if_pos n4, k3, if_pos (show ((100, V) : Nat × Int).1 = 100 from rfl), if_pos n3, if_pos (show 0 ≤ x5 ∧ x5 < V by omega), am_u2_row_b d64, hJ _ d63 d64, if_pos (nb_in (by omega)), nx]
/-- all that was weighed -/
theorem c_set2 (ha : rA n K F) (hN : 2000000 < N) (hV : (K (F 62 4)).2 = V) (hT : gp_top A lk t ≤ V) (s0 : 0 ≤ s) (hD : lD F I A C lk U t s (K (F 63 2)).2) (hrk : ∀ k, rk' k = if v' k = v k then rk k else ro) (hl : ∀ j, 0 ≤ j → j < x1 → s ≤ I (F 72 1) j ∧ I (F 72 1) j < gp_top A lk t) (hW : ∀ j, 0 ≤ j → j < x1 → I (F 72 2) j = v' (I (F 72 1) j)) (hx1 : x1 ≤ V) : ∀ (d f : Nat) (J : am_I) (x5 x6 : Int), x1 - x6 = d → d < f → 0 ≤ x6 → lT F I J A C lk U t s ro v v' rk rk' x5 x6 →
    ∃ J' x5', X7_settle_h6 N 72 f n0 K J F 0 0 x1 ro (F 62 4) (F 62 5) x5 x6 = some (x5', n0, K, J', am_u2 (am_u2 F 72 1 (F 72 3)) 72 3 (F 72 1), 0, 0) ∧ lT F I J' A C lk U t s ro v v' rk rk' x5' x1 := by
  have hc := ha.c
  have V1 := ha.V1
  have E1 := ha.E1
  have k1 : K (F 72 1) = (100, V) := by rw [← hV]; exact ha.w1
  have k2 : K (F 72 2) = (100, V) := by rw [← hV]; exact ha.w2
  have kv : K (F 62 4) = (100, V) := by rw [← hV]; exact Prod.ext ha.v1 rfl
  have kr : K (F 62 5) = (100, V) := by rw [← hV]; exact ha.v2
  have k5 : K (F 72 5) = (100, V + 1) := by rw [← hV]; exact ha.w5
  have nv : F 62 4 ≠ 1 := (ha.v 2 (by decide)).1.ne rfl
  have nr : F 62 5 ≠ 1 := (ha.v 3 (by decide)).1.ne rfl
  have ne := fun {i j : Nat} (hi : i < 15) (hj : j < 15) (hij : i < j) => ha.ne hi hj hij
  have dvr : F 62 4 ≠ F 62 5 := ne (i := 2) (j := 3) (by decide) (by decide) (by decide)
  have dv3 : F 62 4 ≠ F 72 3 := ne (i := 2) (j := 11) (by decide) (by decide) (by decide)
  have dv4 : F 62 4 ≠ F 72 4 := ne (i := 2) (j := 12) (by decide) (by decide) (by decide)
  have dr3 : F 62 5 ≠ F 72 3 := ne (i := 3) (j := 11) (by decide) (by decide) (by decide)
  have dr4 : F 62 5 ≠ F 72 4 := ne (i := 3) (j := 12) (by decide) (by decide) (by decide)
  have m1 : ∀ i (hi : i < 15), i ≠ 2 → i ≠ 3 → i ≠ 11 → i ≠ 12 → ∀ J : am_I, (∀ b, b ≠ F 62 4 → b ≠ F 62 5 → b ≠ F 72 3 → b ≠ F 72 4 → J b = I b) → J ((vrl F)[i]'hi) = I ((vrl F)[i]'hi) := fun i hi q1 q2 q3 q4 J w => by
    have key : ∀ m (hm : m < 15), i ≠ m → (vrl F)[i]'hi ≠ (vrl F)[m]'hm := fun m hm q => by
      rcases Nat.lt_or_gt_of_ne q with u | u
      · exact ha.ne hi hm u
      · exact (ha.ne hm hi u).symm
    exact w _ (key 2 (by decide) q1) (key 3 (by decide) q2) (key 11 (by decide) q3) (key 12 (by decide) q4)
  intro d
  induction d with
  | zero =>
    intro f J x5 x6 hd hf y0 w
    obtain ⟨f, rfl⟩ : ∃ g, f = g + 1 := ⟨f - 1, by omega⟩
    refine ⟨J, x5, ?_, by rw [show x1 = x6 by omega]; exact w⟩
    show X7_settle_s6 N 72 (X7_settle_h6 N 72 f) n0 K J F 0 0 x1 ro (F 62 4) (F 62 5) x5 x6 = _
    unfold X7_settle_s6 am_lt
    dsimp only
    rw [am_mo_0, if_neg (by omega), cwK_72 hc, if_pos (show ((7, 0) : Nat × Int).1 = 7 from rfl)]
  | succ d ih =>
    intro f J x5 x6 hd hf y0 w
    obtain ⟨f, rfl⟩ : ∃ g, f = g + 1 := ⟨f - 1, by omega⟩
    have r1 : J (F 72 1) = I (F 72 1) := m1 9 (by decide) (by decide) (by decide) (by decide) (by decide) J w.fr
    have r2 : J (F 72 2) = I (F 72 2) := m1 10 (by decide) (by decide) (by decide) (by decide) (by decide) J w.fr
    have r5 : J (F 72 5) = I (F 72 5) := m1 13 (by decide) (by decide) (by decide) (by decide) (by decide) J w.fr
    have r6 : J (F 72 6) = I (F 72 6) := m1 14 (by decide) (by decide) (by decide) (by decide) (by decide) J w.fr
    have hk := hl x6 y0 (by omega)
    have hw := hW x6 y0 (by omega)
    obtain ⟨k, ek⟩ : ∃ k, k = I (F 72 1) x6 := ⟨_, rfl⟩
    rw [← ek] at hk hw
    by_cases q : v' k = J (F 62 4) k
    · obtain ⟨J', x5', e1, e2⟩ := ih f J x5 (x6 + 1) (by omega) (by omega) (by omega) ⟨w.fr, w.u, w.vo, w.or, fun i a b => by
        by_cases u : i = x6
        · rw [u, ← ek]; exact q.symm
        · exact w.dn i a (by omega), w.cg, w.ch⟩
      refine ⟨J', x5', ?_, e2⟩
      rw [← e1]
      show X7_settle_s6 N 72 (X7_settle_h6 N 72 f) n0 K J F 0 0 x1 ro (F 62 4) (F 62 5) x5 x6 = _
      unfold X7_settle_s6 X7_settle_b127 am_lt
      dsimp only
      rw [am_mo_0, if_pos (by omega), cwK_72 hc, if_pos (show ((7, 0) : Nat × Int).1 = 7 from rfl), k1, if_pos (show ((100, V) : Nat × Int).1 = 100 from rfl), if_pos (show 0 ≤ x6 ∧ x6 < V by omega), k2, if_pos (show ((100, V) : Nat × Int).1 = 100 from rfl), if_pos (show 0 ≤ x6 ∧ x6 < V by omega), kv, if_pos (show ((100, V) : Nat × Int).1 = 100 from rfl), r1, ← ek, if_pos (show 0 ≤ k ∧ k < V by omega), r2, hw, if_pos q, am_mo_0, if_pos (nb_in (by omega))]
    · have vk : J (F 62 4) k = v k := by
        rcases w.or k hk.1 hk.2 with u | u
        · exact u.1
        · exact absurd u.1.symm q
      have vne : v' k ≠ v k := by rw [← vk]; exact q
      generalize hJ1 : am_u2 (am_u2 J (F 62 4) k (v' k)) (F 62 5) k ro = J1
      have jf : ∀ b, b ≠ F 62 4 → b ≠ F 62 5 → J1 b = J b := fun b b1 b2 => by rw [← hJ1, am_u2_row_b b2, am_u2_row_b b1]
      have jv : ∀ j, J1 (F 62 4) j = if j = k then v' k else J (F 62 4) j := fun j => by
        rw [← hJ1, am_u2_a dvr]
        by_cases u : j = k
        · rw [u, am_u2_s, if_pos rfl]
        · rw [am_u2_k u, if_neg u]
      have jr : ∀ j, J1 (F 62 5) j = if j = k then ro else J (F 62 5) j := fun j => by
        rw [← hJ1]
        by_cases u : j = k
        · rw [u, am_u2_s, if_pos rfl]
        · rw [am_u2_k u, am_u2_a dvr.symm, if_neg u]
      have j3 : J1 (F 72 3) = J (F 72 3) := jf _ dv3.symm dr3.symm
      have j4 : J1 (F 72 4) = J (F 72 4) := jf _ dv4.symm dr4.symm
      have dv5 : F 62 4 ≠ F 72 5 := ne (i := 2) (j := 13) (by decide) (by decide) (by decide)
      have dr5 : F 62 5 ≠ F 72 5 := ne (i := 3) (j := 13) (by decide) (by decide) (by decide)
      have dv6 : F 62 4 ≠ F 72 6 := ne (i := 2) (j := 14) (by decide) (by decide) (by decide)
      have dr6 : F 62 5 ≠ F 72 6 := ne (i := 3) (j := 14) (by decide) (by decide) (by decide)
      have j5 : J1 (F 72 5) = I (F 72 5) := (jf _ dv5.symm dr5.symm).trans r5
      have j6 : J1 (F 72 6) = I (F 72 6) := (jf _ dv6.symm dr6.symm).trans r6
      have hD1 : lD F J1 A C lk U t s (K (F 63 2)).2 := hD.kept j5 j6
      have db := hD1.b k hk.1 hk.2
      obtain ⟨J2, y5, e1, e2, e3, e4, e5⟩ := c_set1 (N := N) (n0 := n0) (x1 := x1) (x6 := x6) (a3 := F 62 4) (a4 := F 62 5) ha hV hT s0 hD1 hk.1 hk.2 y0 (by omega) (X7_settle_h6 N 72 f) (J1 (F 72 5) (k + 1) - J1 (F 72 5) k).toNat N J1 x5 (J1 (F 72 5) k) (by omega) (by omega) (Int.le_refl _) (w.u.kept j3 j4) (fun _ _ _ => rfl) (fun _ u => u) (fun j a b => by omega)
      have gv : J2 (F 62 4) = J1 (F 62 4) := e3 _ dv3 dv4
      have gr : J2 (F 62 5) = J1 (F 62 5) := e3 _ dr3 dr4
      obtain ⟨J', x5', f1, f2⟩ := ih f J2 y5 (x6 + 1) (by omega) (by omega) (by omega) ⟨fun b b1 b2 b3 b4 => by rw [e3 b b3 b4, jf b b1 b2]; exact w.fr b b1 b2 b3 b4, e2, fun k' u => by
          have : k' ≠ k := fun x => u (by rw [x]; exact hk)
          rw [gv, gr, jv, jr, if_neg this, if_neg this]; exact w.vo k' u, fun k' a b => by
          rw [gv, gr, jv, jr]
          by_cases u : k' = k
          · rw [if_pos u, if_pos u, u]; right; rw [hrk, if_neg vne]; exact ⟨rfl, rfl⟩
          · rw [if_neg u, if_neg u]; exact w.or k' a b, fun i a b => by
          rw [gv, jv]
          by_cases u : I (F 72 1) i = k
          · rw [if_pos u, u]
          · rw [if_neg u]
            exact w.dn i a (by have : i ≠ x6 := fun x => u (by rw [x, ek]); omega), fun p a b hp k' i' c1 c2 c3 c4 ho => by
          by_cases u : p = k
          · obtain ⟨j, x1, x2, x3⟩ := hD1.c p k' i' a b c1 c2 c3 c4 ho
            rw [u] at x1 x2
            have := e5 j x1 x2
            rw [x3] at this
            exact this
          · rw [gv, jv, if_neg u] at hp
            exact e4 k' (by rw [j4]; exact w.cg p a b hp k' i' c1 c2 c3 c4 ho), fun _ => ⟨k, vne⟩⟩
      refine ⟨J', x5', ?_, f2⟩
      rw [← f1, ← e1]
      show X7_settle_s6 N 72 (X7_settle_h6 N 72 f) n0 K J F 0 0 x1 ro (F 62 4) (F 62 5) x5 x6 = _
      unfold X7_settle_s6 am_lt
      dsimp only
      rw [am_mo_0, if_pos (by omega), cwK_72 hc, if_pos (show ((7, 0) : Nat × Int).1 = 7 from rfl), k1, if_pos (show ((100, V) : Nat × Int).1 = 100 from rfl), if_pos (show 0 ≤ x6 ∧ x6 < V by omega), k2, if_pos (show ((100, V) : Nat × Int).1 = 100 from rfl), if_pos (show 0 ≤ x6 ∧ x6 < V by omega), kv, if_pos (show ((100, V) : Nat × Int).1 = 100 from rfl), r1, ← ek, if_pos (show 0 ≤ k ∧ k < V by omega), r2, hw, if_neg q, if_pos nv, kr, if_pos (show ((100, V) : Nat × Int).1 = 100 from rfl), if_pos nr, if_pos (show 0 ≤ k ∧ k < V by omega), hJ1, k5, if_pos (show ((100, V + 1) : Nat × Int).1 = 100 from rfl), if_pos (show 0 ≤ k ∧ k < V + 1 by omega)]
end SETTLE
