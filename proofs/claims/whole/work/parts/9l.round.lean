-- SOLVING A LAYER, the class: rounds
def lgv (A C : Int) (lk U : Int → Int) (t : Int) (v0 : Int → Int) (r : Nat) : Int → Int := gv (gp_top A lk (t - 1)) (gp_top A lk t) (gp_N A C lk U) (gp_T A C lk U) (gp_O A C lk U) (gp_en A lk U) v0 r
def lgk (A C : Int) (lk U : Int → Int) (t : Int) (v0 : Int → Int) (r : Nat) : Int → Int := gkc (gp_top A lk (t - 1)) (gp_top A lk t) (gp_N A C lk U) (gp_T A C lk U) (gp_O A C lk U) (gp_en A lk U) v0 r
def lgH (A C : Int) (lk U : Int → Int) (t : Int) (v0 : Int → Int) : Prop := gH (gp_top A lk (t - 1)) (gp_top A lk t) t (gp_N A C lk U) (gp_T A C lk U) (gp_O A C lk U) (gp_en A lk U) v0
def lgS (A C : Int) (lk U : Int → Int) (t : Int) (v0 : Int → Int) (r : Nat) : Prop := gS (gp_top A lk (t - 1)) (gp_top A lk t) (gp_N A C lk U) (gp_T A C lk U) (gp_O A C lk U) (gp_en A lk U) v0 r
/-- the lists change places -/
def swp (F : am_F) : am_F := am_u2 (am_u2 F 72 1 (F 72 3)) 72 3 (F 72 1)
/-- between two rounds -/
def lS (F : am_F) (I J : am_I) (A C : Int) (lk U : Int → Int) (t E : Int) (v0 : Int → Int) (r : Nat) (x5 : Int) : Prop := (∀ k, 0 ≤ k → k < gp_top A lk t → J (F 62 4) k = lgv A C lk U t v0 r k) ∧ (∀ k, gp_top A lk (t - 1) ≤ k → k < gp_top A lk t → J (F 62 5) k = lgk A C lk U t v0 r k) ∧ (∀ k, ¬ (gp_top A lk (t - 1) ≤ k ∧ k < gp_top A lk t) → J (F 62 4) k = I (F 62 4) k ∧ J (F 62 5) k = I (F 62 5) k) ∧ (∀ j, 0 ≤ j → j < x5 → gp_top A lk (t - 1) ≤ J (F 72 1) j ∧ J (F 72 1) j < gp_top A lk t ∧ 0 < gp_N A C lk U (J (F 72 1) j)) ∧ (∀ k, gp_top A lk (t - 1) ≤ k → k < gp_top A lk t → 0 < gp_N A C lk U k → lgv A C lk U t v0 (r + 1) k ≠ lgv A C lk U t v0 r k → ∃ j, 0 ≤ j ∧ j < x5 ∧ J (F 72 1) j = k) ∧ (∀ k, gp_top A lk (t - 1) ≤ k → k < gp_top A lk t → J (F 72 4) k ≤ r) ∧ (0 ≤ x5 ∧ x5 ≤ gp_top A lk t - gp_top A lk (t - 1)) ∧ (0 < x5 → r = 0 ∨ ∃ p, lgv A C lk U t v0 r p ≠ lgv A C lk U t v0 (r - 1) p) ∧ (lD F J A C lk U t (gp_top A lk (t - 1)) E) ∧ (∀ b, b ≠ F 62 4 → b ≠ F 62 5 → b ≠ F 72 1 → b ≠ F 72 2 → b ≠ F 72 3 → b ≠ F 72 4 → J b = I b)
theorem lS.vv {F : am_F} {I J : am_I} {A C : Int} {lk U : Int → Int} {t E : Int} {v0 : Int → Int} {r : Nat} {x5 : Int} (h : lS F I J A C lk U t E v0 r x5) : ∀ k, 0 ≤ k → k < gp_top A lk t → J (F 62 4) k = lgv A C lk U t v0 r k := h.1
theorem lS.rr {F : am_F} {I J : am_I} {A C : Int} {lk U : Int → Int} {t E : Int} {v0 : Int → Int} {r : Nat} {x5 : Int} (h : lS F I J A C lk U t E v0 r x5) : ∀ k, gp_top A lk (t - 1) ≤ k → k < gp_top A lk t → J (F 62 5) k = lgk A C lk U t v0 r k := h.2.1
theorem lS.ro {F : am_F} {I J : am_I} {A C : Int} {lk U : Int → Int} {t E : Int} {v0 : Int → Int} {r : Nat} {x5 : Int} (h : lS F I J A C lk U t E v0 r x5) : ∀ k, ¬ (gp_top A lk (t - 1) ≤ k ∧ k < gp_top A lk t) → J (F 62 4) k = I (F 62 4) k ∧ J (F 62 5) k = I (F 62 5) k := h.2.2.1
theorem lS.li {F : am_F} {I J : am_I} {A C : Int} {lk U : Int → Int} {t E : Int} {v0 : Int → Int} {r : Nat} {x5 : Int} (h : lS F I J A C lk U t E v0 r x5) : ∀ j, 0 ≤ j → j < x5 → gp_top A lk (t - 1) ≤ J (F 72 1) j ∧ J (F 72 1) j < gp_top A lk t ∧ 0 < gp_N A C lk U (J (F 72 1) j) := h.2.2.2.1
theorem lS.cm {F : am_F} {I J : am_I} {A C : Int} {lk U : Int → Int} {t E : Int} {v0 : Int → Int} {r : Nat} {x5 : Int} (h : lS F I J A C lk U t E v0 r x5) : ∀ k, gp_top A lk (t - 1) ≤ k → k < gp_top A lk t → 0 < gp_N A C lk U k → lgv A C lk U t v0 (r + 1) k ≠ lgv A C lk U t v0 r k → ∃ j, 0 ≤ j ∧ j < x5 ∧ J (F 72 1) j = k := h.2.2.2.2.1
theorem lS.lo {F : am_F} {I J : am_I} {A C : Int} {lk U : Int → Int} {t E : Int} {v0 : Int → Int} {r : Nat} {x5 : Int} (h : lS F I J A C lk U t E v0 r x5) : ∀ k, gp_top A lk (t - 1) ≤ k → k < gp_top A lk t → J (F 72 4) k ≤ r := h.2.2.2.2.2.1
theorem lS.x {F : am_F} {I J : am_I} {A C : Int} {lk U : Int → Int} {t E : Int} {v0 : Int → Int} {r : Nat} {x5 : Int} (h : lS F I J A C lk U t E v0 r x5) : 0 ≤ x5 ∧ x5 ≤ gp_top A lk t - gp_top A lk (t - 1) := h.2.2.2.2.2.2.1
theorem lS.ne {F : am_F} {I J : am_I} {A C : Int} {lk U : Int → Int} {t E : Int} {v0 : Int → Int} {r : Nat} {x5 : Int} (h : lS F I J A C lk U t E v0 r x5) : 0 < x5 → r = 0 ∨ ∃ p, lgv A C lk U t v0 r p ≠ lgv A C lk U t v0 (r - 1) p := h.2.2.2.2.2.2.2.1
theorem lS.D {F : am_F} {I J : am_I} {A C : Int} {lk U : Int → Int} {t E : Int} {v0 : Int → Int} {r : Nat} {x5 : Int} (h : lS F I J A C lk U t E v0 r x5) : lD F J A C lk U t (gp_top A lk (t - 1)) E := h.2.2.2.2.2.2.2.2.1
theorem lS.fr {F : am_F} {I J : am_I} {A C : Int} {lk U : Int → Int} {t E : Int} {v0 : Int → Int} {r : Nat} {x5 : Int} (h : lS F I J A C lk U t E v0 r x5) : ∀ b, b ≠ F 62 4 → b ≠ F 62 5 → b ≠ F 72 1 → b ≠ F 72 2 → b ≠ F 72 3 → b ≠ F 72 4 → J b = I b := h.2.2.2.2.2.2.2.2.2
theorem swp_13 (F : am_F) : swp F 72 1 = F 72 3 ∧ swp F 72 3 = F 72 1 := ⟨by unfold swp; rw [am_u2_k (by decide), am_u2_s], by unfold swp; rw [am_u2_s]⟩
theorem swp_n {F : am_F} {a : Nat} {j : Int} (h : a ≠ 72 ∨ (j ≠ 1 ∧ j ≠ 3)) : swp F a j = F a j := by
  unfold swp
  rcases h with h | h
  · rw [am_u2_a h, am_u2_a h]
  · rw [am_u2_k h.2, am_u2_k h.1]
section ROUND
variable {N n n0 : Nat} {K : am_K} {F F' : am_F} {I J J' : am_I} {R C A : Int} {lk U : Int → Int} {S x y z k p V t s i m x1 x3 x5 x6 ro j : Int} {D r : Nat} {v0 v v' rk rk' : Int → Int}
theorem swp_rA (h : rA n K F) : rA n K (swp F) := by
  have e1 := (swp_13 F).1
  have e3 := (swp_13 F).2
  have f := fun {a : Nat} {j : Int} (w : a ≠ 72 ∨ (j ≠ 1 ∧ j ≠ 3)) => swp_n (F := F) w
  have f2 := f (a := 59) (j := 2) (by decide)
  have f3 := f (a := 59) (j := 3) (by decide)
  have a4 := f (a := 62) (j := 4) (by decide)
  have a5 := f (a := 62) (j := 5) (by decide)
  have a6 := f (a := 62) (j := 6) (by decide)
  have a7 := f (a := 62) (j := 7) (by decide)
  have b0 := f (a := 63) (j := 0) (by decide)
  have b1 := f (a := 63) (j := 1) (by decide)
  have b2 := f (a := 63) (j := 2) (by decide)
  have c2 := f (a := 72) (j := 2) (by decide)
  have c4 := f (a := 72) (j := 4) (by decide)
  have c5 := f (a := 72) (j := 5) (by decide)
  have c6 := f (a := 72) (j := 6) (by decide)
  have d3 := f (a := 85) (j := 33) (by decide)
  have d4 := f (a := 85) (j := 34) (by decide)
  have hfx : ∀ b i, b < 109 → fixd b i = true → swp F b i = F b i := fun b i w1 w2 => by
    obtain ⟨x1, x2, x3⟩ := fixd_v w2
    refine f ?_
    by_cases q : b = 72
    · have := x3 q; omega
    · exact Or.inl q
  have ev : vrl (swp F) = [F 59 2, F 59 3, F 62 4, F 62 5, F 62 6, F 62 7, F 63 0, F 63 1, F 63 2, F 72 3, F 72 2, F 72 1, F 72 4, F 72 5, F 72 6] := by
    unfold vrl
    rw [e1, e3, f2, f3, a4, a5, a6, a7, b0, b1, b2, c2, c4, c5, c6]
  have pm : List.Perm (vrl (swp F)) (vrl F) := by
    rw [ev]
    unfold vrl
    refine .cons _ (.cons _ (.cons _ (.cons _ (.cons _ (.cons _ (.cons _ (.cons _ (.cons _ ?_))))))))
    exact ((List.Perm.swap _ _ _).trans (.cons _ (List.Perm.swap _ _ _))).trans (List.Perm.swap _ _ _)
  refine ⟨h.c.kept (fun _ _ => rfl) hfx, h.m.kept (fun _ _ => rfl) hfx, pm.nodup_iff.mpr h.nd, fun r w => h.ok r (pm.mem_iff.mp w), h.nn, by rw [d3, d4]; exact h.mm, ?_, ?_, ?_, ?_, ?_, ?_, ?_, ?_, ?_, ?_, ?_, ?_, ?_, ?_, ?_, ?_, ?_⟩
  · rw [a4]; exact h.v1
  · rw [a4, a5]; exact h.v2
  · rw [a4, a6]; exact h.v3
  · rw [a4, a7]; exact h.v4
  · rw [a4, b0]; exact h.g0
  · rw [a4, b1]; exact h.g1
  · rw [b2]; exact h.g2
  · rw [a4, e1]; exact h.w3
  · rw [a4, c2]; exact h.w2
  · rw [a4, e3]; exact h.w1
  · rw [a4, c4]; exact h.w4
  · rw [a4, c5]; exact h.w5
  · rw [b2, c6]; exact h.w6
  · rw [a4]; exact h.V0
  · rw [a4]; exact h.V1
  · rw [b2]; exact h.E0
  · rw [b2]; exact h.E1
theorem swp_gR (ha : rA n K F) (h : gR K F I R C A lk U V t) : gR K (swp F) I R C A lk U V t := by
  have b0 : swp F 63 0 = F 63 0 := swp_n (by decide)
  have b1 : swp F 63 1 = F 63 1 := swp_n (by decide)
  have b2 : swp F 63 2 = F 63 2 := swp_n (by decide)
  have G := h.G
  exact ⟨(swp_rA ha).c, h.g, h.L, h.u, ⟨by rw [b1]; exact G.s0, by rw [b1]; exact G.s, by rw [b2]; exact G.e, by rw [b0]; exact G.d⟩, h.t0, h.t1, h.V0, h.V1, by rw [b0]; exact h.k0, by rw [b1]; exact h.k1, by rw [b2]; exact h.k2, by rw [b2]; exact h.E, by rw [b2]; exact h.E1⟩
/-- a round -/
theorem c_round (ha : rA n K F) (hN : 2000000 < N) (hV : (K (F 62 4)).2 = V) (hG : gR K F J R C A lk U V t) (H : lgH A C lk U t v0) (hv : ∀ k, 0 ≤ k → k < gp_top A lk (t - 1) → -12 ≤ v0 k ∧ v0 k ≤ 12) (h : lS F I J A C lk U t (K (F 63 2)).2 v0 r x5) :
    ∃ J1 J2 x5', X7_weigh N K F 72 J x5 (F 62 4) = some (0, J1) ∧ X7_settle N 72 n0 K J1 F x5 ((r : Int) + 1) (F 62 4) (F 62 5) = some (x5', n0, K, J2, swp F, 0, 0) ∧ lS (swp F) I J2 A C lk U t (K (F 63 2)).2 v0 (r + 1) x5' := by
  have V0 := hG.V0
  have V1 := ha.V1
  have hl := H.l
  have hB := H.B
  have hb : ∀ k, 0 ≤ k → k < gp_top A lk t → -1000 ≤ J (F 62 4) k ∧ J (F 62 4) k ≤ 1000 := fun k a b => by
    rw [h.vv k a b]
    by_cases q : gp_top A lk (t - 1) ≤ k
    · have : -t ≤ lgv A C lk U t v0 r k ∧ lgv A C lk U t v0 r k ≤ t := H.bd r k q b
      omega
    · have e : lgv A C lk U t v0 r k = v0 k := gv_out (by omega)
      have := hv k a (by omega)
      omega
  obtain ⟨J1, e1, e2, e3⟩ := c_weigh (N := N) hG hN ha hV hb (x1 := x5) (fun j a b => by have := h.li j a b; omega) h.x.1 (by have := h.x; omega)
  have ne := fun {i j : Nat} (hi : i < 15) (hj : j < 15) (hij : i < j) => ha.ne hi hj hij
  have d1 : F 72 1 ≠ F 72 2 := ne (i := 9) (j := 10) (by decide) (by decide) (by decide)
  have dv : F 62 4 ≠ F 72 2 := ne (i := 2) (j := 10) (by decide) (by decide) (by decide)
  have dr : F 62 5 ≠ F 72 2 := ne (i := 3) (j := 10) (by decide) (by decide) (by decide)
  have d3 : F 72 3 ≠ F 72 2 := (ne (i := 10) (j := 11) (by decide) (by decide) (by decide)).symm
  have d4 : F 72 4 ≠ F 72 2 := (ne (i := 10) (j := 12) (by decide) (by decide) (by decide)).symm
  have d5 : F 72 5 ≠ F 72 2 := (ne (i := 10) (j := 13) (by decide) (by decide) (by decide)).symm
  have d6 : F 72 6 ≠ F 72 2 := (ne (i := 10) (j := 14) (by decide) (by decide) (by decide)).symm
  have c5 : swp F 72 5 = F 72 5 := swp_n (by decide)
  have c6 : swp F 72 6 = F 72 6 := swp_n (by decide)
  have cv : swp F 62 4 = F 62 4 := swp_n (by decide)
  have cr : swp F 62 5 = F 62 5 := swp_n (by decide)
  have c2 : swp F 72 2 = F 72 2 := swp_n (by decide)
  have c4 : swp F 72 4 = F 72 4 := swp_n (by decide)
  have c1 := (swp_13 F).1
  have c3 := (swp_13 F).2
  have hD1 : lD F J1 A C lk U t (gp_top A lk (t - 1)) (K (F 63 2)).2 := h.D.kept (e2 _ d5) (e2 _ d6)
  have sN : ∀ k, gp_top A lk (t - 1) ≤ k ∧ k < gp_top A lk t → 0 < gp_N A C lk U k → ∀ f, (∀ k, 0 ≤ k → k < gp_top A lk t → f k = lgv A C lk U t v0 r k) → gr_mx (gp_T A C lk U) (gp_O A C lk U) f k (-60) (gp_N A C lk U k).toNat = lgv A C lk U t v0 (r + 1) k := fun k a b f hf => by
    have : lgv A C lk U t v0 (r + 1) k = gr_mx (gp_T A C lk U) (gp_O A C lk U) (lgv A C lk U t v0 r) k (-60) (gp_N A C lk U k).toNat := gv_s a b
    rw [this]
    exact gr_mx_congr _ (fun i i0 i1 => by have := H.o k i a.1 a.2 i0 (by omega); exact hf _ this.1 this.2)
  have hrk : ∀ k, lgk A C lk U t v0 (r + 1) k = if lgv A C lk U t v0 (r + 1) k = lgv A C lk U t v0 r k then lgk A C lk U t v0 r k else (r : Int) + 1 := fun k => rfl
  have z0 : gm_sm (fun i => if J1 (F 72 4) (gp_top A lk (t - 1) + i) = (r : Int) + 1 then (1 : Int) else 0) (gp_top A lk t - gp_top A lk (t - 1)).toNat = 0 := gm_sm_z (fun i a b => by
    have := h.lo (gp_top A lk (t - 1) + i) (by omega) (by omega)
    rw [e2 _ d4, if_neg (by omega)])
  obtain ⟨J2, x5', f1, f2⟩ := c_set2 (N := N) (n0 := n0) (x1 := x5) (ro := (r : Int) + 1) (v := lgv A C lk U t v0 r) (v' := lgv A C lk U t v0 (r + 1)) (rk := lgk A C lk U t v0 r) (rk' := lgk A C lk U t v0 (r + 1)) ha hN hV (by omega) hl.1 hD1 hrk (fun j a b => by rw [e2 _ d1]; have := h.li j a b; omega) (fun j a b => by
      have l := h.li j a b
      rw [e3 j a b, e2 _ d1]
      exact sN _ ⟨l.1, l.2.1⟩ l.2.2 _ h.vv) (by have := h.x; omega) x5.toNat N J1 0 0 (by have := h.x; omega) (by have := h.x; omega) (Int.le_refl _) ⟨fun _ _ _ _ _ => rfl, ⟨fun k a b => by rw [e2 _ d4]; have := h.lo k a b; omega, z0.symm, fun j a b => by omega, fun k a b w => by rw [e2 _ d4] at w; have := h.lo k a b; omega⟩, fun k _ => ⟨rfl, rfl⟩, fun k a b => Or.inl ⟨by rw [e2 _ dv]; exact h.vv k (by omega) b, by rw [e2 _ dr]; exact h.rr k a b⟩, fun i a b => by omega, fun p a b w => absurd (by rw [e2 _ dv]; exact h.vv p (by omega) b) w, fun w => absurd w (by decide)⟩
  have val : ∀ k, gp_top A lk (t - 1) ≤ k → k < gp_top A lk t → J2 (F 62 4) k = lgv A C lk U t v0 (r + 1) k ∧ J2 (F 62 5) k = lgk A C lk U t v0 (r + 1) k := fun k a b => by
    rcases f2.or k a b with w | w
    · have e : lgv A C lk U t v0 (r + 1) k = lgv A C lk U t v0 r k := by
        refine Classical.byContradiction fun q => ?_
        by_cases nn : 0 < gp_N A C lk U k
        · obtain ⟨j, j0, j1, j2⟩ := h.cm k a b nn q
          have := f2.dn j j0 j1
          rw [e2 _ d1, j2, w.1] at this
          exact q this.symm
        · have g1 : lgv A C lk U t v0 (r + 1) k = gp_en A lk U k := gv_end ⟨a, b⟩ nn
          have g2 : lgv A C lk U t v0 r k = gp_en A lk U k := gv_end ⟨a, b⟩ nn
          exact q (g1.trans g2.symm)
      rw [hrk, if_pos e, e]; exact w
    · exact w
  have out : ∀ k, ¬ (gp_top A lk (t - 1) ≤ k ∧ k < gp_top A lk t) → ∀ m, lgv A C lk U t v0 m k = v0 k := fun k q m => gv_out q
  have r5 : J2 (F 72 5) = J1 (F 72 5) := f2.fr _ (ne (i := 2) (j := 13) (by decide) (by decide) (by decide)).symm (ne (i := 3) (j := 13) (by decide) (by decide) (by decide)).symm (ne (i := 11) (j := 13) (by decide) (by decide) (by decide)).symm (ne (i := 12) (j := 13) (by decide) (by decide) (by decide)).symm
  have r6 : J2 (F 72 6) = J1 (F 72 6) := f2.fr _ (ne (i := 2) (j := 14) (by decide) (by decide) (by decide)).symm (ne (i := 3) (j := 14) (by decide) (by decide) (by decide)).symm (ne (i := 11) (j := 14) (by decide) (by decide) (by decide)).symm (ne (i := 12) (j := 14) (by decide) (by decide) (by decide)).symm
  have hD2 := hD1.kept r5 r6
  refine ⟨J1, J2, x5', e1, f1, fun k a b => ?_, fun k a b => ?_, fun k q => ?_, fun j a b => ?_, fun k a b nn q => ?_, fun k a b => ?_, f2.u.b (by omega), fun w => ?_, ?_, fun b q1 q2 q3 q4 q5 q6 => ?_⟩
  · rw [cv]
    by_cases q : gp_top A lk (t - 1) ≤ k
    · exact (val k q b).1
    · rw [(f2.vo k (by omega)).1, e2 _ dv, h.vv k a b, out k (by omega), out k (by omega)]
  · rw [cr]; exact (val k a b).2
  · rw [cv, cr, (f2.vo k q).1, (f2.vo k q).2, e2 _ dv, e2 _ dr]; exact h.ro k q
  · rw [c1]; exact f2.u.up j a b
  · rw [c1]
    have ex : ∃ i : Int, 0 ≤ i ∧ i < gp_N A C lk U k ∧ lgv A C lk U t v0 (r + 1) (gp_O A C lk U k i) ≠ lgv A C lk U t v0 r (gp_O A C lk U k i) := by
      refine Classical.byContradiction fun w => q ?_
      have g1 : lgv A C lk U t v0 (r + 1 + 1) k = gr_mx (gp_T A C lk U) (gp_O A C lk U) (lgv A C lk U t v0 (r + 1)) k (-60) (gp_N A C lk U k).toNat := gv_s ⟨a, b⟩ nn
      have g2 : lgv A C lk U t v0 (r + 1) k = gr_mx (gp_T A C lk U) (gp_O A C lk U) (lgv A C lk U t v0 r) k (-60) (gp_N A C lk U k).toNat := gv_s ⟨a, b⟩ nn
      rw [g1, g2]
      exact gr_mx_congr _ (fun i i0 i1 => Classical.byContradiction fun u => w ⟨i, i0, by omega, u⟩)
    obtain ⟨i, i0, i1, i2⟩ := ex
    have ob := H.o k i a b i0 i1
    have os : gp_top A lk (t - 1) ≤ gp_O A C lk U k i := by
      refine Int.not_lt.mp fun u => i2 ?_
      rw [out _ (by omega), out _ (by omega)]
    have := f2.cg (gp_O A C lk U k i) os ob.2 (by rw [(val _ os ob.2).1]; exact i2) k i a b i0 i1 rfl
    exact f2.u.cu k a b this
  · rw [c4]; have := f2.u.le k a b; omega
  · exact Or.inr (f2.ch w)
  · have hb' := hD2.b
    have hg' := hD2.g
    have hc' := hD2.c
    refine ⟨?_, ?_, ?_⟩
    · rw [c5]; exact hb'
    · rw [c5, c6]; exact hg'
    · rw [c5, c6]; exact hc'
  · rw [cv] at q1
    rw [cr] at q2
    rw [c1] at q3
    rw [c2] at q4
    rw [c3] at q5
    rw [c4] at q6
    rw [f2.fr b q1 q2 q3 q6, e2 b q4]
    exact h.fr b q1 q2 q5 q4 q3 q6
end ROUND
