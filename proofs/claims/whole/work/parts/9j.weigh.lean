-- SOLVING A LAYER, the class: weighing
section WEIGH
variable {N n : Nat} {K : am_K} {F : am_F} {I J J' : am_I} {R C A : Int} {lk U : Int → Int} {S x y z k p V t s i m x1 x3 : Int} {D : Nat}
theorem c_weigh1 (h : gR K F J R C A lk U V t) (ha : rA n K F) (hV : (K (F 62 4)).2 = V) (hb : ∀ j, 0 ≤ j → j < gp_top A lk t → -1000 ≤ J (F 62 4) j ∧ J (F 62 4) j ≤ 1000) (k0 : 0 ≤ k) (k1 : k < gp_top A lk t) (y0 : 0 ≤ x3) (y1 : x3 < V) (kk : am_I → Int → Nat → Int → Option (Int × am_I)) : ∀ (d f i : Nat), (gp_N A C lk U k).toNat - i = d → d < f → i ≤ (gp_N A C lk U k).toNat →
    X7_weigh_h31 N K F 72 kk f J x1 (F 62 4) x3 k (gr_mx (gp_T A C lk U) (gp_O A C lk U) (J (F 62 4)) k (-60) i) (gp_cnt A C lk U k.toNat + i) = kk (am_u2 J (F 72 2) x3 (gr_mx (gp_T A C lk U) (gp_O A C lk U) (J (F 62 4)) k (-60) (gp_N A C lk U k).toNat)) x1 (F 62 4) (x3 + 1) := by
  have v0 := h.V0
  have v1 := h.V1
  have hc := h.c
  have nb := h.nb k0 k1
  have k62 : K (F 62 4) = (100, V) := by rw [← hV]; exact Prod.ext ha.v1 rfl
  have k72 : K (F 72 2) = (100, V) := by rw [← hV]; exact ha.w2
  have n2 : F 72 2 ≠ 1 := (ha.v 10 (by decide)).1.ne rfl
  intro d
  induction d with
  | zero =>
    intro f i hd hf hi
    obtain ⟨f, rfl⟩ : ∃ g, f = g + 1 := ⟨f - 1, by omega⟩
    have : i = (gp_N A C lk U k).toNat := by omega
    subst this
    show X7_weigh_s31 N K F 72 kk (X7_weigh_h31 N K F 72 kk f) J x1 (F 62 4) x3 k _ _ = _
    unfold X7_weigh_s31 am_lt
    dsimp only
    rw [cwF_72_0 hc, cwK_63 hc, if_pos (show ((0, 0) : Nat × Int).1 = 0 from rfl), if_pos (nb_in (by omega)), h.k1, if_pos (show ((100, V + 1) : Nat × Int).1 = 100 from rfl), if_pos (show 0 ≤ k + 1 ∧ k + 1 < V + 1 by omega), h.nx k0 k1, if_neg (by omega), k72, if_pos (show ((100, V) : Nat × Int).1 = 100 from rfl), if_pos n2, if_pos (show 0 ≤ x3 ∧ x3 < V by omega), if_pos (nb_in (by omega))]
  | succ d ih =>
    intro f i hd hf hi
    obtain ⟨f, rfl⟩ : ∃ g, f = g + 1 := ⟨f - 1, by omega⟩
    have cd := h.ci (N := N) (k := k) (i := (i : Int)) k0 k1 (by omega) (by omega)
    have ct : X0_takenBy N K F J (gp_cd A C lk U k (gp_p A C lk U k (i : Int))) = some (gp_T A C lk U k (i : Int)) := cd.t K F J
    have co : X0_placeBehind N K F J (gp_cd A C lk U k (gp_p A C lk U k (i : Int))) = some (gp_O A C lk U k (i : Int)) := cd.o K F J
    have ob : 0 ≤ gp_O A C lk U k (i : Int) ∧ gp_O A C lk U k (i : Int) < gp_top A lk t := cd.o0
    have tb : 0 ≤ gp_T A C lk U k (i : Int) ∧ gp_T A C lk U k (i : Int) ≤ 12 := cd.t0
    have bb := hb _ ob.1 ob.2
    rw [← ih f (i + 1) (by omega) (by omega) (by omega)]
    show X7_weigh_s31 N K F 72 kk (X7_weigh_h31 N K F 72 kk f) J x1 (F 62 4) x3 k _ _ = _
    unfold X7_weigh_s31 am_lt
    dsimp only
    rw [cwF_72_0 hc, cwK_63 hc, if_pos (show ((0, 0) : Nat × Int).1 = 0 from rfl), if_pos (nb_in (by omega)), h.k1, if_pos (show ((100, V + 1) : Nat × Int).1 = 100 from rfl), if_pos (show 0 ≤ k + 1 ∧ k + 1 < V + 1 by omega), h.nx k0 k1, if_pos (by omega), if_pos h.k2, if_pos (by omega), h.ed k0 k1 (by omega) (by omega), ct, am_cq_s, co, am_cq_s, k62, if_pos (show ((100, V) : Nat × Int).1 = 100 from rfl), if_pos (show 0 ≤ gp_O A C lk U k (i : Int) ∧ gp_O A C lk U k (i : Int) < V by omega), if_pos (nb_in (by omega)), if_pos (nb_in (by omega)), Int.add_assoc]
    rfl
theorem c_weigh2 (h : gR K F I R C A lk U V t) (hN : 2000000 < N) (ha : rA n K F) (hV : (K (F 62 4)).2 = V) (hb : ∀ j, 0 ≤ j → j < gp_top A lk t → -1000 ≤ I (F 62 4) j ∧ I (F 62 4) j ≤ 1000) (hl : ∀ j, 0 ≤ j → j < x1 → 0 ≤ I (F 72 1) j ∧ I (F 72 1) j < gp_top A lk t) (hx : x1 ≤ V) : ∀ (d f : Nat) (J : am_I) (x : Int), x1 - x = d → d < f → 0 ≤ x → (∀ b, b ≠ F 72 2 → J b = I b) → (∀ j, 0 ≤ j → j < x → J (F 72 2) j = gr_mx (gp_T A C lk U) (gp_O A C lk U) (I (F 62 4)) (I (F 72 1) j) (-60) (gp_N A C lk U (I (F 72 1) j)).toNat) →
    ∃ J', X7_weigh_h2 N K F 72 f J x1 (F 62 4) x = some (0, J') ∧ (∀ b, b ≠ F 72 2 → J' b = I b) ∧ (∀ j, 0 ≤ j → j < x1 → J' (F 72 2) j = gr_mx (gp_T A C lk U) (gp_O A C lk U) (I (F 62 4)) (I (F 72 1) j) (-60) (gp_N A C lk U (I (F 72 1) j)).toNat) := by
  have v0 := h.V0
  have v1 := h.V1
  have hc := h.c
  have k71 : K (F 72 1) = (100, V) := by rw [← hV]; exact ha.w1
  have d1 : F 72 1 ≠ F 72 2 := ha.ne (i := 9) (j := 10) (by decide) (by decide) (by decide)
  have d4 : F 62 4 ≠ F 72 2 := ha.ne (i := 2) (j := 10) (by decide) (by decide) (by decide)
  have g0 : F 63 0 ≠ F 72 2 := ha.ne (i := 6) (j := 10) (by decide) (by decide) (by decide)
  have g1 : F 63 1 ≠ F 72 2 := ha.ne (i := 7) (j := 10) (by decide) (by decide) (by decide)
  have g2 : F 63 2 ≠ F 72 2 := ha.ne (i := 8) (j := 10) (by decide) (by decide) (by decide)
  intro d
  induction d with
  | zero =>
    intro f J x hd hf x0 hJ hw
    obtain ⟨f, rfl⟩ : ∃ g, f = g + 1 := ⟨f - 1, by omega⟩
    refine ⟨J, ?_, hJ, fun j a b => hw j a (by omega)⟩
    show X7_weigh_s2 N K F 72 (X7_weigh_h2 N K F 72 f) J x1 (F 62 4) x = _
    unfold X7_weigh_s2
    rw [if_neg (by omega)]
  | succ d ih =>
    intro f J x hd hf x0 hJ hw
    obtain ⟨f, rfl⟩ : ∃ g, f = g + 1 := ⟨f - 1, by omega⟩
    have hk := hl x x0 (by omega)
    have hG := h.kept (hJ _ g0) (hJ _ g1) (hJ _ g2)
    have nb := h.nb hk.1 hk.2
    have e1 := c_weigh1 (N := N) (x1 := x1) (x3 := x) hG ha hV (fun j a b => by rw [hJ _ d4]; exact hb j a b) hk.1 hk.2 x0 (by omega) (X7_weigh_h2 N K F 72 f) (gp_N A C lk U (I (F 72 1) x)).toNat N 0 (by omega) (by omega) (by omega)
    rw [hJ _ d4] at e1
    obtain ⟨J', f1, f2, f3⟩ := ih f (am_u2 J (F 72 2) x (gr_mx (gp_T A C lk U) (gp_O A C lk U) (I (F 62 4)) (I (F 72 1) x) (-60) (gp_N A C lk U (I (F 72 1) x)).toNat)) (x + 1) (by omega) (by omega) (by omega) (fun b q => by rw [am_u2_row_b q]; exact hJ b q) (fun j a b => by
      by_cases q : j = x
      · rw [q, am_u2_s]
      · rw [am_u2_k q]; exact hw j a (by omega))
    refine ⟨J', ?_, f2, f3⟩
    rw [← f1, ← e1]
    show X7_weigh_s2 N K F 72 (X7_weigh_h2 N K F 72 f) J x1 (F 62 4) x = _
    unfold X7_weigh_s2 am_lt
    dsimp only
    rw [if_pos (by omega), k71, if_pos (show ((100, V) : Nat × Int).1 = 100 from rfl), if_pos (show 0 ≤ x ∧ x < V by omega), cwF_72_0 hc, cwK_63 hc, if_pos (show ((0, 0) : Nat × Int).1 = 0 from rfl), h.k1, if_pos (show ((100, V + 1) : Nat × Int).1 = 100 from rfl), hJ _ d1, if_pos (show 0 ≤ I (F 72 1) x ∧ I (F 72 1) x < V + 1 by omega), hG.st hk.1 (by omega), show gp_cnt A C lk U (I (F 72 1) x).toNat + ((0 : Nat) : Int) = gp_cnt A C lk U (I (F 72 1) x).toNat by omega]
    rfl
theorem c_weigh (h : gR K F I R C A lk U V t) (hN : 2000000 < N) (ha : rA n K F) (hV : (K (F 62 4)).2 = V) (hb : ∀ j, 0 ≤ j → j < gp_top A lk t → -1000 ≤ I (F 62 4) j ∧ I (F 62 4) j ≤ 1000) (hl : ∀ j, 0 ≤ j → j < x1 → 0 ≤ I (F 72 1) j ∧ I (F 72 1) j < gp_top A lk t) (x0 : 0 ≤ x1) (hx : x1 ≤ V) :
    ∃ J', X7_weigh N K F 72 I x1 (F 62 4) = some (0, J') ∧ (∀ b, b ≠ F 72 2 → J' b = I b) ∧ (∀ j, 0 ≤ j → j < x1 → J' (F 72 2) j = gr_mx (gp_T A C lk U) (gp_O A C lk U) (I (F 62 4)) (I (F 72 1) j) (-60) (gp_N A C lk U (I (F 72 1) j)).toNat) := by
  have v1 := h.V1
  exact c_weigh2 (N := N) h hN ha hV hb hl hx x1.toNat N I 0 (by omega) (by omega) (by omega) (fun _ _ => rfl) (fun j a b => by omega)
end WEIGH
