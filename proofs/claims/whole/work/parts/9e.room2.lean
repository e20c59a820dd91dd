-- SOLVING BEGUN: room for moves
def veK (K : am_K) (n : Nat) (X : Int) : am_K := rwK (rwK K n X) (n + 1) X
def veF (F : am_F) (n : Nat) : am_F := rwF (rwF F n 63 2) (n + 1) 72 6
def veI (I : am_I) (F : am_F) (n : Nat) (E : Int) : am_I := rwI (am_cp (rwI I n) (F 63 2) 0 n 0 E) (n + 1)
section ROOMM
variable {N n n' : Nat} {K K' : am_K} {F F' : am_F} {I J J' : am_I} {R C A : Int} {lk U : Int → Int} {S x y X E : Int} {c z : Nat}
theorem veK_lo {b : Nat} (h : b < n) : veK K n X b = K b := by unfold veK; rw [rwK_n (by omega), rwK_n (by omega)]
theorem veK_0 : veK K n X n = (100, X) := by unfold veK; rw [rwK_n (by omega), rwK_s]
theorem veK_1 : veK K n X (n + 1) = (100, X) := by unfold veK; rw [rwK_s]
theorem veF_lo (hn : 109 ≤ n) {b : Nat} {i : Int} (h : b < 109) (h3 : b ≠ 63) (h7 : b ≠ 72) : veF F n b i = F b i := by unfold veF; rw [rwF_a h7 (by omega), rwF_a h3 (by omega)]
theorem veF_63 (hn : 109 ≤ n) {i : Int} (h : i ≠ 2) : veF F n 63 i = F 63 i := by unfold veF; rw [rwF_a (by decide) (by omega), rwF_k h (by omega)]
theorem veF_72 (hn : 109 ≤ n) {i : Int} (h : i ≠ 6) : veF F n 72 i = F 72 i := by unfold veF; rw [rwF_k h (by omega), rwF_a (by decide) (by omega)]
theorem veF_2 (hn : 109 ≤ n) : veF F n 63 2 = n := by unfold veF; rw [rwF_a (by decide) (by omega), rwF_s]
theorem veF_6 : veF F n 72 6 = n + 1 := by unfold veF; rw [rwF_s]
theorem veI_lo {b : Nat} (h : b < n) : veI I F n E b = I b := by
  unfold veI; rw [rwI_n (by omega)]; funext j; unfold am_cp; rw [if_neg (by omega), rwI_n (by omega)]
theorem veI_2 {j : Int} (h : F 63 2 < n) (j0 : 0 ≤ j) (j1 : j < E) : veI I F n E n j = I (F 63 2) j := by
  unfold veI; rw [rwI_n (by omega)]; unfold am_cp; rw [if_pos (by omega), rwI_n (by omega)]; congr 1; omega
theorem ve_rA (h : rA n K F) (hX : 0 ≤ X ∧ X ≤ 480000) : rA (n + 2) (veK K n X) (veF F n) := by
  have nn := h.nn
  have kx : ∀ i (hi : i < 15), veK K n X ((vrl F)[i]'hi) = K ((vrl F)[i]'hi) := fun i hi => veK_lo (h.v i hi).2
  have v4 : veK K n X (F 62 4) = K (F 62 4) := kx 2 (by decide)
  have v5 : veK K n X (F 62 5) = K (F 62 5) := kx 3 (by decide)
  have v6 : veK K n X (F 62 6) = K (F 62 6) := kx 4 (by decide)
  have v7 : veK K n X (F 62 7) = K (F 62 7) := kx 5 (by decide)
  have g0 : veK K n X (F 63 0) = K (F 63 0) := kx 6 (by decide)
  have g1 : veK K n X (F 63 1) = K (F 63 1) := kx 7 (by decide)
  have w1 : veK K n X (F 72 1) = K (F 72 1) := kx 9 (by decide)
  have w2 : veK K n X (F 72 2) = K (F 72 2) := kx 10 (by decide)
  have w3 : veK K n X (F 72 3) = K (F 72 3) := kx 11 (by decide)
  have w4 : veK K n X (F 72 4) = K (F 72 4) := kx 12 (by decide)
  have w5 : veK K n X (F 72 5) = K (F 72 5) := kx 13 (by decide)
  have lo : ∀ b i, b < 109 → b ≠ 63 → b ≠ 72 → veF F n b i = F b i := fun b i q1 q2 q3 => veF_lo nn q1 q2 q3
  have ax : ∀ i, veF F n 62 i = F 62 i := fun i => lo 62 i (by decide) (by decide) (by decide)
  have b0 : veF F n 63 0 = F 63 0 := veF_63 nn (by decide)
  have b1 : veF F n 63 1 = F 63 1 := veF_63 nn (by decide)
  have b2 : veF F n 63 2 = n := veF_2 nn
  have c6 : veF F n 72 6 = n + 1 := veF_6
  have cx : ∀ i, i ≠ 6 → veF F n 72 i = F 72 i := fun i q => veF_72 nn q
  have k0 : veK K n X n = (100, X) := veK_0
  have k1 : veK K n X (n + 1) = (100, X) := veK_1
  have lowK : ∀ b, b < 109 → veK K n X b = K b := fun b q => veK_lo (Nat.lt_of_lt_of_le q nn)
  have hfx : ∀ b i, b < 109 → fixd b i = true → veF F n b i = F b i := fun b i q1 q2 => by
    obtain ⟨x1, x2, x3⟩ := fixd_v q2
    by_cases e3 : b = 63
    · subst e3; have := x2 rfl; exact veF_63 nn (by omega)
    · by_cases e7 : b = 72
      · subst e7; have := x3 rfl; exact veF_72 nn (by omega)
      · exact veF_lo nn q1 e3 e7
  have l2 := lo 59 2 (by decide) (by decide) (by decide)
  have l3 := lo 59 3 (by decide) (by decide) (by decide)
  have m33 := lo 85 33 (by decide) (by decide) (by decide)
  have m34 := lo 85 34 (by decide) (by decide) (by decide)
  have hl : vrl (veF F n) = [F 59 2, F 59 3, F 62 4, F 62 5, F 62 6, F 62 7, F 63 0, F 63 1, n, F 72 1, F 72 2, F 72 3, F 72 4, F 72 5, n + 1] := by
    unfold vrl; rw [l2, l3, ax, ax, ax, ax, b0, b1, b2, cx 1 (by decide), cx 2 (by decide), cx 3 (by decide), cx 4 (by decide), cx 5 (by decide), c6]
  have hin : ∀ r, r ∈ vrl (veF F n) → r = n ∨ r = n + 1 ∨ r ∈ vrl F := fun r hr => by
    rw [hl] at hr
    unfold vrl
    simp only [List.mem_cons, List.not_mem_nil, or_false] at hr ⊢
    rcases hr with w | w | w | w | w | w | w | w | w | w | w | w | w | w | w <;> simp [w]
  refine ⟨h.c.kept lowK hfx, h.m.kept lowK hfx, ?_, fun r hr => ?_, Nat.le_trans nn (Nat.le_add_right _ _), by rw [m33, m34]; exact h.mm, by rw [ax, v4]; exact h.v1, by rw [ax, ax, v4, v5]; exact h.v2, by rw [ax, ax, v4, v6]; exact h.v3, by rw [ax, ax, v4, v7]; exact h.v4, by rw [ax, b0, v4, g0]; exact h.g0, by rw [ax, b1, v4, g1]; exact h.g1, by rw [b2, k0], by rw [ax, cx 1 (by decide), v4, w1]; exact h.w1, by rw [ax, cx 2 (by decide), v4, w2]; exact h.w2, by rw [ax, cx 3 (by decide), v4, w3]; exact h.w3, by rw [ax, cx 4 (by decide), v4, w4]; exact h.w4, by rw [ax, cx 5 (by decide), v4, w5]; exact h.w5, by rw [b2, c6, k0, k1], by rw [ax, v4]; exact h.V0, by rw [ax, v4]; exact h.V1, by rw [b2, k0]; exact hX.1, by rw [b2, k0]; exact hX.2⟩
  · rw [hl]
    simp only [List.nodup_cons, List.mem_cons, List.not_mem_nil, or_false, not_or, List.nodup_nil, and_true, not_false_eq_true]
    exact ⟨⟨h.ne (i := 0) (j := 1) (by decide) (by decide) (by decide), h.ne (i := 0) (j := 2) (by decide) (by decide) (by decide), h.ne (i := 0) (j := 3) (by decide) (by decide) (by decide), h.ne (i := 0) (j := 4) (by decide) (by decide) (by decide), h.ne (i := 0) (j := 5) (by decide) (by decide) (by decide), h.ne (i := 0) (j := 6) (by decide) (by decide) (by decide), h.ne (i := 0) (j := 7) (by decide) (by decide) (by decide), Nat.ne_of_lt (h.v 0 (by decide)).2, h.ne (i := 0) (j := 9) (by decide) (by decide) (by decide), h.ne (i := 0) (j := 10) (by decide) (by decide) (by decide), h.ne (i := 0) (j := 11) (by decide) (by decide) (by decide), h.ne (i := 0) (j := 12) (by decide) (by decide) (by decide), h.ne (i := 0) (j := 13) (by decide) (by decide) (by decide), Nat.ne_of_lt (Nat.lt_succ_of_lt (h.v 0 (by decide)).2)⟩, ⟨h.ne (i := 1) (j := 2) (by decide) (by decide) (by decide), h.ne (i := 1) (j := 3) (by decide) (by decide) (by decide), h.ne (i := 1) (j := 4) (by decide) (by decide) (by decide), h.ne (i := 1) (j := 5) (by decide) (by decide) (by decide), h.ne (i := 1) (j := 6) (by decide) (by decide) (by decide), h.ne (i := 1) (j := 7) (by decide) (by decide) (by decide), Nat.ne_of_lt (h.v 1 (by decide)).2, h.ne (i := 1) (j := 9) (by decide) (by decide) (by decide), h.ne (i := 1) (j := 10) (by decide) (by decide) (by decide), h.ne (i := 1) (j := 11) (by decide) (by decide) (by decide), h.ne (i := 1) (j := 12) (by decide) (by decide) (by decide), h.ne (i := 1) (j := 13) (by decide) (by decide) (by decide), Nat.ne_of_lt (Nat.lt_succ_of_lt (h.v 1 (by decide)).2)⟩, ⟨h.ne (i := 2) (j := 3) (by decide) (by decide) (by decide), h.ne (i := 2) (j := 4) (by decide) (by decide) (by decide), h.ne (i := 2) (j := 5) (by decide) (by decide) (by decide), h.ne (i := 2) (j := 6) (by decide) (by decide) (by decide), h.ne (i := 2) (j := 7) (by decide) (by decide) (by decide), Nat.ne_of_lt (h.v 2 (by decide)).2, h.ne (i := 2) (j := 9) (by decide) (by decide) (by decide), h.ne (i := 2) (j := 10) (by decide) (by decide) (by decide), h.ne (i := 2) (j := 11) (by decide) (by decide) (by decide), h.ne (i := 2) (j := 12) (by decide) (by decide) (by decide), h.ne (i := 2) (j := 13) (by decide) (by decide) (by decide), Nat.ne_of_lt (Nat.lt_succ_of_lt (h.v 2 (by decide)).2)⟩, ⟨h.ne (i := 3) (j := 4) (by decide) (by decide) (by decide), h.ne (i := 3) (j := 5) (by decide) (by decide) (by decide), h.ne (i := 3) (j := 6) (by decide) (by decide) (by decide), h.ne (i := 3) (j := 7) (by decide) (by decide) (by decide), Nat.ne_of_lt (h.v 3 (by decide)).2, h.ne (i := 3) (j := 9) (by decide) (by decide) (by decide), h.ne (i := 3) (j := 10) (by decide) (by decide) (by decide), h.ne (i := 3) (j := 11) (by decide) (by decide) (by decide), h.ne (i := 3) (j := 12) (by decide) (by decide) (by decide), h.ne (i := 3) (j := 13) (by decide) (by decide) (by decide), Nat.ne_of_lt (Nat.lt_succ_of_lt (h.v 3 (by decide)).2)⟩, ⟨h.ne (i := 4) (j := 5) (by decide) (by decide) (by decide), h.ne (i := 4) (j := 6) (by decide) (by decide) (by decide), h.ne (i := 4) (j := 7) (by decide) (by decide) (by decide), Nat.ne_of_lt (h.v 4 (by decide)).2, h.ne (i := 4) (j := 9) (by decide) (by decide) (by decide), h.ne (i := 4) (j := 10) (by decide) (by decide) (by decide), h.ne (i := 4) (j := 11) (by decide) (by decide) (by decide), h.ne (i := 4) (j := 12) (by decide) (by decide) (by decide), h.ne (i := 4) (j := 13) (by decide) (by decide) (by decide), Nat.ne_of_lt (Nat.lt_succ_of_lt (h.v 4 (by decide)).2)⟩, ⟨h.ne (i := 5) (j := 6) (by decide) (by decide) (by decide), h.ne (i := 5) (j := 7) (by decide) (by decide) (by decide), Nat.ne_of_lt (h.v 5 (by decide)).2, h.ne (i := 5) (j := 9) (by decide) (by decide) (by decide), h.ne (i := 5) (j := 10) (by decide) (by decide) (by decide), h.ne (i := 5) (j := 11) (by decide) (by decide) (by decide), h.ne (i := 5) (j := 12) (by decide) (by decide) (by decide), h.ne (i := 5) (j := 13) (by decide) (by decide) (by decide), Nat.ne_of_lt (Nat.lt_succ_of_lt (h.v 5 (by decide)).2)⟩, ⟨h.ne (i := 6) (j := 7) (by decide) (by decide) (by decide), Nat.ne_of_lt (h.v 6 (by decide)).2, h.ne (i := 6) (j := 9) (by decide) (by decide) (by decide), h.ne (i := 6) (j := 10) (by decide) (by decide) (by decide), h.ne (i := 6) (j := 11) (by decide) (by decide) (by decide), h.ne (i := 6) (j := 12) (by decide) (by decide) (by decide), h.ne (i := 6) (j := 13) (by decide) (by decide) (by decide), Nat.ne_of_lt (Nat.lt_succ_of_lt (h.v 6 (by decide)).2)⟩, ⟨Nat.ne_of_lt (h.v 7 (by decide)).2, h.ne (i := 7) (j := 9) (by decide) (by decide) (by decide), h.ne (i := 7) (j := 10) (by decide) (by decide) (by decide), h.ne (i := 7) (j := 11) (by decide) (by decide) (by decide), h.ne (i := 7) (j := 12) (by decide) (by decide) (by decide), h.ne (i := 7) (j := 13) (by decide) (by decide) (by decide), Nat.ne_of_lt (Nat.lt_succ_of_lt (h.v 7 (by decide)).2)⟩, ⟨Nat.ne_of_gt (h.v 9 (by decide)).2, Nat.ne_of_gt (h.v 10 (by decide)).2, Nat.ne_of_gt (h.v 11 (by decide)).2, Nat.ne_of_gt (h.v 12 (by decide)).2, Nat.ne_of_gt (h.v 13 (by decide)).2, Nat.ne_of_lt (Nat.lt_succ_self n)⟩, ⟨h.ne (i := 9) (j := 10) (by decide) (by decide) (by decide), h.ne (i := 9) (j := 11) (by decide) (by decide) (by decide), h.ne (i := 9) (j := 12) (by decide) (by decide) (by decide), h.ne (i := 9) (j := 13) (by decide) (by decide) (by decide), Nat.ne_of_lt (Nat.lt_succ_of_lt (h.v 9 (by decide)).2)⟩, ⟨h.ne (i := 10) (j := 11) (by decide) (by decide) (by decide), h.ne (i := 10) (j := 12) (by decide) (by decide) (by decide), h.ne (i := 10) (j := 13) (by decide) (by decide) (by decide), Nat.ne_of_lt (Nat.lt_succ_of_lt (h.v 10 (by decide)).2)⟩, ⟨h.ne (i := 11) (j := 12) (by decide) (by decide) (by decide), h.ne (i := 11) (j := 13) (by decide) (by decide) (by decide), Nat.ne_of_lt (Nat.lt_succ_of_lt (h.v 11 (by decide)).2)⟩, ⟨h.ne (i := 12) (j := 13) (by decide) (by decide) (by decide), Nat.ne_of_lt (Nat.lt_succ_of_lt (h.v 12 (by decide)).2)⟩, Nat.ne_of_lt (Nat.lt_succ_of_lt (h.v 13 (by decide)).2)⟩
  · rcases hin r hr with rfl | rfl | w
    · exact ⟨by unfold vok; omega, by omega⟩
    · exact ⟨by unfold vok; omega, by omega⟩
    · have := h.ok r w; exact ⟨this.1, by omega⟩
theorem ve_mrf (h : rA n K F) (hE : (K (F 63 2)).2 = E) (hX : E ≤ X ∧ X ≤ 480000) : mrf n (n + 2) K (veK K n X) F (veF F n) I (veI I F n E) := by
  have nn := h.nn
  have E0 := h.E0
  have p0 : F 63 0 < n := (h.v 6 (by decide)).2
  have p1 : F 63 1 < n := (h.v 7 (by decide)).2
  have p4 : F 62 4 < n := (h.v 2 (by decide)).2
  have o8 : F 63 2 < n := (h.v 8 (by decide)).2
  have b0 : veF F n 63 0 = F 63 0 := veF_63 nn (by decide)
  have b1 : veF F n 63 1 = F 63 1 := veF_63 nn (by decide)
  have b2 : veF F n 63 2 = n := veF_2 nn
  have a4 : veF F n 62 4 = F 62 4 := veF_lo nn (by decide) (by decide) (by decide)
  refine ⟨ve_rA h (by omega), Nat.le_add_right _ _, fun b q => veK_lo q, fun b q => veI_lo q, fun b i q1 _ q3 q4 => veF_lo nn q1 q3 q4, by rw [a4, veK_lo p4]; exact Int.le_refl _, by rw [b2, veK_0, hE]; exact hX.1, fun j _ _ => by rw [b0, veI_lo p0], fun j _ _ => by rw [b1, veI_lo p1], fun j j0 j1 => by rw [b2, veI_2 o8 j0 (by omega)]⟩
theorem ve_run (h : rA n K F) {nd : Int} (hE : (K (F 63 2)).2 = E) (hnd : E < nd ∧ nd ≤ 240000) (hX : am_max nd (2 * E) = X) (hXb : E < X ∧ X ≤ 480000) : X9_makeMoveRoom N 62 n K I F nd = some (0, n + 2, veK K n X, veI I F n E, veF F n, 2, X.toNat + X.toNat) := by
  have hc := h.c
  have nn := h.nn
  have E0 := h.E0
  have o8 : vok (F 63 2) ∧ F 63 2 < n := h.v 8 (by decide)
  rw [hE] at E0
  have cp1 := c_copyOf (N := N) (n := n) (K := K) (I := I) (F := F) (a := F 63 2) (L := E) (x := X) (by rw [← hE, ← h.g2]) (o8.1.ne rfl) (by omega) (by omega) (by omega) (by omega)
  have ka : (rwK K n X 63).1 = 0 := by rw [rwK_n (by omega), cwK_63 hc]
  have e0 : X0_makeMoveRoom N 63 n K I F X = some (0, n + 1, rwK K n X, am_cp (rwI I n) (F 63 2) 0 n 0 E, rwF F n 63 2, 1, X.toNat) := by
    unfold X0_makeMoveRoom
    rw [cp1, am_ca_s]
    refine am_mo_e ?_ (by omega) (by omega)
    refine (if_pos ka).trans ?_
    unfold am_lt
    dsimp only
    rw [Int.toNat_natCast, Nat.zero_add, Nat.zero_add]
    rfl
  have k72 : (rwK (rwK K n X) (n + 1) X 72).1 = 7 := by rw [rwK_n (by omega), rwK_n (by omega), cwK_72 hc]
  have e7 : X7_makeMoveRoom N 72 (n + 1) (rwK K n X) (am_cp (rwI I n) (F 63 2) 0 n 0 E) (rwF F n 63 2) X = some (0, n + 2, veK K n X, veI I F n E, veF F n, 1, X.toNat) := by
    unfold X7_makeMoveRoom am_nw am_lt
    dsimp only
    rw [if_pos (show 0 ≤ X ∧ X ≤ 60000000 by omega)]
    refine am_mo_e ?_ (by omega) (by omega)
    refine (if_pos k72).trans ?_
    rw [Nat.zero_add, Nat.zero_add]
    rfl
  have w62 : (rwK K n X 62).1 = 9 := by rw [rwK_n (by omega)]; exact congrArg Prod.fst (cwK_62 hc)
  have w72 : (rwK K n X 72).1 = 7 := by rw [rwK_n (by omega)]; exact congrArg Prod.fst (cwK_72 hc)
  have f10 : rwF F n 63 2 62 10 = 72 := by rw [rwF_a (by decide) (by omega)]; exact cwF_62_10 hc
  unfold X9_makeMoveRoom X9_makeMoveRoom_b43 am_lt
  dsimp only
  rw [cwF_62_0 hc, cwK_63 hc, if_pos (show ((0, 0) : Nat × Int).1 = 0 from rfl), if_pos h.g2, hE, if_pos (nb_in (by omega)), if_pos hnd.1, if_pos (nb_in (by omega)), hX, e0, am_ca_s]
  refine am_mo_e ?_ (by omega) (by omega)
  rw [if_pos w62, f10, if_pos w72, e7, am_ca_s]
  refine am_mo_e ?_ (by omega) (by omega)
  refine am_mo_e ?_ (by omega) (by omega)
  rw [Nat.zero_add, Nat.zero_add]
theorem c_roomM (h : rA n K F) {nd : Int} (hnd : 0 ≤ nd ∧ nd ≤ 240000) : ∃ n' K' J F' c z, X9_makeMoveRoom N 62 n K I F nd = some (0, n', K', J, F', c, z) ∧ mrf n n' K K' F F' I J ∧ nd ≤ (K' (F' 63 2)).2 ∧ K' (F' 62 4) = K (F 62 4) ∧ F' 59 = F 59 ∧ c ≤ 2 ∧ (z : Int) + pzE K' F' ≤ pzE K F := by
  have hc := h.c
  have nn := h.nn
  have E0 := h.E0
  have E1 := h.E1
  by_cases g : (K (F 63 2)).2 < nd
  · have hXb : (K (F 63 2)).2 < am_max nd (2 * (K (F 63 2)).2) ∧ am_max nd (2 * (K (F 63 2)).2) ≤ 480000 ∧ nd ≤ am_max nd (2 * (K (F 63 2)).2) ∧ 2 * (K (F 63 2)).2 ≤ am_max nd (2 * (K (F 63 2)).2) := by
      rw [am_max_eq]; split <;> omega
    have run := ve_run (N := N) (I := I) h rfl ⟨g, hnd.2⟩ rfl ⟨hXb.1, hXb.2.1⟩
    have mr := ve_mrf (I := I) h rfl ⟨Int.le_of_lt hXb.1, hXb.2.1⟩
    generalize am_max nd (2 * (K (F 63 2)).2) = X at *
    have b2 : veF F n 63 2 = n := veF_2 nn
    have a4 : veF F n 62 4 = F 62 4 := veF_lo nn (by decide) (by decide) (by decide)
    have p4 : F 62 4 < n := (h.v 2 (by decide)).2
    refine ⟨_, _, _, _, _, _, run, mr, by rw [b2, veK_0]; exact hXb.2.2.1, by rw [a4, veK_lo p4], funext fun i => veF_lo nn (by decide) (by decide) (by decide), Nat.le_refl _, ?_⟩
    unfold pzE
    rw [b2, veK_0]
    generalize (K (F 63 2)).2 = E at *
    show ((X.toNat + X.toNat : Nat) : Int) + 2 * (960000 - 2 * X) ≤ 2 * (960000 - 2 * E)
    omega
  · refine ⟨n, K, I, F, 0, 0, ?_, mrf_rfl h, by omega, rfl, rfl, by omega, by omega⟩
    unfold X9_makeMoveRoom X9_makeMoveRoom_b43
    rw [cwF_62_0 hc, cwK_63 hc, if_pos (show ((0, 0) : Nat × Int).1 = 0 from rfl), if_pos h.g2, if_pos (nb_in (by omega)), if_neg g]
    exact am_mo_e rfl (Nat.le_refl _) (Nat.le_refl _)
end ROOMM
