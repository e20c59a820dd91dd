-- SOLVING BEGUN: room
def rwK (K : am_K) (n : Nat) (X : Int) : am_K := am_u1 K n (100, X)
def rwI (I : am_I) (n : Nat) : am_I := am_zr I n 0
def rwF (F : am_F) (n a : Nat) (j : Int) : am_F := am_u2 (am_zr F n 0) a j n
theorem rwK_s {K : am_K} {n : Nat} {X : Int} : rwK K n X n = (100, X) := am_u1_s _ _ _
theorem rwK_n {K : am_K} {n b : Nat} {X : Int} (h : b ≠ n) : rwK K n X b = K b := am_u1_n h
theorem rwI_n {I : am_I} {n b : Nat} (h : b ≠ n) : rwI I n b = I b := funext fun j => am_zr_a h
theorem rwF_s {F : am_F} {n a : Nat} {j : Int} : rwF F n a j a j = n := am_u2_s _ _ _ _
theorem rwF_k {F : am_F} {n a : Nat} {i j : Int} (h : i ≠ j) (h2 : a ≠ n) : rwF F n a j a i = F a i := (am_u2_k h).trans (am_zr_a h2)
theorem rwF_a {F : am_F} {n a b : Nat} {i j : Int} (h : b ≠ a) (h2 : b ≠ n) : rwF F n a j b i = F b i := (am_u2_a h).trans (am_zr_a h2)
/-- what room for places or for moves leaves -/
def mrf (n n' : Nat) (K K' : am_K) (F F' : am_F) (I J : am_I) : Prop := (rA n' K' F') ∧ (n ≤ n') ∧ (∀ b, b < n → K' b = K b) ∧ (∀ b, b < n → J b = I b) ∧ (∀ b i, b < 109 → b ≠ 62 → b ≠ 63 → b ≠ 72 → F' b i = F b i) ∧ ((K (F 62 4)).2 ≤ (K' (F' 62 4)).2) ∧ ((K (F 63 2)).2 ≤ (K' (F' 63 2)).2) ∧ (∀ j, 0 ≤ j → j < (K (F 62 4)).2 → J (F' 63 0) j = I (F 63 0) j) ∧ (∀ j, 0 ≤ j → j ≤ (K (F 62 4)).2 → J (F' 63 1) j = I (F 63 1) j) ∧ (∀ j, 0 ≤ j → j < (K (F 63 2)).2 → J (F' 63 2) j = I (F 63 2) j)
theorem mrf.a {n n' : Nat} {K K' : am_K} {F F' : am_F} {I J : am_I} (h : mrf n n' K K' F F' I J) : rA n' K' F' := h.1
theorem mrf.nn {n n' : Nat} {K K' : am_K} {F F' : am_F} {I J : am_I} (h : mrf n n' K K' F F' I J) : n ≤ n' := h.2.1
theorem mrf.K {n n' : Nat} {K K' : am_K} {F F' : am_F} {I J : am_I} (h : mrf n n' K K' F F' I J) : ∀ b, b < n → K' b = K b := h.2.2.1
theorem mrf.I {n n' : Nat} {K K' : am_K} {F F' : am_F} {I J : am_I} (h : mrf n n' K K' F F' I J) : ∀ b, b < n → J b = I b := h.2.2.2.1
theorem mrf.F {n n' : Nat} {K K' : am_K} {F F' : am_F} {I J : am_I} (h : mrf n n' K K' F F' I J) : ∀ b i, b < 109 → b ≠ 62 → b ≠ 63 → b ≠ 72 → F' b i = F b i := h.2.2.2.2.1
theorem mrf.V {n n' : Nat} {K K' : am_K} {F F' : am_F} {I J : am_I} (h : mrf n n' K K' F F' I J) : (K (F 62 4)).2 ≤ (K' (F' 62 4)).2 := h.2.2.2.2.2.1
theorem mrf.E {n n' : Nat} {K K' : am_K} {F F' : am_F} {I J : am_I} (h : mrf n n' K K' F F' I J) : (K (F 63 2)).2 ≤ (K' (F' 63 2)).2 := h.2.2.2.2.2.2.1
theorem mrf.e0 {n n' : Nat} {K K' : am_K} {F F' : am_F} {I J : am_I} (h : mrf n n' K K' F F' I J) : ∀ j, 0 ≤ j → j < (K (F 62 4)).2 → J (F' 63 0) j = I (F 63 0) j := h.2.2.2.2.2.2.2.1
theorem mrf.e1 {n n' : Nat} {K K' : am_K} {F F' : am_F} {I J : am_I} (h : mrf n n' K K' F F' I J) : ∀ j, 0 ≤ j → j ≤ (K (F 62 4)).2 → J (F' 63 1) j = I (F 63 1) j := h.2.2.2.2.2.2.2.2.1
theorem mrf.e2 {n n' : Nat} {K K' : am_K} {F F' : am_F} {I J : am_I} (h : mrf n n' K K' F F' I J) : ∀ j, 0 ≤ j → j < (K (F 63 2)).2 → J (F' 63 2) j = I (F 63 2) j := h.2.2.2.2.2.2.2.2.2
section ROOMS
variable {N n n' n'' : Nat} {K K' K'' : am_K} {F F' F'' : am_F} {I J J' : am_I} {R C A : Int} {lk U : Int → Int} {S x y X : Int} {c z : Nat}
theorem mrf_trans (h : mrf n n' K K' F F' I J) (h' : mrf n' n'' K' K'' F' F'' J J') : mrf n n'' K K'' F F'' I J' := by
  have nn := h.nn
  have V := h.V
  have E := h.E
  exact ⟨h'.a, Nat.le_trans h.nn h'.nn, fun b q => by rw [h'.K b (by omega), h.K b q], fun b q => by rw [h'.I b (by omega), h.I b q], fun b i q1 q2 q3 q4 => by rw [h'.F b i q1 q2 q3 q4, h.F b i q1 q2 q3 q4], Int.le_trans h.V h'.V, Int.le_trans h.E h'.E, fun j a b => by rw [h'.e0 j a (by omega), h.e0 j a b], fun j a b => by rw [h'.e1 j a (by omega), h.e1 j a b], fun j a b => by rw [h'.e2 j a (by omega), h.e2 j a b]⟩
theorem mrf_rfl (h : rA n K F) : mrf n n K K F F I I := ⟨h, Nat.le_refl _, fun _ _ => rfl, fun _ _ => rfl, fun _ _ _ _ _ _ => rfl, Int.le_refl _, Int.le_refl _, fun _ _ _ => rfl, fun _ _ _ => rfl, fun _ _ _ => rfl⟩
/-- rows made one behind another, for fields of one object -/
def sqK (K : am_K) (n : Nat) : List Int → am_K
  | [] => K
  | x :: xs => sqK (rwK K n x) (n + 1) xs
def sqI (I : am_I) (n : Nat) : Nat → am_I
  | 0 => I
  | m + 1 => sqI (rwI I n) (n + 1) m
def sqF (F : am_F) (n a : Nat) (j : Int) : Nat → am_F
  | 0 => F
  | m + 1 => sqF (rwF F n a j) (n + 1) a (j + 1) m
theorem sqK_lo : ∀ (xs : List Int) (K : am_K) (n b : Nat), b < n → sqK K n xs b = K b
  | [], _, _, _, _ => rfl
  | x :: xs, K, n, b, h => by
    show sqK (rwK K n x) (n + 1) xs b = K b
    rw [sqK_lo xs _ _ _ (by omega), rwK_n (by omega)]
theorem sqK_at : ∀ (xs : List Int) (K : am_K) (n i : Nat) (hi : i < xs.length), sqK K n xs (n + i) = (100, xs[i]'hi)
  | x :: xs, K, n, 0, h => by
    show sqK (rwK K n x) (n + 1) xs n = (100, x)
    rw [sqK_lo xs _ _ _ (by omega), rwK_s]
  | x :: xs, K, n, i + 1, h => by
    have := sqK_at xs (rwK K n x) (n + 1) i (by simpa using h)
    rw [show n + 1 + i = n + (i + 1) by omega] at this
    exact this
theorem sqI_lo : ∀ (m : Nat) (I : am_I) (n b : Nat), b < n → sqI I n m b = I b
  | 0, _, _, _, _ => rfl
  | m + 1, I, n, b, h => by
    show sqI (rwI I n) (n + 1) m b = I b
    rw [sqI_lo m _ _ _ (by omega), rwI_n (by omega)]
theorem sqF_lo : ∀ (m : Nat) (F : am_F) (n a b : Nat) (i j : Int), b < n → b ≠ a → sqF F n a j m b i = F b i
  | 0, _, _, _, _, _, _, _, _ => rfl
  | m + 1, F, n, a, b, i, j, h, h2 => by
    show sqF (rwF F n a j) (n + 1) a (j + 1) m b i = F b i
    rw [sqF_lo m _ _ _ _ _ _ (by omega) h2, rwF_a h2 (by omega)]
theorem sqF_k : ∀ (m : Nat) (F : am_F) (n a : Nat) (i j : Int), a < n → (i < j ∨ j + m ≤ i) → sqF F n a j m a i = F a i
  | 0, _, _, _, _, _, _, _ => rfl
  | m + 1, F, n, a, i, j, h, h2 => by
    show sqF (rwF F n a j) (n + 1) a (j + 1) m a i = F a i
    rw [sqF_k m _ _ _ _ _ (by omega) (by omega), rwF_k (by omega) (by omega)]
theorem sqF_at : ∀ (m : Nat) (F : am_F) (n a i : Nat) (j : Int), a < n → i < m → sqF F n a j m a (j + i) = n + i
  | m + 1, F, n, a, 0, j, h, _ => by
    show sqF (rwF F n a j) (n + 1) a (j + 1) m a (j + (0 : Nat)) = n + 0
    rw [sqF_k m _ _ _ _ _ (by omega) (by omega), show j + ((0 : Nat) : Int) = j by omega, rwF_s]; rfl
  | m + 1, F, n, a, i + 1, j, h, h2 => by
    have := sqF_at m (rwF F n a j) (n + 1) a i (j + 1) (by omega) (by omega)
    rw [show j + 1 + (i : Int) = j + ((i + 1 : Nat) : Int) by omega, show n + 1 + i = n + (i + 1) by omega] at this
    exact this
theorem c_room7 (hk : K 72 = (7, 0)) (hn : 109 ≤ n) (hX : 0 ≤ X ∧ X ≤ 40000) : X7_makeRoom N 72 n K I F X = some (0, n + 5, sqK K n [X, X, X, X, X + 1], sqI I n 5, sqF F n 72 1 5, 5, X.toNat + X.toNat + X.toNat + X.toNat + (X + 1).toNat) := by
  have k0 : (rwK K n X 72).1 = 7 := by rw [rwK_n (by omega), hk]
  have k1 : (rwK (rwK K n X) (n + 1) X 72).1 = 7 := by rw [rwK_n (by omega)]; exact k0
  have k2 : (rwK (rwK (rwK K n X) (n + 1) X) (n + 2) X 72).1 = 7 := by rw [rwK_n (by omega)]; exact k1
  have k3 : (rwK (rwK (rwK (rwK K n X) (n + 1) X) (n + 2) X) (n + 3) X 72).1 = 7 := by rw [rwK_n (by omega)]; exact k2
  have k4 : (rwK (rwK (rwK (rwK (rwK K n X) (n + 1) X) (n + 2) X) (n + 3) X) (n + 4) (X + 1) 72).1 = 7 := by rw [rwK_n (by omega)]; exact k3
  unfold X7_makeRoom am_nw am_lt
  dsimp only
  rw [if_pos (show 0 ≤ X ∧ X ≤ 60000000 by omega)]
  refine am_mo_e ?_ (by omega) (by omega)
  refine (if_pos k0).trans ?_
  refine am_mo_e ?_ (by omega) (by omega)
  refine (if_pos k1).trans ?_
  refine am_mo_e ?_ (by omega) (by omega)
  refine (if_pos k2).trans ?_
  refine am_mo_e ?_ (by omega) (by omega)
  refine (if_pos k3).trans ?_
  rw [if_pos (nb_in (by omega)), if_pos (show 0 ≤ X + 1 ∧ X + 1 ≤ 60000000 by omega)]
  refine am_mo_e ?_ (by omega) (by omega)
  refine (if_pos k4).trans ?_
  rw [Nat.zero_add, Nat.zero_add]
  rfl
/-- copies of the graph's rows -/
def gcI (I : am_I) (n a b : Nat) (V : Int) : am_I := am_cp (rwI (am_cp (rwI I n) a 0 n 0 V) (n + 1)) b 0 (n + 1) 0 (V + 1)
theorem gcI_lo {a b q : Nat} {V : Int} (h : q < n) : gcI I n a b V q = I q := by
  unfold gcI
  funext j; unfold am_cp
  rw [if_neg (by omega), rwI_n (by omega)]
  rw [if_neg (by omega), rwI_n (by omega)]
theorem gcI_0 {a b : Nat} {V j : Int} (ha : a < n) (j0 : 0 ≤ j) (j1 : j < V) : gcI I n a b V n j = I a j := by
  unfold gcI am_cp
  rw [if_neg (by omega), rwI_n (by omega)]
  rw [if_pos (by omega), rwI_n (by omega)]
  congr 1; omega
theorem gcI_1 {a b : Nat} {V j : Int} (hb : b < n) (j0 : 0 ≤ j) (j1 : j ≤ V) : gcI I n a b V (n + 1) j = I b j := by
  unfold gcI am_cp
  rw [if_pos (by omega), rwI_n (by omega)]
  rw [if_neg (by omega), rwI_n (by omega)]
  congr 1; omega
theorem c_room0 {V : Int} (hc : K 63 = (0, 0)) (hn : 109 ≤ n) (h0 : K (F 63 0) = (100, V)) (h1 : K (F 63 1) = (100, V + 1)) (v0 : F 63 0 < n ∧ F 63 0 ≠ 1) (v1 : F 63 1 < n ∧ F 63 1 ≠ 1) (hV : 0 ≤ V ∧ V < X) (hX : X ≤ 40000) : X0_makeRoom N 63 n K I F X = some (0, n + 2, sqK K n [X, X + 1], gcI I n (F 63 0) (F 63 1) V, sqF F n 63 0 2, 2, X.toNat + (X + 1).toNat) := by
  have cp1 := c_copyOf (N := N) (n := n) (K := K) (I := I) (F := F) (a := F 63 0) (x := X) h0 v0.2 (by omega) (by omega) hV (by omega)
  have f1 : am_u2 (am_zr F n 0) 63 0 n 63 1 = F 63 1 := by rw [am_u2_k (by decide), am_zr_a (by omega)]
  have k1 : rwK K n X (F 63 1) = (100, V + 1) := by rw [rwK_n (by omega), h1]
  have cp2 := c_copyOf (N := N) (n := n + 1) (K := rwK K n X) (I := am_cp (rwI I n) (F 63 0) 0 n 0 V) (F := rwF F n 63 0) (a := F 63 1) (x := X + 1) k1 v1.2 (by omega) (by omega) (by omega) (by omega)
  have ka : (rwK K n X 63).1 = 0 := by rw [rwK_n (by omega), hc]
  have kb : (rwK (rwK K n X) (n + 1) (X + 1) 63).1 = 0 := by rw [rwK_n (by omega)]; exact ka
  unfold X0_makeRoom
  rw [cp1, am_ca_s]
  refine am_mo_e ?_ (by omega) (by omega)
  refine (if_pos ka).trans ?_
  unfold am_lt
  dsimp only
  rw [if_pos (nb_in (by omega)), Int.toNat_natCast, f1]
  have cp2' : J7_copyOf_59c91 N (n + 1) (am_u1 K n (100, X)) (am_cp (am_zr I n 0) (F 63 0) 0 n 0 V) (am_u2 (am_zr F n 0) 63 0 n) (F 63 1) (X + 1) = _ := cp2
  rw [cp2', am_ca_s]
  refine am_mo_e ?_ (by omega) (by omega)
  refine (if_pos kb).trans ?_
  rw [Int.toNat_natCast, Nat.zero_add, Nat.zero_add]
  rfl
theorem nd_a {a b c d n : Nat} (ha : a < n) (hb : b < n) (hc : c < n) (hd : d < n) (h1 : a ≠ b) (h2 : a ≠ c) (h3 : a ≠ d) (h4 : b ≠ c) (h5 : b ≠ d) (h6 : c ≠ d) : [a, b, n, n + 1, n + 2, n + 3, n + 4, n + 5, c, n + 6, n + 7, n + 8, n + 9, n + 10, d].Nodup := by
  simp only [List.nodup_cons, List.mem_cons, List.not_mem_nil, or_false, not_or, List.nodup_nil, and_true, not_false_eq_true]
  (repeat' apply And.intro) <;> first | assumption | omega
/-- kinds and references behind new room for places -/
def vsK (K : am_K) (n : Nat) (X : Int) : am_K := sqK (sqK (sqK K n [X, X, X, X]) (n + 4) [X, X + 1]) (n + 6) [X, X, X, X, X + 1]
def vsF (F : am_F) (n : Nat) : am_F := sqF (sqF (sqF F n 62 4 4) (n + 4) 63 0 2) (n + 6) 72 1 5
def vsI (I : am_I) (F : am_F) (n : Nat) (V : Int) : am_I := sqI (gcI (sqI I n 4) (n + 4) (F 63 0) (F 63 1) V) (n + 6) 5
theorem vsK_lo {b : Nat} (h : b < n) : vsK K n X b = K b := by
  unfold vsK; rw [sqK_lo _ _ _ _ (by omega), sqK_lo _ _ _ _ (by omega), sqK_lo _ _ _ _ h]
theorem vsK_0 (i : Nat) (hi : i < 4) : vsK K n X (n + i) = (100, X) := by
  unfold vsK
  rw [sqK_lo _ _ _ _ (by omega), sqK_lo _ _ _ _ (by omega), sqK_at _ _ _ i (by simpa using hi)]
  match i, hi with
  | 0, _ => rfl
  | 1, _ => rfl
  | 2, _ => rfl
  | 3, _ => rfl
theorem vsK_4 : vsK K n X (n + 4) = (100, X) := by
  unfold vsK
  rw [sqK_lo _ _ _ _ (by omega)]
  exact sqK_at [X, X + 1] _ (n + 4) 0 (by simp)
theorem vsK_5 : vsK K n X (n + 5) = (100, X + 1) := by
  unfold vsK
  rw [sqK_lo _ _ _ _ (by omega)]
  exact sqK_at [X, X + 1] _ (n + 4) 1 (by simp)
theorem vsK_6 (i : Nat) (hi : i < 4) : vsK K n X (n + 6 + i) = (100, X) := by
  unfold vsK
  rw [sqK_at _ _ _ i (by simp; omega)]
  match i, hi with
  | 0, _ => rfl
  | 1, _ => rfl
  | 2, _ => rfl
  | 3, _ => rfl
theorem vsK_10 : vsK K n X (n + 6 + 4) = (100, X + 1) := by
  unfold vsK
  exact sqK_at [X, X, X, X, X + 1] _ (n + 6) 4 (by simp)
theorem vsF_lo (hn : 109 ≤ n) {b : Nat} {i : Int} (h : b < 109) (h2 : b ≠ 62) (h3 : b ≠ 63) (h7 : b ≠ 72) : vsF F n b i = F b i := by
  unfold vsF; rw [sqF_lo _ _ _ _ _ _ _ (by omega) h7, sqF_lo _ _ _ _ _ _ _ (by omega) h3, sqF_lo _ _ _ _ _ _ _ (by omega) h2]
theorem vsF_62 (hn : 109 ≤ n) {i : Int} (h : i < 4 ∨ 7 < i) : vsF F n 62 i = F 62 i := by
  unfold vsF; rw [sqF_lo _ _ _ _ _ _ _ (by omega) (by decide), sqF_lo _ _ _ _ _ _ _ (by omega) (by decide), sqF_k _ _ _ _ _ _ (by omega) (by omega)]
theorem vsF_63 (hn : 109 ≤ n) {i : Int} (h : i < 0 ∨ 1 < i) : vsF F n 63 i = F 63 i := by
  unfold vsF; rw [sqF_lo _ _ _ _ _ _ _ (by omega) (by decide), sqF_k _ _ _ _ _ _ (by omega) (by omega), sqF_lo _ _ _ _ _ _ _ (by omega) (by decide)]
theorem vsF_72 (hn : 109 ≤ n) {i : Int} (h : i < 1 ∨ 5 < i) : vsF F n 72 i = F 72 i := by
  unfold vsF; rw [sqF_k _ _ _ _ _ _ (by omega) (by omega), sqF_lo _ _ _ _ _ _ _ (by omega) (by decide), sqF_lo _ _ _ _ _ _ _ (by omega) (by decide)]
theorem vsF_4 (hn : 109 ≤ n) (i : Nat) (hi : i < 4) : vsF F n 62 (4 + i) = n + i := by
  unfold vsF; rw [sqF_lo _ _ _ _ _ _ _ (by omega) (by decide), sqF_lo _ _ _ _ _ _ _ (by omega) (by decide), sqF_at _ _ _ _ _ _ (by omega) hi]
theorem vsF_g (hn : 109 ≤ n) (i : Nat) (hi : i < 2) : vsF F n 63 (0 + i) = n + 4 + i := by
  unfold vsF; rw [sqF_lo _ _ _ _ _ _ _ (by omega) (by decide), sqF_at _ _ _ _ _ _ (by omega) hi]
theorem vsF_w (hn : 109 ≤ n) (i : Nat) (hi : i < 5) : vsF F n 72 (1 + i) = n + 6 + i := by
  unfold vsF; rw [sqF_at _ _ _ _ _ _ (by omega) hi]
theorem vsI_lo {V : Int} {b : Nat} (h : b < n) : vsI I F n V b = I b := by
  unfold vsI; rw [sqI_lo _ _ _ _ (by omega), gcI_lo (by omega), sqI_lo _ _ _ _ h]
theorem fixd_v {b : Nat} {i : Int} (h : fixd b i = true) : (b = 62 → i < 4 ∨ 7 < i) ∧ (b = 63 → i < 0 ∨ 2 < i) ∧ (b = 72 → i < 1 ∨ 6 < i) := by
  unfold fixd at h
  simp only [Bool.not_eq_true', Bool.or_eq_false_iff, Bool.and_eq_false_iff, beq_eq_false_iff_ne, decide_eq_false_iff_not, ne_eq] at h
  omega
theorem vs_rA (h : rA n K F) (hX : 0 ≤ X ∧ X ≤ 40000) : rA (n + 11) (vsK K n X) (vsF F n) := by
  have nn := h.nn
  have o0 : vok (F 59 2) ∧ F 59 2 < n := h.v 0 (by decide)
  have o1 : vok (F 59 3) ∧ F 59 3 < n := h.v 1 (by decide)
  have o8 : vok (F 63 2) ∧ F 63 2 < n := h.v 8 (by decide)
  have o14 : vok (F 72 6) ∧ F 72 6 < n := h.v 14 (by decide)
  have l2 : vsF F n 59 2 = F 59 2 := vsF_lo nn (by decide) (by decide) (by decide) (by decide)
  have l3 : vsF F n 59 3 = F 59 3 := vsF_lo nn (by decide) (by decide) (by decide) (by decide)
  have a4 : vsF F n 62 4 = n := vsF_4 nn 0 (by decide)
  have a5 : vsF F n 62 5 = n + 1 := vsF_4 nn 1 (by decide)
  have a6 : vsF F n 62 6 = n + 2 := vsF_4 nn 2 (by decide)
  have a7 : vsF F n 62 7 = n + 3 := vsF_4 nn 3 (by decide)
  have b0 : vsF F n 63 0 = n + 4 := vsF_g nn 0 (by decide)
  have b1 : vsF F n 63 1 = n + 5 := vsF_g nn 1 (by decide)
  have b2 : vsF F n 63 2 = F 63 2 := vsF_63 nn (Or.inr (by decide))
  have c1 : vsF F n 72 1 = n + 6 := vsF_w nn 0 (by decide)
  have c2 : vsF F n 72 2 = n + 7 := vsF_w nn 1 (by decide)
  have c3 : vsF F n 72 3 = n + 8 := vsF_w nn 2 (by decide)
  have c4 : vsF F n 72 4 = n + 9 := vsF_w nn 3 (by decide)
  have c5 : vsF F n 72 5 = n + 10 := vsF_w nn 4 (by decide)
  have c6 : vsF F n 72 6 = F 72 6 := vsF_72 nn (Or.inr (by decide))
  have k0 : vsK K n X n = (100, X) := vsK_0 0 (by decide)
  have k1 : vsK K n X (n + 1) = (100, X) := vsK_0 1 (by decide)
  have k2 : vsK K n X (n + 2) = (100, X) := vsK_0 2 (by decide)
  have k3 : vsK K n X (n + 3) = (100, X) := vsK_0 3 (by decide)
  have k4 : vsK K n X (n + 4) = (100, X) := vsK_4
  have k5 : vsK K n X (n + 5) = (100, X + 1) := vsK_5
  have k6 : vsK K n X (n + 6) = (100, X) := vsK_6 0 (by decide)
  have k7 : vsK K n X (n + 7) = (100, X) := vsK_6 1 (by decide)
  have k8 : vsK K n X (n + 8) = (100, X) := vsK_6 2 (by decide)
  have k9 : vsK K n X (n + 9) = (100, X) := vsK_6 3 (by decide)
  have k10 : vsK K n X (n + 10) = (100, X + 1) := vsK_10
  have q8 : vsK K n X (F 63 2) = K (F 63 2) := vsK_lo o8.2
  have q14 : vsK K n X (F 72 6) = K (F 72 6) := vsK_lo o14.2
  have lowK : ∀ b, b < 109 → vsK K n X b = K b := fun b q => vsK_lo (Nat.lt_of_lt_of_le q nn)
  have hfx : ∀ b i, b < 109 → fixd b i = true → vsF F n b i = F b i := fun b i w1 w2 => by
    obtain ⟨x1, x2, x3⟩ := fixd_v w2
    by_cases e2 : b = 62
    · subst e2; exact vsF_62 nn (x1 rfl)
    · by_cases e3 : b = 63
      · subst e3; have := x2 rfl; exact vsF_63 nn (by omega)
      · by_cases e7 : b = 72
        · subst e7; have := x3 rfl; exact vsF_72 nn (by omega)
        · exact vsF_lo nn w1 e2 e3 e7
  have m33 : vsF F n 85 33 = F 85 33 := vsF_lo nn (by decide) (by decide) (by decide) (by decide)
  have m34 : vsF F n 85 34 = F 85 34 := vsF_lo nn (by decide) (by decide) (by decide) (by decide)
  have hl : vrl (vsF F n) = [F 59 2, F 59 3, n, n + 1, n + 2, n + 3, n + 4, n + 5, F 63 2, n + 6, n + 7, n + 8, n + 9, n + 10, F 72 6] := by
    unfold vrl; rw [l2, l3, a4, a5, a6, a7, b0, b1, b2, c1, c2, c3, c4, c5, c6]
  have nv : ∀ i, i < 11 → vok (n + i) ∧ n + i < n + 11 := fun i hi => ⟨by unfold vok; omega, by omega⟩
  refine ⟨h.c.kept lowK hfx, h.m.kept lowK hfx, ?_, fun r hr => ?_, Nat.le_trans nn (Nat.le_add_right _ _), by rw [m33, m34]; exact h.mm, by rw [a4, k0], by rw [a4, a5, k0, k1], by rw [a4, a6, k0, k2], by rw [a4, a7, k0, k3], by rw [a4, b0, k0, k4], by rw [a4, b1, k0, k5], by rw [b2, q8]; exact h.g2, by rw [a4, c1, k0, k6], by rw [a4, c2, k0, k7], by rw [a4, c3, k0, k8], by rw [a4, c4, k0, k9], by rw [a4, c5, k0, k10], by rw [b2, c6, q8, q14]; exact h.w6, by rw [a4, k0]; exact hX.1, by rw [a4, k0]; exact hX.2, by rw [b2, q8]; exact h.E0, by rw [b2, q8]; exact h.E1⟩
  · rw [hl]
    exact nd_a o0.2 o1.2 o8.2 o14.2 (h.ne (i := 0) (j := 1) (by decide) (by decide) (by decide)) (h.ne (i := 0) (j := 8) (by decide) (by decide) (by decide)) (h.ne (i := 0) (j := 14) (by decide) (by decide) (by decide)) (h.ne (i := 1) (j := 8) (by decide) (by decide) (by decide)) (h.ne (i := 1) (j := 14) (by decide) (by decide) (by decide)) (h.ne (i := 8) (j := 14) (by decide) (by decide) (by decide))
  · rw [hl] at hr
    simp only [List.mem_cons, List.not_mem_nil, or_false] at hr
    have lt : ∀ {r : Nat}, r < n → r < n + 11 := fun q => Nat.lt_of_lt_of_le q (Nat.le_add_right _ _)
    rcases hr with rfl | rfl | rfl | rfl | rfl | rfl | rfl | rfl | rfl | rfl | rfl | rfl | rfl | rfl | rfl
    · exact ⟨o0.1, lt o0.2⟩
    · exact ⟨o1.1, lt o1.2⟩
    · exact nv 0 (by decide)
    · exact nv 1 (by decide)
    · exact nv 2 (by decide)
    · exact nv 3 (by decide)
    · exact nv 4 (by decide)
    · exact nv 5 (by decide)
    · exact ⟨o8.1, lt o8.2⟩
    · exact nv 6 (by decide)
    · exact nv 7 (by decide)
    · exact nv 8 (by decide)
    · exact nv 9 (by decide)
    · exact nv 10 (by decide)
    · exact ⟨o14.1, lt o14.2⟩
theorem vs_mrf (h : rA n K F) {V : Int} (hV : (K (F 62 4)).2 = V) (hX : V ≤ X ∧ X ≤ 40000) : mrf n (n + 11) K (vsK K n X) F (vsF F n) I (vsI I F n V) := by
  have nn := h.nn
  have V0 := h.V0
  have p0 : F 63 0 < n := (h.v 6 (by decide)).2
  have p1 : F 63 1 < n := (h.v 7 (by decide)).2
  have o8 : F 63 2 < n := (h.v 8 (by decide)).2
  have a4 : vsF F n 62 4 = n := vsF_4 nn 0 (by decide)
  have b0 : vsF F n 63 0 = n + 4 := vsF_g nn 0 (by decide)
  have b1 : vsF F n 63 1 = n + 5 := vsF_g nn 1 (by decide)
  have b2 : vsF F n 63 2 = F 63 2 := vsF_63 nn (Or.inr (by decide))
  have k0 : vsK K n X n = (100, X) := vsK_0 0 (by decide)
  refine ⟨vs_rA h (by omega), Nat.le_add_right _ _, fun b q => vsK_lo q, fun b q => vsI_lo q, fun b i q1 q2 q3 q4 => vsF_lo nn q1 q2 q3 q4, by rw [a4, k0, hV]; exact hX.1, by rw [b2, vsK_lo o8]; exact Int.le_refl _, fun j j0 j1 => ?_, fun j j0 j1 => ?_, fun j _ _ => by rw [b2, vsI_lo o8]⟩
  · rw [hV] at j1
    rw [b0]; unfold vsI
    rw [sqI_lo _ _ _ _ (by omega), gcI_0 (by omega) j0 j1, sqI_lo _ _ _ _ p0]
  · rw [hV] at j1
    rw [b1]; unfold vsI
    rw [sqI_lo _ _ _ _ (by omega), show n + 5 = n + 4 + 1 by omega, gcI_1 (by omega) j0 j1, sqI_lo _ _ _ _ p1]
theorem vs_run (h : rA n K F) {V : Int} (hV : (K (F 62 4)).2 = V) (hI : V < I 62 2 ∧ I 62 2 ≤ 40000) (hX : am_min (am_max (I 62 2) (2 * V)) 40000 = X) (hXb : V < X ∧ X ≤ 40000) : X9_makeRoom N 62 n K I F = some (0, n + 11, vsK K n X, vsI I F n V, vsF F n, 11, X.toNat + X.toNat + X.toNat + X.toNat + (X.toNat + (X + 1).toNat) + (X.toNat + X.toNat + X.toNat + X.toNat + (X + 1).toNat)) := by
  have hc := h.c
  have nn := h.nn
  have V0 := h.V0
  have p0 : F 63 0 < n := (h.v 6 (by decide)).2
  have p1 : F 63 1 < n := (h.v 7 (by decide)).2
  have q0 : F 63 0 ≠ 1 := (h.v 6 (by decide)).1.ne rfl
  have q1 : F 63 1 ≠ 1 := (h.v 7 (by decide)).1.ne rfl
  have g0 := h.g0
  have g1 := h.g1
  rw [hV] at g0 g1 V0
  have kk : ∀ b, b < n → sqK K n [X, X, X, X] b = K b := fun b q => sqK_lo _ _ _ _ q
  have ff : ∀ i, sqF F n 62 4 4 63 i = F 63 i := fun i => sqF_lo _ _ _ _ _ _ _ (by omega) (by decide)
  have w63 : sqF F n 62 4 4 62 0 = 63 := by rw [sqF_k _ _ _ _ _ _ (by omega) (by omega)]; exact cwF_62_0 hc
  have u63 : sqK K n [X, X, X, X] 63 = (0, 0) := by rw [kk 63 (by omega)]; exact cwK_63 hc
  have r0 := c_room0 (N := N) (n := n + 4) (K := sqK K n [X, X, X, X]) (I := sqI I n 4) (F := sqF F n 62 4 4) (X := X) (V := V) u63 (by omega) (by rw [ff, kk _ p0]; exact g0) (by rw [ff, kk _ p1]; exact g1) (by rw [ff]; omega) (by rw [ff]; omega) (by omega) (by omega)
  rw [ff, ff] at r0
  have kk6 : ∀ b, b < n → sqK (sqK K n [X, X, X, X]) (n + 4) [X, X + 1] b = K b := fun b q => by rw [sqK_lo _ _ _ _ (by omega), kk b q]
  have u62 : (sqK (sqK K n [X, X, X, X]) (n + 4) [X, X + 1] 62).1 = 9 := by rw [kk6 62 (by omega)]; exact congrArg Prod.fst (cwK_62 hc)
  have u72 : sqK (sqK K n [X, X, X, X]) (n + 4) [X, X + 1] 72 = (7, 0) := by rw [kk6 72 (by omega)]; exact cwK_72 hc
  have w72 : sqF (sqF F n 62 4 4) (n + 4) 63 0 2 62 10 = 72 := by rw [sqF_lo _ _ _ _ _ _ _ (by omega) (by decide), sqF_k _ _ _ _ _ _ (by omega) (by omega)]; exact cwF_62_10 hc
  have r7 := c_room7 (N := N) (n := n + 6) (K := sqK (sqK K n [X, X, X, X]) (n + 4) [X, X + 1]) (I := gcI (sqI I n 4) (n + 4) (F 63 0) (F 63 1) V) (F := sqF (sqF F n 62 4 4) (n + 4) 63 0 2) (X := X) u72 (by omega) (by omega)
  have w0 : (rwK K n X 62).1 = 9 := by rw [rwK_n (by omega)]; exact congrArg Prod.fst (cwK_62 hc)
  have w1 : (rwK (rwK K n X) (n + 1) X 62).1 = 9 := by rw [rwK_n (by omega)]; exact w0
  have w2 : (rwK (rwK (rwK K n X) (n + 1) X) (n + 2) X 62).1 = 9 := by rw [rwK_n (by omega)]; exact w1
  have w3 : (rwK (rwK (rwK (rwK K n X) (n + 1) X) (n + 2) X) (n + 3) X 62).1 = 9 := by rw [rwK_n (by omega)]; exact w2
  unfold X9_makeRoom X9_makeRoom_b76 am_nw am_lt
  dsimp only
  rw [if_pos h.v1, hV, if_pos (nb_in (by omega)), if_pos hI.1, if_pos (nb_in (by omega)), hX, if_pos (show 0 ≤ X ∧ X ≤ 60000000 by omega)]
  refine am_mo_e ?_ (by omega) (by omega)
  refine (if_pos w0).trans ?_
  refine am_mo_e ?_ (by omega) (by omega)
  refine (if_pos w1).trans ?_
  refine am_mo_e ?_ (by omega) (by omega)
  refine (if_pos w2).trans ?_
  refine am_mo_e ?_ (by omega) (by omega)
  refine (if_pos w3).trans ?_
  have hK4' : am_u1 (am_u1 (am_u1 (am_u1 K n (100, X)) (n + 1) (100, X)) (n + 1 + 1) (100, X)) (n + 1 + 1 + 1) (100, X) = sqK K n [X, X, X, X] := rfl
  have hI4' : am_zr (am_zr (am_zr (am_zr I n 0) (n + 1) 0) (n + 1 + 1) 0) (n + 1 + 1 + 1) 0 = sqI I n 4 := rfl
  have hF4' : am_u2 (am_zr (am_u2 (am_zr (am_u2 (am_zr (am_u2 (am_zr F n 0) 62 4 n) (n + 1) 0) 62 5 (n + 1)) (n + 1 + 1) 0) 62 6 (n + 1 + 1)) (n + 1 + 1 + 1) 0) 62 7 (n + 1 + 1 + 1) = sqF F n 62 4 4 := rfl
  rw [hK4', hI4', hF4', w63, u63, if_pos (show ((0, 0) : Nat × Int).1 = 0 from rfl)]
  have r0' : X0_makeRoom N 63 (n + 1 + 1 + 1 + 1) (sqK K n [X, X, X, X]) (sqI I n 4) (sqF F n 62 4 4) X = _ := r0
  rw [r0', am_ca_s]
  refine am_mo_e ?_ (by omega) (by omega)
  rw [if_pos u62, w72, u72, if_pos (show ((7, 0) : Nat × Int).1 = 7 from rfl)]
  have r7' : X7_makeRoom N 72 (n + 4 + 2) (sqK (sqK K n [X, X, X, X]) (n + 4) [X, X + 1]) (gcI (sqI I n 4) (n + 4) (F 63 0) (F 63 1) V) (sqF (sqF F n 62 4 4) (n + 4) 63 0 2) X = _ := r7
  rw [r7', am_ca_s]
  refine am_mo_e ?_ (by omega) (by omega)
  refine am_mo_e ?_ (by omega) (by omega)
  rw [Nat.zero_add, Nat.zero_add]
  rfl
/-- room for places -/
theorem c_roomS (h : rA n K F) (hp : 2 ≤ I 62 2 ∧ I 62 2 ≤ 40000) : ∃ n' K' J F' c z, X9_makeRoom N 62 n K I F = some (0, n', K', J, F', c, z) ∧ mrf n n' K K' F F' I J ∧ I 62 2 ≤ (K' (F' 62 4)).2 ∧ K' (F' 63 2) = K (F 63 2) ∧ F' 59 = F 59 ∧ c ≤ 11 ∧ (z : Int) + pzV K' F' ≤ pzV K F := by
  have nn := h.nn
  have V0 := h.V0
  have V1 := h.V1
  by_cases g : (K (F 62 4)).2 < I 62 2
  · have hx0 : am_min (am_max (I 62 2) (2 * (K (F 62 4)).2)) 40000 = (if (if I 62 2 < 2 * (K (F 62 4)).2 then 2 * (K (F 62 4)).2 else I 62 2) ≤ 40000 then (if I 62 2 < 2 * (K (F 62 4)).2 then 2 * (K (F 62 4)).2 else I 62 2) else 40000) := by rw [am_min_eq, am_max_eq]
    have hXb : (K (F 62 4)).2 < am_min (am_max (I 62 2) (2 * (K (F 62 4)).2)) 40000 ∧ am_min (am_max (I 62 2) (2 * (K (F 62 4)).2)) 40000 ≤ 40000 ∧ I 62 2 ≤ am_min (am_max (I 62 2) (2 * (K (F 62 4)).2)) 40000 ∧ (2 * (K (F 62 4)).2 ≤ am_min (am_max (I 62 2) (2 * (K (F 62 4)).2)) 40000 ∨ am_min (am_max (I 62 2) (2 * (K (F 62 4)).2)) 40000 = 40000) := by
      rw [hx0]
      split <;> split <;> omega
    have run := vs_run (N := N) (I := I) h rfl ⟨g, hp.2⟩ rfl ⟨hXb.1, hXb.2.1⟩
    have mr := vs_mrf (I := I) h rfl ⟨Int.le_of_lt hXb.1, hXb.2.1⟩
    generalize am_min (am_max (I 62 2) (2 * (K (F 62 4)).2)) 40000 = X at *
    have a4 : vsF F n 62 4 = n := vsF_4 nn 0 (by decide)
    have b2 : vsF F n 63 2 = F 63 2 := vsF_63 nn (Or.inr (by decide))
    have k0 : vsK K n X n = (100, X) := vsK_0 0 (by decide)
    have o8 : F 63 2 < n := (h.v 8 (by decide)).2
    refine ⟨_, _, _, _, _, _, run, mr, by rw [a4, k0]; exact hXb.2.2.1, by rw [b2, vsK_lo o8], funext fun i => vsF_lo nn (by decide) (by decide) (by decide) (by decide), Nat.le_refl _, ?_⟩
    unfold pzV
    rw [a4, k0]
    generalize (K (F 62 4)).2 = V at *
    show ((X.toNat + X.toNat + X.toNat + X.toNat + (X.toNat + (X + 1).toNat) + (X.toNat + X.toNat + X.toNat + X.toNat + (X + 1).toNat) : Nat) : Int) + (if X < 40000 then 12 * (120000 - 2 * X) else 0) ≤ if V < 40000 then 12 * (120000 - 2 * V) else 0
    rw [if_pos (show V < 40000 by omega)]
    split <;> omega
  · refine ⟨n, K, I, F, 0, 0, ?_, mrf_rfl h, by omega, rfl, rfl, by omega, by omega⟩
    unfold X9_makeRoom X9_makeRoom_b76
    rw [if_pos h.v1, if_pos (nb_in (by omega)), if_neg g]
    exact am_mo_e rfl (Nat.le_refl _) (Nat.le_refl _)
end ROOMS
