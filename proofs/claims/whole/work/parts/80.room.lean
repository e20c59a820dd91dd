-- MOVES: room for the past
def pzP (K : am_K) (F : am_F) : Int := if (K (F 59 2)).2 < 1000 then 35 * (3000 - 2 * (K (F 59 2)).2) else 0
/-- what making room for the past leaves -/
def mrm (n n' : Nat) (K K' : am_K) (F F' : am_F) (I J : am_I) (c z : Nat) : Prop := (n ≤ n') ∧ (∀ a, a < n → K' a = K a) ∧ (∀ a j, a < n → a ≠ 59 → F' a j = F a j) ∧ (∀ a, a < n → J a = I a) ∧ ((K' (F' 59 2)).1 = 100) ∧ (K' (F' 59 3) = (100, 34 * (K' (F' 59 2)).2)) ∧ (16 ≤ (K' (F' 59 2)).2) ∧ ((K' (F' 59 2)).2 ≤ 1000) ∧ (I 59 0 < (K' (F' 59 2)).2) ∧ ((K (F 59 2)).2 ≤ (K' (F' 59 2)).2) ∧ (∀ j, 0 ≤ j → j < I 59 0 → J (F' 59 2) j = I (F 59 2) j) ∧ (∀ j, 0 ≤ j → j < I 59 0 * 34 → J (F' 59 3) j = I (F 59 3) j) ∧ ((F' 59 2 = F 59 2 ∧ F' 59 3 = F 59 3 ∧ n' = n) ∨ (F' 59 2 = n ∧ F' 59 3 = n + 1 ∧ n' = n + 2)) ∧ ((c : Int) ≤ 2 * ((K' (F' 59 2)).2 - (K (F 59 2)).2)) ∧ ((z : Int) + pzP K' F' ≤ pzP K F)
theorem mrm.nn {n n' : Nat} {K K' : am_K} {F F' : am_F} {I J : am_I} {c z : Nat} (h : mrm n n' K K' F F' I J c z) : n ≤ n' := h.1
theorem mrm.K {n n' : Nat} {K K' : am_K} {F F' : am_F} {I J : am_I} {c z : Nat} (h : mrm n n' K K' F F' I J c z) : ∀ a, a < n → K' a = K a := h.2.1
theorem mrm.F {n n' : Nat} {K K' : am_K} {F F' : am_F} {I J : am_I} {c z : Nat} (h : mrm n n' K K' F F' I J c z) : ∀ a j, a < n → a ≠ 59 → F' a j = F a j := h.2.2.1
theorem mrm.I {n n' : Nat} {K K' : am_K} {F F' : am_F} {I J : am_I} {c z : Nat} (h : mrm n n' K K' F F' I J c z) : ∀ a, a < n → J a = I a := h.2.2.2.1
theorem mrm.k1 {n n' : Nat} {K K' : am_K} {F F' : am_F} {I J : am_I} {c z : Nat} (h : mrm n n' K K' F F' I J c z) : (K' (F' 59 2)).1 = 100 := h.2.2.2.2.1
theorem mrm.k2 {n n' : Nat} {K K' : am_K} {F F' : am_F} {I J : am_I} {c z : Nat} (h : mrm n n' K K' F F' I J c z) : K' (F' 59 3) = (100, 34 * (K' (F' 59 2)).2) := h.2.2.2.2.2.1
theorem mrm.l0 {n n' : Nat} {K K' : am_K} {F F' : am_F} {I J : am_I} {c z : Nat} (h : mrm n n' K K' F F' I J c z) : 16 ≤ (K' (F' 59 2)).2 := h.2.2.2.2.2.2.1
theorem mrm.l1 {n n' : Nat} {K K' : am_K} {F F' : am_F} {I J : am_I} {c z : Nat} (h : mrm n n' K K' F F' I J c z) : (K' (F' 59 2)).2 ≤ 1000 := h.2.2.2.2.2.2.2.1
theorem mrm.l2 {n n' : Nat} {K K' : am_K} {F F' : am_F} {I J : am_I} {c z : Nat} (h : mrm n n' K K' F F' I J c z) : I 59 0 < (K' (F' 59 2)).2 := h.2.2.2.2.2.2.2.2.1
theorem mrm.l3 {n n' : Nat} {K K' : am_K} {F F' : am_F} {I J : am_I} {c z : Nat} (h : mrm n n' K K' F F' I J c z) : (K (F 59 2)).2 ≤ (K' (F' 59 2)).2 := h.2.2.2.2.2.2.2.2.2.1
theorem mrm.p {n n' : Nat} {K K' : am_K} {F F' : am_F} {I J : am_I} {c z : Nat} (h : mrm n n' K K' F F' I J c z) : ∀ j, 0 ≤ j → j < I 59 0 → J (F' 59 2) j = I (F 59 2) j := h.2.2.2.2.2.2.2.2.2.2.1
theorem mrm.b {n n' : Nat} {K K' : am_K} {F F' : am_F} {I J : am_I} {c z : Nat} (h : mrm n n' K K' F F' I J c z) : ∀ j, 0 ≤ j → j < I 59 0 * 34 → J (F' 59 3) j = I (F 59 3) j := h.2.2.2.2.2.2.2.2.2.2.2.1
theorem mrm.v {n n' : Nat} {K K' : am_K} {F F' : am_F} {I J : am_I} {c z : Nat} (h : mrm n n' K K' F F' I J c z) : (F' 59 2 = F 59 2 ∧ F' 59 3 = F 59 3 ∧ n' = n) ∨ (F' 59 2 = n ∧ F' 59 3 = n + 1 ∧ n' = n + 2) := h.2.2.2.2.2.2.2.2.2.2.2.2.1
theorem mrm.c {n n' : Nat} {K K' : am_K} {F F' : am_F} {I J : am_I} {c z : Nat} (h : mrm n n' K K' F F' I J c z) : (c : Int) ≤ 2 * ((K' (F' 59 2)).2 - (K (F 59 2)).2) := h.2.2.2.2.2.2.2.2.2.2.2.2.2.1
theorem mrm.z {n n' : Nat} {K K' : am_K} {F F' : am_F} {I J : am_I} {c z : Nat} (h : mrm n n' K K' F F' I J c z) : (z : Int) + pzP K' F' ≤ pzP K F := h.2.2.2.2.2.2.2.2.2.2.2.2.2.2
/-- the class's past, as far as room goes -/
def cH (n : Nat) (K : am_K) (F : am_F) (I : am_I) (md : Int) : Prop := (rA n K F) ∧ (I 59 0 = md) ∧ (0 ≤ md) ∧ ((K (F 59 2)).1 = 100) ∧ (K (F 59 3) = (100, 34 * (K (F 59 2)).2)) ∧ (16 ≤ (K (F 59 2)).2) ∧ ((K (F 59 2)).2 ≤ 1000) ∧ (md ≤ (K (F 59 2)).2)
theorem cH.a {n : Nat} {K : am_K} {F : am_F} {I : am_I} {md : Int} (h : cH n K F I md) : rA n K F := h.1
theorem cH.m {n : Nat} {K : am_K} {F : am_F} {I : am_I} {md : Int} (h : cH n K F I md) : I 59 0 = md := h.2.1
theorem cH.m0 {n : Nat} {K : am_K} {F : am_F} {I : am_I} {md : Int} (h : cH n K F I md) : 0 ≤ md := h.2.2.1
theorem cH.k1 {n : Nat} {K : am_K} {F : am_F} {I : am_I} {md : Int} (h : cH n K F I md) : (K (F 59 2)).1 = 100 := h.2.2.2.1
theorem cH.k2 {n : Nat} {K : am_K} {F : am_F} {I : am_I} {md : Int} (h : cH n K F I md) : K (F 59 3) = (100, 34 * (K (F 59 2)).2) := h.2.2.2.2.1
theorem cH.l0 {n : Nat} {K : am_K} {F : am_F} {I : am_I} {md : Int} (h : cH n K F I md) : 16 ≤ (K (F 59 2)).2 := h.2.2.2.2.2.1
theorem cH.l1 {n : Nat} {K : am_K} {F : am_F} {I : am_I} {md : Int} (h : cH n K F I md) : (K (F 59 2)).2 ≤ 1000 := h.2.2.2.2.2.2.1
theorem cH.l2 {n : Nat} {K : am_K} {F : am_F} {I : am_I} {md : Int} (h : cH n K F I md) : md ≤ (K (F 59 2)).2 := h.2.2.2.2.2.2.2
section ROOM
variable {N n n' : Nat} {K K' : am_K} {F F' : am_F} {I J J' : am_I} {R C A : Int} {lk U : Int → Int} {S x y z : Int}
theorem am_ca_s {ρ : Type} (v : Int) (n : Nat) (K : am_K) (I : am_I) (F : am_F) (c z : Nat) (t : Int → Nat → am_K → am_I → am_F → Nat → Nat → Option ρ) : am_ca (some (v, n, K, I, F, c, z)) t = t v n K I F c z := rfl
theorem am_mo_s {c z : Nat} {r : am_A} (h1 : c ≤ am_ac1 r) (h2 : z ≤ am_az1 r) : am_mo c z (some r) = some r := if_pos ⟨h1, h2⟩
theorem am_mo_e {c z : Nat} {X : Option am_A} {v : Int} {n : Nat} {K : am_K} {I : am_I} {F : am_F} {c' z' : Nat} (hX : X = some (v, n, K, I, F, c', z')) (h1 : c ≤ c') (h2 : z ≤ z') : am_mo c z X = some (v, n, K, I, F, c', z') := by rw [hX]; exact am_mo_s h1 h2
theorem fixd_ne {a : Nat} {j : Int} (h : fixd a j = true) : a ≠ 59 := by
  intro e; subst e; unfold fixd at h; simp at h
theorem am_min_eq {x y : Int} : am_min x y = if x ≤ y then x else y := by unfold am_min; split <;> split <;> omega
/-- a copy of a row, with more room -/
theorem c_copyOf {a : Nat} {L x : Int} (hk : K a = (100, L)) (ha : a ≠ 1) (han : a ≠ n) (hn : n ≠ 1) (hL : 0 ≤ L ∧ L < x) (hx : x ≤ 2000000) :
    J7_copyOf_59c91 N n K I F a x = some ((n : Int), n + 1, am_u1 K n (100, x), am_cp (am_zr I n 0) a 0 n 0 L, am_zr F n 0, 1, x.toNat) := by
  have e1 : am_u1 K n (100, x) a = (100, L) := by rw [am_u1_n han, hk]
  have e2 : am_u1 K n (100, x) n = (100, x) := am_u1_s _ _ _
  have em : am_min L x = L := by rw [am_min_eq, if_pos (by omega)]
  unfold J7_copyOf_59c91 am_nw
  rw [hk]
  dsimp only
  rw [if_pos (show (100 : Nat) = 100 from rfl), if_pos (nb_in (by omega)), if_neg (by omega), if_pos (by omega), e1, e2]
  refine am_mo_e ?_ (by omega) (by omega)
  dsimp only
  rw [if_pos (show (100 : Nat) = 100 from rfl), if_pos (nb_in (by omega)), if_pos hn, if_pos ha, em, if_pos (by omega)]
  unfold am_lt
  dsimp only
  rw [Nat.zero_add, Nat.zero_add]
theorem rel.cH (h : rel n K F I R C A lk U S) : cH n K F I (I 85 37) := ⟨h.a, h.h.a, h.h.a0, h.h.k1, h.h.k2, h.h.l0, h.h.l1, by have := h.h.l2; have := h.h.b0; omega⟩
theorem c_makeRoom {md : Int} (h : cH n K F I md) (hm : md < 1000) : ∃ n' K' J F' c z, X4_makeRoom N 59 n K I F = some (0, n', K', J, F', c, z) ∧ mrm n n' K K' F F' I J c z := by
  have hk := h.a
  have ha := h.m
  have a0 := h.m0
  have l2 := h.l2
  have l0 := h.l0
  have l1 := h.l1
  have nn := hk.nn
  have h1 : vok (F 59 2) ∧ F 59 2 < n := hk.v 0 (by decide)
  have h2 : vok (F 59 3) ∧ F 59 3 < n := hk.v 1 (by decide)
  have k1 : K (F 59 2) = (100, (K (F 59 2)).2) := by rw [← h.k1]
  have k2 := h.k2
  by_cases g : (K (F 59 2)).2 ≤ I 59 0
  · have hne1 : F 59 2 ≠ 1 := h1.1.ne rfl
    have hne2 : F 59 3 ≠ 1 := h2.1.ne rfl
    generalize hP : F 59 2 = P at *
    generalize hB : F 59 3 = B at *
    generalize hL : (K P).2 = L at *
    have hx : am_min (2 * L) 1000 = if 2 * L ≤ 1000 then 2 * L else 1000 := am_min_eq
    generalize hX : am_min (2 * L) 1000 = X at *
    have hXb : L < X ∧ X ≤ 1000 ∧ (X = 2 * L ∨ X = 1000) ∧ X ≤ 2 * L := by rw [hx]; split <;> omega
    have cp1 := c_copyOf (N := N) (n := n) (K := K) (I := I) (F := F) (a := P) (x := X) k1 hne1 (by omega) (by omega) (by omega) (by omega)
    generalize hK1 : am_u1 K n (100, X) = K1 at cp1
    generalize hI1 : am_cp (am_zr I n 0) P 0 n 0 L = I1 at cp1
    have hF1 : ∀ a j, am_u2 (am_zr F n 0) 59 2 n a j = if a = 59 ∧ j = 2 then n else if a = n then 0 else F a j := fun a j => rfl
    generalize hF1e : am_u2 (am_zr F n 0) 59 2 n = F1 at *
    have k1B : K1 B = (100, 34 * L) := by rw [← hK1, am_u1_n (by omega), k2]
    have f1B : F1 59 3 = B := by rw [hF1, if_neg (by omega), if_neg (by omega), hB]
    have cp2 := c_copyOf (N := N) (n := n + 1) (K := K1) (I := I1) (F := F1) (a := B) (x := X * 34) k1B hne2 (by omega) (by omega) (by omega) (by omega)
    have k159 : K1 59 = (4, 0) := by rw [← hK1, am_u1_n (by omega)]; exact cwK_59 hk.c
    have k259 : am_u1 K1 (n + 1) (100, X * 34) 59 = (4, 0) := by rw [am_u1_n (by omega), k159]
    refine ⟨n + 2, am_u1 K1 (n + 1) (100, X * 34), am_cp (am_zr I1 (n + 1) 0) B 0 (n + 1) 0 (34 * L), am_u2 (am_zr F1 (n + 1) 0) 59 3 (n + 1), 0 + 1 + 1, 0 + X.toNat + (X * 34).toNat, ?_, ?_⟩
    · unfold X4_makeRoom X4_makeRoom_b53
      rw [hP, k1]
      dsimp only
      rw [if_pos (show (100 : Nat) = 100 from rfl), if_pos (nb_in (by omega)), if_pos g, if_pos (nb_in (by omega)), hX]
      unfold am_lt
      dsimp only
      rw [cp1, am_ca_s]
      refine am_mo_e ?_ (by omega) (by omega)
      rw [k159, if_pos (show ((4, 0) : Nat × Int).1 = 4 from rfl), Int.toNat_natCast, hF1e, if_pos (nb_in (by omega)), f1B, cp2, am_ca_s]
      refine am_mo_e ?_ (by omega) (by omega)
      rw [k259, if_pos (show ((4, 0) : Nat × Int).1 = 4 from rfl), Int.toNat_natCast]
      exact am_mo_e rfl (by omega) (by omega)
    · have rP : am_u2 (am_zr F1 (n + 1) 0) 59 3 (n + 1) 59 2 = n := by rw [am_u2_k (by decide), am_zr_a (by omega), hF1, if_pos (by omega)]
      have rB : am_u2 (am_zr F1 (n + 1) 0) 59 3 (n + 1) 59 3 = n + 1 := by rw [am_u2_s]
      have kP : am_u1 K1 (n + 1) (100, X * 34) n = (100, X) := by rw [am_u1_n (by omega), ← hK1, am_u1_s]
      have kB : am_u1 K1 (n + 1) (100, X * 34) (n + 1) = (100, X * 34) := am_u1_s _ _ _
      refine ⟨by omega, fun a q => by rw [am_u1_n (by omega), ← hK1, am_u1_n (by omega)], fun a j q1 q2 => by rw [am_u2_a q2, am_zr_a (by omega), hF1, if_neg (by omega), if_neg (by omega)], fun a q => ?_, by rw [rP, kP], by rw [rP, rB, kP, kB]; show ((100, X * 34) : Nat × Int) = (100, 34 * X); rw [Int.mul_comm], by rw [rP, kP]; show 16 ≤ X; omega, by rw [rP, kP]; show X ≤ 1000; omega, by rw [rP, kP]; show I 59 0 < X; omega, by rw [rP, kP, hP, hL]; show L ≤ X; omega, fun j j0 j1 => ?_, fun j j0 j1 => ?_, Or.inr ⟨rP, rB, rfl⟩, by rw [rP, kP, hP, hL]; show ((0 + 1 + 1 : Nat) : Int) ≤ 2 * (X - L); omega, ?_⟩
      · funext j
        unfold am_cp
        rw [if_neg (by omega), am_zr_a (by omega), ← hI1]
        unfold am_cp
        rw [if_neg (by omega), am_zr_a (by omega)]
      · rw [rP, hP]
        unfold am_cp
        rw [if_neg (by omega), am_zr_a (by omega), ← hI1]
        unfold am_cp
        rw [if_pos (by omega), am_zr_a (by omega)]
        congr 1
        omega
      · rw [rB, hB]
        unfold am_cp
        rw [if_pos (by omega), am_zr_a (by omega), ← hI1]
        unfold am_cp
        rw [if_neg (by omega), am_zr_a (by omega)]
        congr 1
        omega
      · unfold pzP
        rw [rP, kP, hP, hL]
        show ((0 + X.toNat + (X * 34).toNat : Nat) : Int) + (if X < 1000 then 35 * (3000 - 2 * X) else 0) ≤ if L < 1000 then 35 * (3000 - 2 * L) else 0
        rw [if_pos (show L < 1000 by omega)]
        split <;> omega
  · refine ⟨n, K, I, F, 0, 0, ?_, Nat.le_refl _, fun _ _ => rfl, fun _ _ _ _ => rfl, fun _ _ => rfl, h.k1, h.k2, l0, l1, by omega, Int.le_refl _, fun _ _ _ => rfl, fun _ _ _ => rfl, Or.inl ⟨rfl, rfl, rfl⟩, by omega, by omega⟩
    unfold X4_makeRoom X4_makeRoom_b53
    rw [if_pos h.k1, if_pos (nb_in (by omega)), if_neg g]
    exact am_mo_e rfl (by omega) (by omega)
end ROOM
