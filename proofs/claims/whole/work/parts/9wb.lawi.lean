-- THE LAW's INVARIANT
/-- what holds ahead of call number k of a script -/
def yIv (n : Nat) (K : am_K) (F : am_F) (I : am_I) (c z k : Nat) : Prop := (I 2 9 = I 85 15) ∧ (∃ (R C A : Int) (lk U : Int → Int) (S : Int), S ≤ 1000 * (k : Int) ∧ rel n K F I R C A lk U S) ∧ ((c : Int) ≤ 200 + 13 * (k : Int) + 2 * ((K (F 59 2)).2 - 16)) ∧ ((z : Int) + (pzP K F + pzV K F + pzE K F) ≤ 7302250)
theorem yIv.st {n : Nat} {K : am_K} {F : am_F} {I : am_I} {c z k : Nat} (h : yIv n K F I c z k) : I 2 9 = I 85 15 := h.1
theorem yIv.ex {n : Nat} {K : am_K} {F : am_F} {I : am_I} {c z k : Nat} (h : yIv n K F I c z k) : ∃ (R C A : Int) (lk U : Int → Int) (S : Int), S ≤ 1000 * (k : Int) ∧ rel n K F I R C A lk U S := h.2.1
theorem yIv.cc {n : Nat} {K : am_K} {F : am_F} {I : am_I} {c z k : Nat} (h : yIv n K F I c z k) : (c : Int) ≤ 200 + 13 * (k : Int) + 2 * ((K (F 59 2)).2 - 16) := h.2.2.1
theorem yIv.zz {n : Nat} {K : am_K} {F : am_F} {I : am_I} {c z k : Nat} (h : yIv n K F I c z k) : (z : Int) + (pzP K F + pzV K F + pzE K F) ≤ 7302250 := h.2.2.2
/-- the places of a call's ints -/
def li_b (L : Nat) (i : Int) : Prop := (am_inI (i + 1) ∧ 0 ≤ i + 1 ∧ i + 1 < (L : Int)) ∧ (am_inI (i + 2) ∧ 0 ≤ i + 2 ∧ i + 2 < (L : Int)) ∧ (am_inI (i + 3) ∧ 0 ≤ i + 3 ∧ i + 3 < (L : Int)) ∧ (am_inI (i + 4) ∧ 0 ≤ i + 4 ∧ i + 4 < (L : Int))
theorem am_cmp_v (v : Int) : am_cmp v v = 0 := by unfold am_cmp; rw [if_neg (by omega), if_pos rfl]
section LAWI
variable {L : Nat} {xs : Nat → Int32} {n n' k : Nat} {K K' : am_K} {I J : am_I} {F F' : am_F} {c z c' z' : Nat} {i x : Int} {R C A : Int} {lk U : Int → Int} {S : Int}
theorem li_b_of (h0 : 0 ≤ i) (h1 : i + 5 ≤ (L : Int)) (h2 : (L : Int) ≤ 2560) : li_b L i := by
  unfold li_b am_inI
  omega
theorem ySc.lt (h : ySc L xs K I) (hx : x < (L : Int)) : x < (K 1).2 := by rw [h.2.1]; exact hx
theorem pz_nn (h : rel n K F I R C A lk U S) : 0 ≤ pzP K F + pzV K F + pzE K F := by
  have a1 := h.a.V1
  have a2 := h.a.E1
  have a3 := h.h.l1
  clear h
  have e1 : 0 ≤ pzP K F := by unfold pzP; split <;> omega
  have e2 : 0 ≤ pzV K F := by unfold pzV; split <;> omega
  have e3 : 0 ≤ pzE K F := by unfold pzE; omega
  omega
theorem yIv.rz (h : yIv n K F I c z k) : z ≤ 7302250 := by
  obtain ⟨R, C, A, lk, U, S, -, hr⟩ := h.ex
  have e1 := pz_nn hr
  have e2 := h.zz
  clear hr h
  omega
theorem yIv.rc (h : yIv n K F I c z k) (hk : k ≤ 512) : c ≤ 600000 := by
  obtain ⟨R, C, A, lk, U, S, -, hr⟩ := h.ex
  have e1 := hr.h.l1
  have e2 := h.cc
  clear hr h
  omega
theorem yIv.up (h : yIv n K F I c z k) : yIv n K F I c z (k + 1) := by
  obtain ⟨R, C, A, lk, U, S, hS, hr⟩ := h.ex
  have e2 := h.cc
  exact ⟨h.st, ⟨R, C, A, lk, U, S, by clear hr h; omega, hr⟩, by clear hr h; omega, h.zz⟩
theorem yIv.nx (hI : yIv n K F I c z k) (h : rel n K F J R C A lk U S) (hS : S ≤ 1000 * ((k + 1 : Nat) : Int)) (hst : J 2 9 = J 85 15) : yIv n K F J c z (k + 1) := by
  have e2 := hI.cc
  exact ⟨hst, ⟨R, C, A, lk, U, S, hS, h⟩, by clear h hI; omega, hI.zz⟩
theorem yIv.nxA (hI : yIv n K F I c z k) (h : rel n' K' F' J R C A lk U S) (hS : S ≤ 1000 * ((k + 1 : Nat) : Int)) (hst : J 2 9 = J 85 15) (hr : rsm K K' F F' c' z') : yIv n' K' F' J (c + c') (z + z') (k + 1) := by
  have e2 := hI.cc
  have e3 := hr.c
  have e4 := hr.z
  have e5 := hI.zz
  exact ⟨hst, ⟨R, C, A, lk, U, S, hS, h⟩, by clear h hI hr e4 e5; omega, by clear h hI hr e2 e3; omega⟩
end LAWI
