-- THE WAY: row by row, there and back
def gm_wy (C k : Int) : Int := k / C * C + (if k / C % 2 = 0 then k % C else C - 1 - k % C)
theorem gm_wy_eq {C k : Int} (hC : 0 < C) : ∃ c', 0 ≤ c' ∧ c' < C ∧ gm_wy C k = k / C * C + c' ∧ (k / C % 2 = 0 → c' = k % C) ∧ (k / C % 2 ≠ 0 → c' = C - 1 - k % C) := by
  have h1 := Int.emod_nonneg k (show C ≠ 0 by omega)
  have h2 := Int.emod_lt_of_pos k hC
  unfold gm_wy
  by_cases h : k / C % 2 = 0
  · exact ⟨k % C, h1, h2, by rw [if_pos h], fun _ => rfl, fun w => absurd h w⟩
  · exact ⟨C - 1 - k % C, by omega, by omega, by rw [if_neg h], fun w => absurd w h, fun _ => rfl⟩
theorem gm_dm {C r c : Int} (hC : 0 < C) (h0 : 0 ≤ c) (h1 : c < C) : (r * C + c) / C = r ∧ (r * C + c) % C = c := by
  constructor
  · rw [Int.add_comm, Int.add_mul_ediv_right _ _ (by omega), Int.ediv_eq_zero_of_lt h0 h1]; omega
  · rw [Int.add_comm, Int.add_mul_emod_self_right, Int.emod_eq_of_lt h0 h1]
theorem gm_wy_div {C k : Int} (hC : 0 < C) : gm_wy C k / C = k / C := by
  obtain ⟨c', h0, h1, e, -⟩ := gm_wy_eq (k := k) hC
  rw [e]; exact (gm_dm hC h0 h1).1
theorem gm_wy_wy {C k : Int} (hC : 0 < C) : gm_wy C (gm_wy C k) = k := by
  obtain ⟨c', h0, h1, e, e1, e2⟩ := gm_wy_eq (k := k) hC
  obtain ⟨d', g0, g1, f, f1, f2⟩ := gm_wy_eq (k := gm_wy C k) hC
  rw [f]
  have hd := gm_wy_div (k := k) hC
  have hm : gm_wy C k % C = c' := by rw [e]; exact (gm_dm hC h0 h1).2
  rw [hd] at f1 f2 ⊢
  rw [hm] at f1 f2
  have hk := Int.mul_ediv_add_emod k C
  rw [Int.mul_comm] at hk
  by_cases h : k / C % 2 = 0
  · have := e1 h; have := f1 h; omega
  · have := e2 h; have := f2 h; omega
/-- rows, columns, pits -/
def gm_g (R C A : Int) : Prop := ((R = 2 ∧ A = 2 * C) ∨ (R = 4 ∧ A = 4 * C)) ∧ 1 ≤ C ∧ C ≤ 8
theorem gm_g.A {R C A : Int} (h : gm_g R C A) : 2 ≤ A ∧ A ≤ 32 := by obtain ⟨h, h1, h2⟩ := h; omega
theorem mg.g {I : am_I} {R C A : Int} (h : mg I R C A) : gm_g R C A := ⟨h.2.2.1, h.2.2.2.1, h.2.2.2.2⟩
theorem gm_wy_b {R C A k : Int} (h : gm_g R C A) (h0 : 0 ≤ k) (h1 : k < A) : 0 ≤ gm_wy C k ∧ gm_wy C k < A ∧ (2 * gm_wy C k < A ↔ 2 * k < A) := by
  obtain ⟨hR, c1, c8⟩ := h
  have hC : 0 < C := by omega
  obtain ⟨c', g0, g1, e, -⟩ := gm_wy_eq (k := k) hC
  have hk := Int.mul_ediv_add_emod k C
  rw [Int.mul_comm] at hk
  have hm0 := Int.emod_nonneg k (show C ≠ 0 by omega)
  have hm1 := Int.emod_lt_of_pos k hC
  have hd0 : 0 ≤ k / C := Int.ediv_nonneg h0 (by omega)
  rw [e]
  have hd1 : k / C < R := by
    rw [Int.ediv_lt_iff_lt_mul hC]
    rcases hR with ⟨rfl, rfl⟩ | ⟨rfl, rfl⟩ <;> omega
  have hc : k / C = 0 ∨ k / C = 1 ∨ k / C = 2 ∨ k / C = 3 := by omega
  rcases hR with ⟨rfl, rfl⟩ | ⟨rfl, rfl⟩ <;> rcases hc with h | h | h | h <;> rw [h] at hk hd1 ⊢ <;> omega
theorem gm_wy_sd {R C A k : Int} (h : gm_g R C A) (h0 : 0 ≤ k) (h1 : k < A) : gm_sd A (gm_wy C k) = gm_sd A k := by
  have := (gm_wy_b h h0 h1).2.2
  unfold gm_sd
  by_cases hh : 2 * k < A
  · rw [if_pos hh, if_pos (this.mpr hh)]
  · rw [if_neg hh, if_neg (fun w => hh (this.mp w))]
theorem gm_wy_inj {C j k : Int} (hC : 0 < C) (h : gm_wy C j = gm_wy C k) : j = k := by
  rw [← gm_wy_wy (k := j) hC, h, gm_wy_wy hC]
/-- a pit that may be sown: it doesn't lack, and it is own's, if own is a side -/
def gm_ok (A : Int) (lk : Int → Int) (own q : Int) : Prop := lk q = 0 ∧ (0 ≤ own → gm_sd A q = own)
def gm_okd (A : Int) (lk : Int → Int) (own q : Int) : Bool := decide (lk q = 0) && (decide (own < 0) || decide (gm_sd A q = own))
theorem gm_okd_iff (A : Int) (lk : Int → Int) (own q : Int) : gm_okd A lk own q = true ↔ gm_ok A lk own q := by
  unfold gm_okd gm_ok
  simp only [Bool.and_eq_true, Bool.or_eq_true, decide_eq_true_eq]
  constructor
  · rintro ⟨h1, h2⟩
    exact ⟨h1, fun h => h2.resolve_left (by omega)⟩
  · rintro ⟨h1, h2⟩
    refine ⟨h1, ?_⟩
    by_cases h : own < 0
    · exact Or.inl h
    · exact Or.inr (h2 (by omega))
/-- the next pit along the way (st = 1) or back (st = -1) that may be sown; k is a place on the way -/
def gm_be (A C : Int) (lk : Int → Int) (st own : Int) : Nat → Int → Int
  | 0, k => gm_wy C k
  | f + 1, k => if gm_okd A lk own (gm_wy C ((k + st + A) % A)) then gm_wy C ((k + st + A) % A) else gm_be A C lk st own f ((k + st + A) % A)
def gm_at (A C k st : Int) (i : Nat) : Int := gm_wy C ((k + st * ((i : Int) + 1)) % A)
theorem gm_at_0 (A C k st : Int) : gm_at A C k st 0 = gm_wy C ((k + st + A) % A) := by
  unfold gm_at
  rw [Int.add_emod_right]; simp
theorem gm_at_s (A C k st : Int) (i : Nat) : gm_at A C ((k + st + A) % A) st i = gm_at A C k st (i + 1) := by
  unfold gm_at
  rw [Int.add_emod_right, Int.emod_add_emod]
  congr 2
  rw [Int.natCast_add, Int.mul_add st ((i : Int) + ((1 : Nat) : Int)) 1, Int.mul_add, Int.mul_add]
  omega
theorem gm_be_at {A C : Int} {lk : Int → Int} {st own : Int} : ∀ (i d : Nat) (k : Int), i < d → gm_ok A lk own (gm_at A C k st i) → (∀ j, j < i → ¬ gm_ok A lk own (gm_at A C k st j)) → gm_be A C lk st own d k = gm_at A C k st i
  | _, 0, _, h, _, _ => by omega
  | 0, d + 1, k, _, h1, _ => by
    unfold gm_be
    rw [gm_at_0] at h1 ⊢
    rw [if_pos ((gm_okd_iff _ _ _ _).mpr h1)]
  | i + 1, d + 1, k, h, h1, h2 => by
    have h3 := h2 0 (by omega)
    rw [gm_at_0] at h3
    unfold gm_be
    rw [if_neg (fun w => h3 ((gm_okd_iff _ _ _ _).mp w))]
    rw [gm_be_at i d _ (by omega) (by rw [gm_at_s]; exact h1) (fun j hj => by rw [gm_at_s]; exact h2 (j + 1) (by omega)), gm_at_s]
/-- the first such, if there is one -/
theorem gm_first {P : Nat → Prop} : ∀ n, P n → ∃ i, i ≤ n ∧ P i ∧ ∀ j, j < i → ¬ P j := by
  intro n
  induction n using Nat.strongRecOn with
  | ind n ih =>
    intro h
    by_cases hh : ∃ j, j < n ∧ P j
    · obtain ⟨j, hj, hp⟩ := hh
      obtain ⟨i, h1, h2, h3⟩ := ih j hj hp
      exact ⟨i, by omega, h2, h3⟩
    · exact ⟨n, Nat.le_refl _, h, fun j hj hp => hh ⟨j, hj, hp⟩⟩
/-- every place of the way is come to -/
theorem gm_reach {A k st j : Int} (hA : 0 < A) (hst : st = 1 ∨ st = -1) (h0 : 0 ≤ j) (h1 : j < A) : ∃ i : Nat, (i : Int) < A ∧ (k + st * ((i : Int) + 1)) % A = j := by
  rcases hst with rfl | rfl
  · refine ⟨((j - k - 1) % A).toNat, ?_, ?_⟩
    · have := Int.emod_lt_of_pos (j - k - 1) hA; have := Int.emod_nonneg (j - k - 1) (show A ≠ 0 by omega); omega
    · have := Int.emod_nonneg (j - k - 1) (show A ≠ 0 by omega)
      rw [show (((j - k - 1) % A).toNat : Int) = (j - k - 1) % A by omega]
      rw [show k + 1 * ((j - k - 1) % A + 1) = (k + 1) + (j - k - 1) % A by omega, Int.add_emod_emod, show k + 1 + (j - k - 1) = j by omega, Int.emod_eq_of_lt h0 h1]
  · refine ⟨((k - j - 1) % A).toNat, ?_, ?_⟩
    · have := Int.emod_lt_of_pos (k - j - 1) hA; have := Int.emod_nonneg (k - j - 1) (show A ≠ 0 by omega); omega
    · have := Int.emod_nonneg (k - j - 1) (show A ≠ 0 by omega)
      rw [show (((k - j - 1) % A).toNat : Int) = (k - j - 1) % A by omega]
      have e : k + -1 * ((k - j - 1) % A + 1) = k - 1 - (k - j - 1) % A := by omega
      rw [e, Int.sub_emod, Int.emod_emod, ← Int.sub_emod, show k - 1 - (k - j - 1) = j by omega, Int.emod_eq_of_lt h0 h1]
theorem gm_find {A C k st own : Int} {lk : Int → Int} (hA : 0 < A) (hst : st = 1 ∨ st = -1) (hex : ∃ j, 0 ≤ j ∧ j < A ∧ gm_ok A lk own (gm_wy C j)) : ∃ i : Nat, (i : Int) < A ∧ gm_ok A lk own (gm_at A C k st i) ∧ ∀ j, j < i → ¬ gm_ok A lk own (gm_at A C k st j) := by
  obtain ⟨j, h0, h1, h2⟩ := hex
  obtain ⟨n, hn, e⟩ := gm_reach (k := k) hA hst h0 h1
  obtain ⟨i, hi, hp, hf⟩ := gm_first (P := fun i => gm_ok A lk own (gm_at A C k st i)) n (by unfold gm_at; rw [e]; exact h2)
  exact ⟨i, by omega, hp, hf⟩
