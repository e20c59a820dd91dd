-- THE MODEL: geometry, sums
def gm_sd (A p : Int) : Int := if 2 * p < A then 0 else 1
theorem gm_sd_01 (A p : Int) : gm_sd A p = 0 ∨ gm_sd A p = 1 := by unfold gm_sd; by_cases h : 2 * p < A <;> simp [h]
/-- the model's geometry -/
def mg (I : am_I) (R C A : Int) : Prop := I 85 0 = R ∧ I 85 1 = C ∧ ((R = 2 ∧ A = 2 * C) ∨ (R = 4 ∧ A = 4 * C)) ∧ 1 ≤ C ∧ C ≤ 8
theorem mg.A {I : am_I} {R C A : Int} (h : mg I R C A) : 2 ≤ A ∧ A ≤ 32 := by
  obtain ⟨-, -, h, h1, h2⟩ := h; omega
theorem mg.kept {I J : am_I} {R C A : Int} (h : mg I R C A) (h0 : J 85 0 = I 85 0) (h1 : J 85 1 = I 85 1) : mg J R C A := by
  obtain ⟨a, b, c⟩ := h
  exact ⟨h0.trans a, h1.trans b, c⟩
section MOD
variable {N : Nat} {K : am_K} {F : am_F} {I : am_I} {R C A : Int}
theorem m_all (h : mg I R C A) : X12_all N K F I 85 = some A := by
  have hA := h.A
  obtain ⟨h0, h1, h2, h3, h4⟩ := h
  unfold X12_all
  rw [h0, h1]
  have e : R * C = A := by rcases h2 with ⟨rfl, rfl⟩ | ⟨rfl, rfl⟩ <;> rfl
  rw [e, if_pos (show am_inI A from ⟨by omega, by omega⟩)]
theorem m_sideOf (h : mg I R C A) {p : Int} (h0 : 0 ≤ p) (h1 : p ≤ 1000) : X12_sideOf N K F I 85 p = some (gm_sd A p) := by
  have hA := h.A
  obtain ⟨g0, g1, h2, h3, h4⟩ := h
  unfold X12_sideOf X12_sideOf_b20 gm_sd
  rw [g0, g1, if_pos (by omega), if_pos (by omega)]
  rw [nb_idiv ⟨by omega, by omega⟩ ⟨by omega, by omega⟩ h0 (by omega), nb_idiv (x := R) ⟨by omega, by omega⟩ (by decide) (by omega) (by decide)]
  have e : p / C < R / 2 ↔ 2 * p < A := by
    rw [Int.ediv_lt_iff_lt_mul (by omega)]
    rcases h2 with ⟨rfl, rfl⟩ | ⟨rfl, rfl⟩
    · show p < 1 * C ↔ _; omega
    · show p < 2 * C ↔ _; omega
  by_cases h : 2 * p < A
  · rw [if_pos (e.mpr h), if_pos h]
  · rw [if_neg (fun w => h (e.mp w)), if_neg h]
theorem nb_in {x : Int} (h : -2147483648 ≤ x ∧ x ≤ 2147483647) : am_inI x := h
theorem nb_cle (x y : Int) : am_cmp x y ≤ 0 ↔ x ≤ y := by
  unfold am_cmp
  by_cases h1 : y < x
  · rw [if_pos h1]; omega
  · rw [if_neg h1]
    by_cases h2 : x = y
    · rw [if_pos h2]; omega
    · rw [if_neg h2]; omega
theorem nb_cge (x y : Int) : 0 ≤ am_cmp x y ↔ y ≤ x := by
  unfold am_cmp
  by_cases h1 : y < x
  · rw [if_pos h1]; omega
  · rw [if_neg h1]
    by_cases h2 : x = y
    · rw [if_pos h2]; omega
    · rw [if_neg h2]; omega
theorem nb_clt (x y : Int) : am_cmp x y < 0 ↔ x < y := by
  have := nb_cge x y; omega
theorem nb_cgt (x y : Int) : 0 < am_cmp x y ↔ y < x := by
  have := nb_cle x y; omega
theorem nb_ceq (x y : Int) : am_cmp x y = 0 ↔ x = y := by
  have := nb_cle x y; have := nb_cge x y; omega
theorem m_isIn (x y z : Int) : X12_isIn N K F I x y z = some (if y ≤ x ∧ x ≤ z then 1 else 0) := by
  unfold X12_isIn X12_isIn_b17 X12_isIn_b18
  simp only [nb_cge, nb_cle]
  by_cases h1 : y ≤ x
  · by_cases h2 : x ≤ z
    · simp [h1, h2]
    · simp [h1, h2]
  · simp [h1]
/-- a row of counts of seeds -/
def gm_bd (A : Int) (g : Int → Int) : Prop := ∀ p, 0 ≤ p → p < A → 0 ≤ g p ∧ g p ≤ 600000
theorem m_seedsOf (h : mg I R C A) {a1 : Nat} (hk : K a1 = (100, 32)) (hb : gm_bd A (I a1)) (hN : 33 < N) : X12_seedsOf N K F I 85 a1 = some (gm_sm (I a1) A.toNat) := by
  have hA := h.A
  unfold X12_seedsOf
  refine am_acc (fun f s x => X12_seedsOf_h4 N K F I 85 f a1 s x) A (I a1) 600000 some (by omega) (fun x a b => hb x a b) ?_ ?_ N (by omega)
  · intro f s x hx hxn h1 h2
    obtain ⟨p, q⟩ := hb x hx hxn
    show X12_seedsOf_s4 N K F I 85 (X12_seedsOf_h4 N K F I 85 f) a1 s x = X12_seedsOf_h4 N K F I 85 f a1 _ _
    generalize X12_seedsOf_h4 N K F I 85 f = k
    unfold X12_seedsOf_s4
    simp only [m_all h, am_cq_s, am_lt, hk]
    rw [if_pos hxn, if_pos trivial, if_pos (by omega), if_pos (nb_in (by omega)), if_pos (nb_in (by omega))]
  · intro f s h1 h2
    show X12_seedsOf_s4 N K F I 85 _ a1 s A = _
    unfold X12_seedsOf_s4
    simp only [m_all h, am_cq_s]
    rw [if_neg (by omega)]
def gm_lv (g : Int → Int) : Int → Int := fun p => if g p = 0 then 1 else 0
theorem gm_lv_01 (g : Int → Int) (p : Int) : 0 ≤ gm_lv g p ∧ gm_lv g p ≤ 1 := by unfold gm_lv; by_cases h : g p = 0 <;> simp [h]
theorem m_there (hm : mw K F) (h : mg I R C A) (hN : 33 < N) : X12_there N K F I 85 = some (gm_sm (gm_lv (I 86)) A.toNat) := by
  have hA := h.A
  unfold X12_there
  refine am_acc (fun f s x => X12_there_h4 N K F I 85 f s x) A (gm_lv (I 86)) 1 some (by omega) (fun x a b => gm_lv_01 _ _) ?_ ?_ N (by omega)
  · intro f s x hx hxn h1 h2
    show X12_there_s4 N K F I 85 (X12_there_h4 N K F I 85 f) s x = X12_there_h4 N K F I 85 f _ _
    generalize X12_there_h4 N K F I 85 f = k
    unfold X12_there_s4 X12_there_b27 gm_lv
    simp only [m_all h, am_cq_s, am_lt, mwF_85_2 hm, mwK_86 hm]
    rw [if_pos hxn, if_pos trivial, if_pos (by omega)]
    by_cases h5 : I 86 x = 0
    · rw [if_pos h5, if_pos h5, if_pos (nb_in (by omega)), if_pos (nb_in (by omega))]
    · rw [if_neg h5, if_neg h5, if_pos (nb_in (by omega)), if_pos (nb_in (by omega))]
  · intro f s h1 h2
    show X12_there_s4 N K F I 85 _ s A = _
    unfold X12_there_s4
    simp only [m_all h, am_cq_s]
    rw [if_neg (by omega)]
def gm_lvs (A : Int) (g : Int → Int) (s : Int) : Int → Int := fun p => if g p = 0 ∧ gm_sd A p = s then 1 else 0
theorem gm_lvs_01 (A : Int) (g : Int → Int) (s p : Int) : 0 ≤ gm_lvs A g s p ∧ gm_lvs A g s p ≤ 1 := by unfold gm_lvs; by_cases h : g p = 0 ∧ gm_sd A p = s <;> simp [h]
theorem m_sidePits (hm : mw K F) (h : mg I R C A) (hN : 33 < N) (sd : Int) : X12_sidePits N K F I 85 sd = some (gm_sm (gm_lvs A (I 86) sd) A.toNat) := by
  have hA := h.A
  unfold X12_sidePits
  refine am_acc (fun f s x => X12_sidePits_h4 N K F I 85 f sd s x) A (gm_lvs A (I 86) sd) 1 some (by omega) (fun x a b => gm_lvs_01 _ _ _ _) ?_ ?_ N (by omega)
  · intro f s x hx hxn h1 h2
    show X12_sidePits_s4 N K F I 85 (X12_sidePits_h4 N K F I 85 f) sd s x = X12_sidePits_h4 N K F I 85 f _ _ _
    generalize X12_sidePits_h4 N K F I 85 f = k
    unfold X12_sidePits_s4 X12_sidePits_b35 X12_sidePits_b36 gm_lvs
    simp only [m_all h, m_sideOf h hx (by omega : x ≤ 1000), am_cq_s, am_lt, mwF_85_2 hm, mwK_86 hm]
    rw [if_pos hxn, if_pos trivial, if_pos (by omega)]
    by_cases h5 : I 86 x = 0
    · by_cases h6 : gm_sd A x = sd
      · rw [if_pos h5, if_pos h6, if_pos (show I 86 x = 0 ∧ gm_sd A x = sd from ⟨h5, h6⟩), if_pos (nb_in (by omega)), if_pos (nb_in (by omega))]
      · rw [if_pos h5, if_neg h6, if_neg (show ¬ (I 86 x = 0 ∧ gm_sd A x = sd) from fun w => h6 w.2), if_pos (nb_in (by omega)), if_pos (nb_in (by omega))]
    · rw [if_neg h5, if_neg (show ¬ (I 86 x = 0 ∧ gm_sd A x = sd) from fun w => h5 w.1), if_pos (nb_in (by omega)), if_pos (nb_in (by omega))]
  · intro f s h1 h2
    show X12_sidePits_s4 N K F I 85 _ sd s A = _
    unfold X12_sidePits_s4
    simp only [m_all h, am_cq_s]
    rw [if_neg (by omega)]
/-- what a pit counts for who, at the end -/
def gm_ct (A e : Int) (g : Int → Int) (mover who : Int) : Int → Int := fun p => if (e = 0 ∧ gm_sd A p = who) ∨ (e = 1 ∧ who ≠ mover) then g p else 0
theorem m_counts (hm : mw K F) (h : mg I R C A) (hN : 33 < N) {a1 : Nat} (hk : K a1 = (100, 32)) (hb : gm_bd A (I a1)) (mover who : Int) : X12_counts N K F I 85 a1 mover who = some (gm_sm (gm_ct A (I 85 12) (I a1) mover who) A.toNat) := by
  have hA := h.A
  unfold X12_counts
  refine am_acc (fun f s x => X12_counts_h6 N K F I 85 f a1 mover who s x) A (gm_ct A (I 85 12) (I a1) mover who) 600000 some (by omega) (fun x a b => by have := hb x a b; unfold gm_ct; split <;> omega) ?_ ?_ N (by omega)
  · intro f s x hx hxn h1 h2
    obtain ⟨p, q⟩ := hb x hx hxn
    show X12_counts_s6 N K F I 85 (X12_counts_h6 N K F I 85 f) a1 mover who s x = X12_counts_h6 N K F I 85 f _ _ _ _ _
    generalize X12_counts_h6 N K F I 85 f = k
    unfold X12_counts_s6 X12_counts_b34 X12_counts_b47 X12_counts_b54 X12_counts_b55 gm_ct
    simp only [m_all h, m_sideOf h hx (by omega : x ≤ 1000), am_cq_s, am_lt, hk]
    have e1 : am_inI (s + I a1 x) := nb_in (by omega)
    have e2 : am_inI (s + 0) := nb_in (by omega)
    have e3 : am_inI (x + 1) := nb_in (by omega)
    have e4 : 0 ≤ x ∧ x < 32 := by omega
    rw [if_pos hxn]
    by_cases h5 : I 85 12 = 0
    · by_cases h6 : gm_sd A x = who
      · rw [if_pos h5, if_pos h6, if_pos trivial, if_pos e4, if_pos e1, if_pos e3, if_pos (Or.inl ⟨h5, h6⟩)]
      · rw [if_pos h5, if_neg h6, if_neg (by omega), if_pos e2, if_pos e3, if_neg (by omega)]
    · rw [if_neg h5]
      by_cases h7 : I 85 12 = 1
      · by_cases h8 : who = mover
        · rw [if_pos h7, if_pos h8, if_pos e2, if_pos e3, if_neg (by omega)]
        · rw [if_pos h7, if_neg h8, if_pos trivial, if_pos e4, if_pos e1, if_pos e3, if_pos (Or.inr ⟨h7, h8⟩)]
      · rw [if_neg h7, if_pos e2, if_pos e3, if_neg (by omega)]
  · intro f s h1 h2
    show X12_counts_s6 N K F I 85 _ a1 mover who s A = _
    unfold X12_counts_s6
    simp only [m_all h, am_cq_s]
    rw [if_neg (by omega)]
theorem m_isOwn (hm : mw K F) (h : mg I R C A) {a1 : Nat} (hk : K a1 = (100, 32)) (who : Int) {p : Int} (h0 : 0 ≤ p) (h1 : p < A) : X12_isOwn N K F I 85 a1 who p = some (if gm_sd A p = who ∧ I 86 p = 0 ∧ I 85 10 ≤ I a1 p then 1 else 0) := by
  have hA := h.A
  unfold X12_isOwn X12_isOwn_b32 X12_isOwn_b33
  simp only [m_sideOf h h0 (by omega : p ≤ 1000), am_cq_s, mwF_85_2 hm, mwK_86 hm, hk]
  have e4 : 0 ≤ p ∧ p < 32 := by omega
  by_cases h5 : gm_sd A p = who
  · by_cases h6 : I 86 p = 0
    · by_cases h7 : I 85 10 ≤ I a1 p
      · simp [h5, h6, h7, e4]
      · simp [h5, h6, h7, e4]
    · simp [h5, h6, e4]
  · simp [h5]
/-- whether the other side has seeds -/
def gm_fed (A : Int) (g : Int → Int) (who : Int) : Nat → Int
  | 0 => 0
  | d + 1 => if gm_fed A g who d = 0 then (if gm_sd A (d : Int) ≠ who ∧ 0 < g (d : Int) then 1 else 0) else 1
theorem gm_fed_01 (A : Int) (g : Int → Int) (who : Int) (d : Nat) : gm_fed A g who d = 0 ∨ gm_fed A g who d = 1 := by
  induction d with
  | zero => exact Or.inl rfl
  | succ d ih => unfold gm_fed; split <;> (try split) <;> simp
theorem m_isFed (hm : mw K F) (h : mg I R C A) (hN : 33 < N) (who : Int) : X12_isFed N K F I 85 who = some (gm_fed A (I 91) who A.toNat) := by
  have hA := h.A
  unfold X12_isFed
  have hl := am_for (fun f s x => X12_isFed_h4 N K F I 85 f who s x) A (fun x s => if s = 0 then (if gm_sd A x ≠ who ∧ 0 < I 91 x then 1 else 0) else 1) (fun x s => 0 ≤ x ∧ x ≤ A ∧ (s = 0 ∨ s = 1)) (fun _ s => some s) ?_ ?_ A.toNat N 0 0 (by omega) (by omega) ⟨by omega, by omega, Or.inl rfl⟩
  · rw [hl.1]
    congr 1
    have : ∀ d : Nat, am_fr (fun x s => if s = 0 then (if gm_sd A x ≠ who ∧ 0 < I 91 x then 1 else 0) else 1) d 0 0 = gm_fed A (I 91) who d := by
      intro d
      induction d with
      | zero => rfl
      | succ d ih => rw [am_fr_last, ih, Int.zero_add]; rfl
    exact this _
  · intro f s x hxn hi
    obtain ⟨hx, hx2, hs⟩ := hi
    refine ⟨?_, by omega, by omega, by split <;> (try split) <;> simp⟩
    show X12_isFed_s4 N K F I 85 (X12_isFed_h4 N K F I 85 f) who s x = X12_isFed_h4 N K F I 85 f _ _ _
    generalize X12_isFed_h4 N K F I 85 f = k
    unfold X12_isFed_s4 X12_isFed_b34 X12_isFed_b38 X12_isFed_b39
    simp only [m_all h, m_sideOf h hx (by omega : x ≤ 1000), am_cq_s, am_lt, mwF_85_16 hm, mwK_91 hm]
    have e3 : am_inI (x + 1) := nb_in (by omega)
    have e4 : 0 ≤ x ∧ x < 32 := by omega
    rw [if_pos hxn]
    rcases hs with rfl | rfl
    · rw [if_pos (show (0 : Int) = 0 from rfl), if_pos (show (0 : Int) = 0 from rfl)]
      by_cases h5 : gm_sd A x = who
      · rw [if_pos h5, if_pos e3, if_neg (show ¬ (gm_sd A x ≠ who ∧ 0 < I 91 x) from fun w => w.1 h5)]
      · rw [if_neg h5, if_pos trivial, if_pos e4]
        by_cases h6 : 0 < I 91 x
        · rw [if_pos h6, if_pos e3, if_pos (show gm_sd A x ≠ who ∧ 0 < I 91 x from ⟨h5, h6⟩)]
        · rw [if_neg h6, if_pos e3, if_neg (show ¬ (gm_sd A x ≠ who ∧ 0 < I 91 x) from fun w => h6 w.2)]
    · rw [if_neg (show ¬ (1 : Int) = 0 by decide), if_neg (show ¬ (1 : Int) = 0 by decide), if_pos e3]
  · intro f s x hxn hi
    obtain ⟨hx, hx2, hs⟩ := hi
    show X12_isFed_s4 N K F I 85 _ who s x = _
    unfold X12_isFed_s4
    simp only [m_all h, am_cq_s]
    rw [if_neg hxn, if_pos hs]
end MOD
