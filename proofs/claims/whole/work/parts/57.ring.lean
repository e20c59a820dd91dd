-- RINGS: the live pits along the way
/-- the live places of the way ahead of k -/
def gm_rk (C : Int) (lk : Int → Int) (k : Nat) : Int := gm_sm (fun i => gm_lv lk (gm_wy C i)) k
theorem gm_rk_s (C : Int) (lk : Int → Int) (k : Nat) : gm_rk C lk (k + 1) = gm_rk C lk k + gm_lv lk (gm_wy C (k : Int)) := rfl
theorem gm_rk_live {C : Int} {lk : Int → Int} {k : Nat} (h : lk (gm_wy C (k : Int)) = 0) : gm_rk C lk (k + 1) = gm_rk C lk k + 1 := by
  rw [gm_rk_s]; unfold gm_lv; rw [if_pos h]
theorem gm_rk_dead {C : Int} {lk : Int → Int} {k : Nat} (h : lk (gm_wy C (k : Int)) ≠ 0) : gm_rk C lk (k + 1) = gm_rk C lk k := by
  rw [gm_rk_s]; unfold gm_lv; rw [if_neg h]; omega
theorem gm_rk_run {C : Int} {lk : Int → Int} {a : Nat} : ∀ d : Nat, (∀ i : Nat, a ≤ i → i < a + d → lk (gm_wy C (i : Int)) ≠ 0) → gm_rk C lk (a + d) = gm_rk C lk a := by
  intro d
  induction d with
  | zero => intro _; rfl
  | succ d ih =>
    intro h
    rw [show a + (d + 1) = (a + d) + 1 by omega, gm_rk_dead (h _ (by omega) (by omega)), ih (fun i x y => h i x (by omega))]
theorem gm_rk_mono {C : Int} {lk : Int → Int} {a : Nat} (d : Nat) : gm_rk C lk a ≤ gm_rk C lk (a + d) := by
  induction d with
  | zero => exact Int.le_refl _
  | succ d ih =>
    rw [show a + (d + 1) = (a + d) + 1 by omega, gm_rk_s]
    have := gm_lv_01 lk (gm_wy C ((a + d : Nat) : Int))
    omega
theorem gm_rk_le {C : Int} {lk : Int → Int} {a b : Nat} (h : a ≤ b) : gm_rk C lk a ≤ gm_rk C lk b := by
  obtain ⟨d, rfl⟩ : ∃ d, b = a + d := ⟨b - a, by omega⟩
  exact gm_rk_mono d
theorem gm_rk_lt {C : Int} {lk : Int → Int} {a b : Nat} (h : a < b) (hl : lk (gm_wy C (a : Int)) = 0) : gm_rk C lk a + 1 ≤ gm_rk C lk b := by
  rw [← gm_rk_live hl]; exact gm_rk_le (by omega)
theorem gm_rk_inj {C : Int} {lk : Int → Int} {a b : Nat} (ha : lk (gm_wy C (a : Int)) = 0) (hb : lk (gm_wy C (b : Int)) = 0) (h : gm_rk C lk a = gm_rk C lk b) : a = b := by
  by_cases h1 : a < b
  · have := gm_rk_lt h1 ha; omega
  · by_cases h2 : b < a
    · have := gm_rk_lt h2 hb; omega
    · omega
theorem gm_rk_nn (C : Int) (lk : Int → Int) (a : Nat) : 0 ≤ gm_rk C lk a := by
  have := gm_rk_le (C := C) (lk := lk) (a := 0) (b := a) (by omega)
  exact this
theorem gm_rk_sur {C : Int} {lk : Int → Int} : ∀ (n : Nat) (i : Int), 0 ≤ i → i < gm_rk C lk n → ∃ k : Nat, k < n ∧ lk (gm_wy C (k : Int)) = 0 ∧ gm_rk C lk k = i := by
  intro n
  induction n with
  | zero => intro i h0 h1; have : gm_rk C lk 0 = 0 := rfl; omega
  | succ n ih =>
    intro i h0 h1
    by_cases h : lk (gm_wy C (n : Int)) = 0
    · rw [gm_rk_live h] at h1
      by_cases e : i < gm_rk C lk n
      · obtain ⟨k, k1, k2, k3⟩ := ih i h0 e
        exact ⟨k, by omega, k2, k3⟩
      · exact ⟨n, by omega, h, by omega⟩
    · rw [gm_rk_dead h] at h1
      obtain ⟨k, k1, k2, k3⟩ := ih i h0 h1
      exact ⟨k, by omega, k2, k3⟩
/-- a list of the live pits along the way -/
def gm_isW (A C : Int) (lk W : Int → Int) : Prop := ∀ k : Nat, (k : Int) < A → lk (gm_wy C (k : Int)) = 0 → W (gm_rk C lk k) = gm_wy C (k : Int)
/-- the place of a pit on the way -/
theorem gm_pl {R C A p : Int} (hg : gm_g R C A) (h0 : 0 ≤ p) (h1 : p < A) : ∃ k : Nat, (k : Int) < A ∧ gm_wy C (k : Int) = p ∧ gm_wy C p = (k : Int) := by
  obtain ⟨w0, w1, -⟩ := gm_wy_b hg h0 h1
  have hC : 0 < C := by have := hg.2; omega
  refine ⟨(gm_wy C p).toNat, by omega, ?_, by omega⟩
  rw [show (((gm_wy C p).toNat : Nat) : Int) = gm_wy C p by omega, gm_wy_wy hC]
/-- own's places: all of them, or a half -/
def gm_lo (A own : Int) : Nat := if own = 1 then (A / 2).toNat else 0
def gm_hi (A own : Int) : Nat := if own = 0 then (A / 2).toNat else A.toNat
theorem gm_ok_pl {R C A : Int} (hg : gm_g R C A) {lk : Int → Int} {own : Int} (ho : own = -1 ∨ own = 0 ∨ own = 1) {k : Nat} (hk : (k : Int) < A) : gm_ok A lk own (gm_wy C (k : Int)) ↔ (lk (gm_wy C (k : Int)) = 0 ∧ gm_lo A own ≤ k ∧ k < gm_hi A own) := by
  have hh := gm_half hg
  have hs := gm_wy_sd hg (k := (k : Int)) (by omega) hk
  unfold gm_ok gm_lo gm_hi
  rw [hs]
  unfold gm_sd
  rcases ho with rfl | rfl | rfl
  · simp; omega
  · by_cases h : 2 * (k : Int) < A
    · simp [h]; omega
    · simp [h]; omega
  · by_cases h : 2 * (k : Int) < A
    · simp [h]; omega
    · simp [h]; omega
theorem gm_lohi {R C A : Int} (hg : gm_g R C A) {own : Int} (ho : own = -1 ∨ own = 0 ∨ own = 1) : gm_lo A own < gm_hi A own ∧ (gm_hi A own : Int) ≤ A := by
  have hh := gm_half hg
  have hA := hg.A
  unfold gm_lo gm_hi
  rcases ho with rfl | rfl | rfl <;> simp <;> omega
/-- the next of a live pit is the next in the list -/
theorem gm_nx_W {R C A : Int} (hg : gm_g R C A) {lk W : Int → Int} (hW : gm_isW A C lk W) {own : Int} (ho : own = -1 ∨ own = 0 ∨ own = 1) {k : Nat} (h1 : gm_lo A own ≤ k) (h2 : k < gm_hi A own) (hl : lk (gm_wy C (k : Int)) = 0) :
    gm_nx A C lk 1 own (gm_wy C (k : Int)) = W (if gm_rk C lk k + 1 < gm_rk C lk (gm_hi A own) then gm_rk C lk k + 1 else gm_rk C lk (gm_lo A own)) := by
  have hA := hg.A
  have hC : 0 < C := by have := hg.2; omega
  obtain ⟨l1, l2⟩ := gm_lohi hg ho
  have hkA : (k : Int) < A := by omega
  have hok : gm_ok A lk own (gm_wy C (k : Int)) := (gm_ok_pl hg ho hkA).mpr ⟨hl, h1, h2⟩
  have hex : gm_ex A C lk own := ⟨(k : Int), by omega, hkA, hok⟩
  obtain ⟨i, i1, i2, i3, e⟩ := gm_nx_at (p := gm_wy C (k : Int)) (st := 1) hg (Or.inl rfl) hex
  rw [e]
  unfold gm_at at i2 i3 ⊢
  rw [gm_wy_wy hC] at i2 i3 ⊢
  by_cases hw : (k : Int) + (i : Int) + 1 < A
  · -- further on
    have em : ((k : Int) + 1 * ((i : Int) + 1)) % A = ((k + i + 1 : Nat) : Int) := by
      rw [show (k : Int) + 1 * ((i : Int) + 1) = ((k + i + 1 : Nat) : Int) by omega]
      exact Int.emod_eq_of_lt (by omega) (by omega)
    rw [em] at i2 ⊢
    obtain ⟨o1, o2, o3⟩ := (gm_ok_pl hg ho (k := k + i + 1) (by omega)).mp i2
    have hrun : gm_rk C lk (k + 1 + i) = gm_rk C lk (k + 1) := gm_rk_run i (fun j a b => by
      have hj := i3 (j - (k + 1)) (by omega)
      rw [show ((k : Int) + 1 * (((j - (k + 1) : Nat) : Int) + 1)) % A = ((j : Nat) : Int) by
        rw [show (k : Int) + 1 * (((j - (k + 1) : Nat) : Int) + 1) = ((j : Nat) : Int) by omega]
        exact Int.emod_eq_of_lt (by omega) (by omega)] at hj
      exact fun w => hj ((gm_ok_pl hg ho (by omega)).mpr ⟨w, by omega, by omega⟩))
    rw [gm_rk_live hl, show k + 1 + i = k + i + 1 by omega] at hrun
    rw [if_pos (by have := gm_rk_lt (b := gm_hi A own) o3 o1; omega), ← hrun, hW (k + i + 1) (by omega) o1]
  · -- around
    have em : ((k : Int) + 1 * ((i : Int) + 1)) % A = ((k + i + 1 - A.toNat : Nat) : Int) := by
      rw [show (k : Int) + 1 * ((i : Int) + 1) = ((k + i + 1 - A.toNat : Nat) : Int) + A by omega, Int.add_emod_right]
      exact Int.emod_eq_of_lt (by omega) (by omega)
    rw [em] at i2 ⊢
    obtain ⟨o1, o2, o3⟩ := (gm_ok_pl hg ho (k := k + i + 1 - A.toNat) (by omega)).mp i2
    have hrun1 : gm_rk C lk (k + 1 + (gm_hi A own - (k + 1))) = gm_rk C lk (k + 1) := gm_rk_run _ (fun j a b => by
      have hj := i3 (j - (k + 1)) (by omega)
      rw [show ((k : Int) + 1 * (((j - (k + 1) : Nat) : Int) + 1)) % A = ((j : Nat) : Int) by
        rw [show (k : Int) + 1 * (((j - (k + 1) : Nat) : Int) + 1) = ((j : Nat) : Int) by omega]
        exact Int.emod_eq_of_lt (by omega) (by omega)] at hj
      exact fun w => hj ((gm_ok_pl hg ho (by omega)).mpr ⟨w, by omega, by omega⟩))
    rw [show k + 1 + (gm_hi A own - (k + 1)) = gm_hi A own by omega, gm_rk_live hl] at hrun1
    have hrun2 : gm_rk C lk (gm_lo A own + (k + i + 1 - A.toNat - gm_lo A own)) = gm_rk C lk (gm_lo A own) := gm_rk_run _ (fun j a b => by
      have hj := i3 (j + A.toNat - (k + 1)) (by omega)
      rw [show ((k : Int) + 1 * (((j + A.toNat - (k + 1) : Nat) : Int) + 1)) % A = ((j : Nat) : Int) by
        rw [show (k : Int) + 1 * (((j + A.toNat - (k + 1) : Nat) : Int) + 1) = ((j : Nat) : Int) + A by omega, Int.add_emod_right]
        exact Int.emod_eq_of_lt (by omega) (by omega)] at hj
      exact fun w => hj ((gm_ok_pl hg ho (by omega)).mpr ⟨w, by omega, by omega⟩))
    rw [show gm_lo A own + (k + i + 1 - A.toNat - gm_lo A own) = k + i + 1 - A.toNat by omega] at hrun2
    rw [if_neg (by omega), ← hrun2, hW (k + i + 1 - A.toNat) (by omega) o1]
/-- and the one ahead of it -/
theorem gm_pv_W {R C A : Int} (hg : gm_g R C A) {lk W : Int → Int} (hW : gm_isW A C lk W) {k : Nat} (h2 : (k : Int) < A) (hl : lk (gm_wy C (k : Int)) = 0) :
    gm_nx A C lk (-1) (-1) (gm_wy C (k : Int)) = W (if 0 < gm_rk C lk k then gm_rk C lk k - 1 else gm_rk C lk A.toNat - 1) := by
  have hA := hg.A
  have hC : 0 < C := by have := hg.2; omega
  have ho : (-1 : Int) = -1 ∨ (-1 : Int) = 0 ∨ (-1 : Int) = 1 := Or.inl rfl
  have hlo : gm_lo A (-1) = 0 := rfl
  have hhi : gm_hi A (-1) = A.toNat := rfl
  have hok : gm_ok A lk (-1) (gm_wy C (k : Int)) := (gm_ok_pl hg ho h2).mpr ⟨hl, by omega, by omega⟩
  have hex : gm_ex A C lk (-1) := ⟨(k : Int), by omega, h2, hok⟩
  obtain ⟨i, i1, i2, i3, e⟩ := gm_nx_at (p := gm_wy C (k : Int)) (st := -1) hg (Or.inr rfl) hex
  rw [e]
  unfold gm_at at i2 i3 ⊢
  rw [gm_wy_wy hC] at i2 i3 ⊢
  by_cases hw : i + 1 ≤ k
  · have em : ((k : Int) + -1 * ((i : Int) + 1)) % A = ((k - (i + 1) : Nat) : Int) := by
      rw [show (k : Int) + -1 * ((i : Int) + 1) = ((k - (i + 1) : Nat) : Int) by omega]
      exact Int.emod_eq_of_lt (by omega) (by omega)
    rw [em] at i2 ⊢
    obtain ⟨o1, -, -⟩ := (gm_ok_pl hg ho (k := k - (i + 1)) (by omega)).mp i2
    have hrun : gm_rk C lk (k - (i + 1) + 1 + i) = gm_rk C lk (k - (i + 1) + 1) := gm_rk_run i (fun j a b => by
      have hj := i3 (k - 1 - j) (by omega)
      rw [show ((k : Int) + -1 * (((k - 1 - j : Nat) : Int) + 1)) % A = ((j : Nat) : Int) by
        rw [show (k : Int) + -1 * (((k - 1 - j : Nat) : Int) + 1) = ((j : Nat) : Int) by omega]
        exact Int.emod_eq_of_lt (by omega) (by omega)] at hj
      exact fun w => hj ((gm_ok_pl hg ho (by omega)).mpr ⟨w, by omega, by omega⟩))
    rw [gm_rk_live o1, show k - (i + 1) + 1 + i = k by omega] at hrun
    have := gm_rk_nn C lk (k - (i + 1))
    rw [if_pos (by omega), hrun, show gm_rk C lk (k - (i + 1)) + 1 - 1 = gm_rk C lk (k - (i + 1)) by omega, hW _ (by omega) o1]
  · have em : ((k : Int) + -1 * ((i : Int) + 1)) % A = ((k + A.toNat - (i + 1) : Nat) : Int) := by
      rw [show (k : Int) + -1 * ((i : Int) + 1) = ((k + A.toNat - (i + 1) : Nat) : Int) + A * (-1) by omega, Int.add_mul_emod_self_left]
      exact Int.emod_eq_of_lt (by omega) (by omega)
    rw [em] at i2 ⊢
    obtain ⟨o1, -, -⟩ := (gm_ok_pl hg ho (k := k + A.toNat - (i + 1)) (by omega)).mp i2
    have hrun1 : gm_rk C lk (0 + k) = gm_rk C lk 0 := gm_rk_run k (fun j a b => by
      have hj := i3 (k - 1 - j) (by omega)
      rw [show ((k : Int) + -1 * (((k - 1 - j : Nat) : Int) + 1)) % A = ((j : Nat) : Int) by
        rw [show (k : Int) + -1 * (((k - 1 - j : Nat) : Int) + 1) = ((j : Nat) : Int) by omega]
        exact Int.emod_eq_of_lt (by omega) (by omega)] at hj
      exact fun w => hj ((gm_ok_pl hg ho (by omega)).mpr ⟨w, by omega, by omega⟩))
    rw [Nat.zero_add, show gm_rk C lk 0 = 0 from rfl] at hrun1
    have hrun2 : gm_rk C lk (k + A.toNat - (i + 1) + 1 + (A.toNat - (k + A.toNat - (i + 1) + 1))) = gm_rk C lk (k + A.toNat - (i + 1) + 1) := gm_rk_run _ (fun j a b => by
      have hj := i3 (k + A.toNat - 1 - j) (by omega)
      rw [show ((k : Int) + -1 * (((k + A.toNat - 1 - j : Nat) : Int) + 1)) % A = ((j : Nat) : Int) by
        rw [show (k : Int) + -1 * (((k + A.toNat - 1 - j : Nat) : Int) + 1) = ((j : Nat) : Int) + A * (-1) by omega, Int.add_mul_emod_self_left]
        exact Int.emod_eq_of_lt (by omega) (by omega)] at hj
      exact fun w => hj ((gm_ok_pl hg ho (by omega)).mpr ⟨w, by omega, by omega⟩))
    rw [gm_rk_live o1, show k + A.toNat - (i + 1) + 1 + (A.toNat - (k + A.toNat - (i + 1) + 1)) = A.toNat by omega] at hrun2
    rw [if_neg (by omega), hrun2, show gm_rk C lk (k + A.toNat - (i + 1)) + 1 - 1 = gm_rk C lk (k + A.toNat - (i + 1)) by omega, hW _ (by omega) o1]
/-- once around -/
theorem gm_ring_itr {nx W : Int → Int} {s e : Int} (hn : ∀ i, s ≤ i → i < e → nx (W i) = W (if i + 1 < e then i + 1 else s)) : ∀ (d : Nat) (i : Int), s ≤ i → i < e → i + d < e → gm_itr nx d (W i) = W (i + d) := by
  intro d
  induction d with
  | zero => intro i _ _ _; simp [gm_itr]
  | succ d ih =>
    intro i h0 h1 h2
    unfold gm_itr
    rw [hn i h0 h1, if_pos (by omega), ih (i + 1) (by omega) (by omega) (by omega)]
    congr 1
    omega
theorem gm_ring_per {nx W : Int → Int} {s e : Int} (hn : ∀ i, s ≤ i → i < e → nx (W i) = W (if i + 1 < e then i + 1 else s)) {i : Int} (h0 : s ≤ i) (h1 : i < e) : gm_itr nx (e - s).toNat (W i) = W i := by
  have e1 : (e - s).toNat = (e - 1 - i).toNat + (1 + (i - s).toNat) := by omega
  rw [e1, gm_itr_add, gm_ring_itr hn _ i h0 h1 (by omega), gm_itr_add]
  have e2 : gm_itr nx 1 (W (i + ((e - 1 - i).toNat : Int))) = W s := by
    show nx (W (i + ((e - 1 - i).toNat : Int))) = W s
    rw [hn _ (by omega) (by omega), if_neg (by omega)]
  rw [e2, gm_ring_itr hn _ s (by omega) (by omega) (by omega)]
  congr 1
  omega
/-- a sum over places, put in another order -/
theorem gm_perm : ∀ (n : Nat) (g s t : Int → Int), (∀ i : Int, 0 ≤ i → i < n → (0 ≤ s i ∧ s i < n) ∧ (0 ≤ t i ∧ t i < n) ∧ s (t i) = i ∧ t (s i) = i) → gm_sm (fun i => g (s i)) n = gm_sm g n := by
  intro n
  induction n with
  | zero => intro g s t _; rfl
  | succ n ih =>
    intro g s t h
    obtain ⟨⟨a0, a1⟩, ⟨b0, b1⟩, c1, c2⟩ := h (n : Int) (by omega) (by omega)
    rw [gm_sm_s, gm_sm_s]
    by_cases hm : s (n : Int) = n
    · rw [hm, ih g s t (fun i i0 i1 => by
        obtain ⟨⟨x0, x1⟩, ⟨y0, y1⟩, z1, z2⟩ := h i i0 (by omega)
        refine ⟨⟨x0, ?_⟩, ⟨y0, ?_⟩, z1, z2⟩
        · have : s i ≠ n := fun w => by
            have : i = n := by
              rw [hm] at c2
              rw [← z2, w]; exact c2
            omega
          omega
        · have : t i ≠ n := fun w => by
            have : i = n := by rw [← z1, w, hm]
            omega
          omega)]
    · -- s n = m < n, t n = j < n
      have hj : t (n : Int) ≠ n := fun w => hm (by rw [w] at c1; exact c1)
      have key := ih g (fun i => if i = t (n : Int) then s (n : Int) else s i) (fun i => if i = s (n : Int) then t (n : Int) else t i) (fun i i0 i1 => by
        obtain ⟨⟨x0, x1⟩, ⟨y0, y1⟩, z1, z2⟩ := h i i0 (by omega)
        refine ⟨?_, ?_, ?_, ?_⟩
        · by_cases e : i = t (n : Int)
          · rw [if_pos e]; omega
          · rw [if_neg e]
            have : s i ≠ n := fun w => e (by rw [← z2, w])
            omega
        · by_cases e : i = s (n : Int)
          · rw [if_pos e]; omega
          · rw [if_neg e]
            have : t i ≠ n := fun w => e (by rw [← z1, w])
            omega
        · by_cases e : i = s (n : Int)
          · rw [if_pos e, if_pos rfl]; exact e.symm
          · rw [if_neg e]
            have : t i ≠ t (n : Int) := fun w => by
              have := congrArg s w
              rw [z1, c1] at this
              omega
            rw [if_neg this]; exact z1
        · by_cases e : i = t (n : Int)
          · rw [if_pos e, if_pos rfl]; exact e.symm
          · rw [if_neg e]
            have : s i ≠ s (n : Int) := fun w => by
              have := congrArg t w
              rw [z2, c2] at this
              omega
            rw [if_neg this]; exact z2)
      have hu : gm_sm (fun i => g ((fun i => if i = t (n : Int) then s (n : Int) else s i) i)) n = gm_sm (fun i => g (s i)) n + (g (s (n : Int)) - g (n : Int)) := by
        have e1 : (fun i => g ((fun i => if i = t (n : Int) then s (n : Int) else s i) i)) = fun i => if i = t (n : Int) then g (s (n : Int)) else (fun i => g (s i)) i := by
          funext i
          dsimp only
          split <;> rfl
        rw [e1, gm_sm_upd, if_pos ⟨b0, by omega⟩, c1]
      rw [hu] at key
      omega
