-- SUMS
def gm_sm (g : Int → Int) : Nat → Int
  | 0 => 0
  | d + 1 => gm_sm g d + g (d : Int)
theorem gm_sm_0 (g : Int → Int) : gm_sm g 0 = 0 := rfl
theorem gm_sm_s (g : Int → Int) (d : Nat) : gm_sm g (d + 1) = gm_sm g d + g (d : Int) := rfl
theorem gm_sm_b {g : Int → Int} {B : Int} {d : Nat} (h : ∀ i : Int, 0 ≤ i → i < d → 0 ≤ g i ∧ g i ≤ B) : 0 ≤ gm_sm g d ∧ gm_sm g d ≤ B * d := by
  induction d with
  | zero => simp [gm_sm]
  | succ d ih =>
    obtain ⟨h1, h2⟩ := ih (fun i h0 h1 => h i h0 (by omega))
    obtain ⟨h3, h4⟩ := h (d : Int) (by omega) (by omega)
    have e : B * ((d + 1 : Nat) : Int) = B * (d : Int) + B := by rw [Int.natCast_add, Int.mul_add]; omega
    rw [gm_sm_s]
    rw [e]
    omega
theorem gm_sm_congr {g g' : Int → Int} {d : Nat} (h : ∀ i : Int, 0 ≤ i → i < d → g i = g' i) : gm_sm g d = gm_sm g' d := by
  induction d with
  | zero => rfl
  | succ d ih =>
    rw [gm_sm_s, gm_sm_s]
    rw [ih (fun i h0 h1 => h i h0 (by omega)), h (d : Int) (by omega) (by omega)]
theorem gm_sm_add (g g' : Int → Int) (d : Nat) : gm_sm (fun i => g i + g' i) d = gm_sm g d + gm_sm g' d := by
  induction d with
  | zero => rfl
  | succ d ih => rw [gm_sm_s, gm_sm_s, gm_sm_s]; rw [ih]; omega
theorem gm_sm_z {g : Int → Int} {d : Nat} (h : ∀ i : Int, 0 ≤ i → i < d → g i = 0) : gm_sm g d = 0 := by
  induction d with
  | zero => rfl
  | succ d ih => rw [gm_sm_s]; rw [ih (fun i h0 h1 => h i h0 (by omega)), h d (by omega) (by omega)]; rfl
/-- one place is changed -/
theorem gm_sm_upd (g : Int → Int) (k v : Int) (d : Nat) : gm_sm (fun i => if i = k then v else g i) d = gm_sm g d + (if 0 ≤ k ∧ k < d then v - g k else 0) := by
  induction d with
  | zero => simp only [gm_sm]; rw [if_neg (by omega)]; rfl
  | succ d ih =>
    rw [gm_sm_s, gm_sm_s]
    rw [ih]
    by_cases h1 : (d : Int) = k
    · subst h1
      rw [if_neg (by omega), if_pos rfl, if_pos (by omega)]
      omega
    · rw [if_neg h1]
      by_cases h2 : 0 ≤ k ∧ k < (d : Int)
      · rw [if_pos h2, if_pos (by omega)]; omega
      · rw [if_neg h2, if_neg (by omega)]; omega
theorem gm_sm_le {g g' : Int → Int} {d : Nat} (h : ∀ i : Int, 0 ≤ i → i < d → g i ≤ g' i) : gm_sm g d ≤ gm_sm g' d := by
  induction d with
  | zero => exact Int.le_refl _
  | succ d ih =>
    rw [gm_sm_s, gm_sm_s]
    have := ih (fun i h0 h1 => h i h0 (by omega))
    have := h (d : Int) (by omega) (by omega)
    omega
theorem gm_sm_get {g : Int → Int} {d : Nat} (h : ∀ i : Int, 0 ≤ i → i < d → 0 ≤ g i) (k : Int) (h0 : 0 ≤ k) (h1 : k < d) : g k ≤ gm_sm g d := by
  induction d with
  | zero => omega
  | succ d ih =>
    rw [gm_sm_s]
    have h2 := h (d : Int) (by omega) (by omega)
    by_cases hk : k = (d : Int)
    · subst hk
      have := (gm_sm_b (g := fun i => g i) (B := gm_sm g d) (d := 0) (fun i a b => by omega))
      have h3 : 0 ≤ gm_sm g d := by
        have := gm_sm_le (g := fun _ => 0) (g' := g) (d := d) (fun i a b => h i a (by omega))
        rw [gm_sm_z (fun _ _ _ => rfl)] at this
        exact this
      omega
    · have := ih (fun i a b => h i a (by omega)) (by omega)
      omega
theorem am_fr_sum (g : Int → Int) (d : Nat) (s : Int) : am_fr (fun x s => s + g x) d 0 s = s + gm_sm g d := by
  induction d with
  | zero => simp [am_fr, gm_sm]
  | succ d ih =>
    rw [am_fr_last, ih]
    rw [gm_sm_s]
    simp only [Int.zero_add]
    omega
/-- a loop that adds up -/
theorem am_acc {R : Type} (L : Nat → Int → Int → Option R) (n : Int) (g : Int → Int) (B : Int) (ex : Int → Option R) (hn : 0 ≤ n) (hB : ∀ x, 0 ≤ x → x < n → 0 ≤ g x ∧ g x ≤ B)
    (hs : ∀ f s x, 0 ≤ x → x < n → 0 ≤ s → s ≤ B * x → L (f + 1) s x = L f (s + g x) (x + 1))
    (he : ∀ f s, 0 ≤ s → s ≤ B * n → L (f + 1) s n = ex s) (f : Nat) (hf : n < f) : L f 0 0 = ex (gm_sm g n.toNat) := by
  have h := am_for L n (fun x s => s + g x) (fun x s => 0 ≤ x ∧ x ≤ n ∧ 0 ≤ s ∧ s ≤ B * x) (fun x s => ex s)
    (fun f s x hx hi => ⟨hs f s x hi.1 hx hi.2.2.1 hi.2.2.2, by
      obtain ⟨a, b, c, d⟩ := hi
      obtain ⟨p, q⟩ := hB x a hx
      refine ⟨by omega, by omega, by omega, ?_⟩
      rw [Int.mul_add]; omega⟩)
    (fun f s x hx hi => by
      obtain ⟨a, b, c, d⟩ := hi
      have e : x = n := by omega
      subst e
      exact he f s c d) n.toNat f 0 0 (by omega) (by omega) ⟨by omega, hn, by omega, by rw [Int.mul_zero]; omega⟩
  rw [h.1, am_fr_sum]
  rw [Int.zero_add]
