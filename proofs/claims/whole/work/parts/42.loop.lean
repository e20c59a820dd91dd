-- LOOPS
theorem am_it_s {α : Type} (s : α → α) (z : α) (f : Nat) : am_it s z (f + 1) = s (am_it s z f) := rfl
/-- d rounds of an update, from x on -/
def am_fr {σ : Type} (u : Int → σ → σ) : Nat → Int → σ → σ
  | 0, _, s => s
  | d + 1, x, s => am_fr u d (x + 1) (u x s)
theorem am_fr_0 {σ : Type} (u : Int → σ → σ) (x : Int) (s : σ) : am_fr u 0 x s = s := rfl
theorem am_fr_s {σ : Type} (u : Int → σ → σ) (d : Nat) (x : Int) (s : σ) : am_fr u (d + 1) x s = am_fr u d (x + 1) (u x s) := rfl
theorem am_fr_last {σ : Type} (u : Int → σ → σ) (d : Nat) : ∀ (x : Int) (s : σ), am_fr u (d + 1) x s = u (x + d) (am_fr u d x s) := by
  induction d with
  | zero => intro x s; simp [am_fr]
  | succ d ih =>
    intro x s
    rw [am_fr_s, ih, am_fr_s]
    congr 1
    omega
/-- a counted loop whose body always goes on -/
theorem am_for {σ R : Type} (L : Nat → σ → Int → Option R) (n : Int) (u : Int → σ → σ) (Inv : Int → σ → Prop) (ex : Int → σ → Option R)
    (hs : ∀ f s x, x < n → Inv x s → L (f + 1) s x = L f (u x s) (x + 1) ∧ Inv (x + 1) (u x s))
    (he : ∀ f s x, ¬ x < n → Inv x s → L (f + 1) s x = ex x s) :
    ∀ (d f : Nat) (s : σ) (x : Int), (n - x).toNat = d → d < f → Inv x s → L f s x = ex (x + d) (am_fr u d x s) ∧ Inv (x + d) (am_fr u d x s) := by
  intro d
  induction d with
  | zero =>
    intro f s x hd hf hi
    obtain ⟨f, rfl⟩ : ∃ g, f = g + 1 := ⟨f - 1, by omega⟩
    refine ⟨?_, by simpa [am_fr] using hi⟩
    rw [he f s x (by omega) hi]
    simp [am_fr]
  | succ d ih =>
    intro f s x hd hf hi
    obtain ⟨f, rfl⟩ : ∃ g, f = g + 1 := ⟨f - 1, by omega⟩
    obtain ⟨h1, h2⟩ := hs f s x (by omega) hi
    obtain ⟨h3, h4⟩ := ih f (u x s) (x + 1) (by omega) (by omega) h2
    rw [h1, h3]
    have e : x + 1 + (d : Int) = x + ((d + 1 : Nat) : Int) := by omega
    rw [e] at h4 ⊢
    exact ⟨rfl, h4⟩
theorem am_cq_s {ρ : Type} (v : Int) (t : Int → Option ρ) : am_cq (some v) t = t v := rfl
theorem am_cl_s {ρ : Type} (v : Int) (J : am_I) (t : Int → am_I → Option ρ) : am_cl (some (v, J)) t = t v J := rfl
theorem am_cq_n {ρ : Type} (t : Int → Option ρ) : am_cq none t = none := rfl
/-- one row of a memory -/
def am_row (I : am_I) (a : Nat) (g : Int → Int) : am_I := fun b j => if b = a then g j else I b j
theorem am_row_s (I : am_I) (a : Nat) (g : Int → Int) (j : Int) : am_row I a g a j = g j := if_pos rfl
theorem am_row_n {I : am_I} {a b : Nat} {g : Int → Int} {j : Int} (h : b ≠ a) : am_row I a g b j = I b j := if_neg h
theorem am_u2_row (I : am_I) (a : Nat) (k v : Int) : am_u2 I a k v = am_row I a (fun j => if j = k then v else I a j) := by
  funext b j
  unfold am_u2 am_row
  by_cases h : b = a
  · subst h; by_cases h2 : j = k <;> simp [h2]
  · simp [h]
theorem am_row_row (I : am_I) (a : Nat) (g g' : Int → Int) : am_row (am_row I a g) a g' = am_row I a g' := by
  funext b j
  unfold am_row
  by_cases h : b = a <;> simp [h]
theorem am_row_id (I : am_I) (a : Nat) : am_row I a (I a) = I := by
  funext b j
  unfold am_row
  by_cases h : b = a
  · subst h; simp
  · simp [h]
theorem am_row_comm (I : am_I) {a b : Nat} (h : a ≠ b) (g g' : Int → Int) : am_row (am_row I a g) b g' = am_row (am_row I b g') a g := by
  funext x j
  unfold am_row
  by_cases h1 : x = a
  · by_cases h2 : x = b
    · exact absurd (h1.symm.trans h2) h
    · simp [h1, show a ≠ b from h]
  · by_cases h2 : x = b
    · simp [h2, Ne.symm h]
    · simp [h1, h2]
