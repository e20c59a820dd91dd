-- SOLVING A LAYER: the mathematics of rounds. nm: how many moves; tk, to: what the i-th takes, and where it leads; en: what an end counts; [s, e): the layer
def gr_mx (tk to : Int → Int → Int) (f : Int → Int) (k b : Int) : Nat → Int
  | 0 => b
  | i + 1 => am_max (gr_mx tk to f k b i) (tk k (i : Int) - f (to k (i : Int)))
def gr (s e : Int) (nm : Int → Int) (tk to : Int → Int → Int) (f : Int → Int) : Int → Int := fun k => if (s ≤ k ∧ k < e) ∧ 0 < nm k then gr_mx tk to f k (-60) (nm k).toNat else f k
def gv (s e : Int) (nm : Int → Int) (tk to : Int → Int → Int) (en v0 : Int → Int) : Nat → Int → Int
  | 0 => fun k => if s ≤ k ∧ k < e then (if 0 < nm k then 0 else en k) else v0 k
  | r + 1 => gr s e nm tk to (gv s e nm tk to en v0 r)
/-- what is known of a layer -/
def gH (s e B : Int) (nm : Int → Int) (tk to : Int → Int → Int) (en v0 : Int → Int) : Prop := (0 ≤ B ∧ B ≤ 12) ∧ (0 ≤ s ∧ s ≤ e ∧ e ≤ 40000) ∧ (∀ k i, s ≤ k → k < e → 0 ≤ i → i < nm k → 0 ≤ tk k i ∧ tk k i ≤ B) ∧ (∀ k i, s ≤ k → k < e → 0 ≤ i → i < nm k → 0 ≤ to k i ∧ to k i < e) ∧ (∀ k i, s ≤ k → k < e → 0 ≤ i → i < nm k → tk k i = 0 → s ≤ to k i) ∧ (∀ k i, s ≤ k → k < e → 0 ≤ i → i < nm k → tk k i ≠ 0 → to k i < s) ∧ (∀ k i, s ≤ k → k < e → 0 ≤ i → i < nm k → tk k i ≠ 0 → tk k i - B ≤ v0 (to k i) ∧ v0 (to k i) ≤ B - tk k i) ∧ (∀ k, s ≤ k → k < e → -B ≤ en k ∧ en k ≤ B)
theorem gH.B {s e B : Int} {nm : Int → Int} {tk to : Int → Int → Int} {en v0 : Int → Int} (h : gH s e B nm tk to en v0) : 0 ≤ B ∧ B ≤ 12 := h.1
theorem gH.l {s e B : Int} {nm : Int → Int} {tk to : Int → Int → Int} {en v0 : Int → Int} (h : gH s e B nm tk to en v0) : 0 ≤ s ∧ s ≤ e ∧ e ≤ 40000 := h.2.1
theorem gH.t {s e B : Int} {nm : Int → Int} {tk to : Int → Int → Int} {en v0 : Int → Int} (h : gH s e B nm tk to en v0) : ∀ k i, s ≤ k → k < e → 0 ≤ i → i < nm k → 0 ≤ tk k i ∧ tk k i ≤ B := h.2.2.1
theorem gH.o {s e B : Int} {nm : Int → Int} {tk to : Int → Int → Int} {en v0 : Int → Int} (h : gH s e B nm tk to en v0) : ∀ k i, s ≤ k → k < e → 0 ≤ i → i < nm k → 0 ≤ to k i ∧ to k i < e := h.2.2.2.1
theorem gH.z {s e B : Int} {nm : Int → Int} {tk to : Int → Int → Int} {en v0 : Int → Int} (h : gH s e B nm tk to en v0) : ∀ k i, s ≤ k → k < e → 0 ≤ i → i < nm k → tk k i = 0 → s ≤ to k i := h.2.2.2.2.1
theorem gH.y {s e B : Int} {nm : Int → Int} {tk to : Int → Int → Int} {en v0 : Int → Int} (h : gH s e B nm tk to en v0) : ∀ k i, s ≤ k → k < e → 0 ≤ i → i < nm k → tk k i ≠ 0 → to k i < s := h.2.2.2.2.2.1
theorem gH.v {s e B : Int} {nm : Int → Int} {tk to : Int → Int → Int} {en v0 : Int → Int} (h : gH s e B nm tk to en v0) : ∀ k i, s ≤ k → k < e → 0 ≤ i → i < nm k → tk k i ≠ 0 → tk k i - B ≤ v0 (to k i) ∧ v0 (to k i) ≤ B - tk k i := h.2.2.2.2.2.2.1
theorem gH.n {s e B : Int} {nm : Int → Int} {tk to : Int → Int → Int} {en v0 : Int → Int} (h : gH s e B nm tk to en v0) : ∀ k, s ≤ k → k < e → -B ≤ en k ∧ en k ≤ B := h.2.2.2.2.2.2.2
theorem am_max_eq (x y : Int) : am_max x y = if x < y then y else x := rfl
theorem gr_mx_le {tk to : Int → Int → Int} {f : Int → Int} {k b : Int} : ∀ (n : Nat) (i : Int), 0 ≤ i → i < n → tk k i - f (to k i) ≤ gr_mx tk to f k b n
  | 0, i, h0, h1 => by omega
  | n + 1, i, h0, h1 => by
    unfold gr_mx
    rw [am_max_eq]
    by_cases q : i = (n : Int)
    · subst q; split <;> omega
    · have := gr_mx_le (tk := tk) (to := to) (f := f) (k := k) (b := b) n i h0 (by omega)
      split <;> omega
theorem gr_mx_b {tk to : Int → Int → Int} {f : Int → Int} {k b : Int} : ∀ (n : Nat), b ≤ gr_mx tk to f k b n
  | 0 => Int.le_refl _
  | n + 1 => by
    unfold gr_mx
    rw [am_max_eq]
    have := gr_mx_b (tk := tk) (to := to) (f := f) (k := k) (b := b) n
    split <;> omega
theorem gr_mx_at {tk to : Int → Int → Int} {f : Int → Int} {k b : Int} : ∀ (n : Nat), gr_mx tk to f k b n = b ∨ ∃ i : Int, 0 ≤ i ∧ i < n ∧ tk k i - f (to k i) = gr_mx tk to f k b n
  | 0 => Or.inl rfl
  | n + 1 => by
    unfold gr_mx
    rw [am_max_eq]
    split
    · exact Or.inr ⟨(n : Int), by omega, by omega, rfl⟩
    · rcases gr_mx_at (tk := tk) (to := to) (f := f) (k := k) (b := b) n with h | ⟨i, h0, h1, h2⟩
      · exact Or.inl h
      · exact Or.inr ⟨i, h0, by omega, h2⟩
theorem gr_mx_congr {tk to : Int → Int → Int} {f g : Int → Int} {k b : Int} : ∀ (n : Nat), (∀ i : Int, 0 ≤ i → i < n → f (to k i) = g (to k i)) → gr_mx tk to f k b n = gr_mx tk to g k b n
  | 0, _ => rfl
  | n + 1, h => by
    unfold gr_mx
    rw [gr_mx_congr n (fun i a b => h i a (by omega)), h (n : Int) (by omega) (by omega)]
/-- any small start will do -/
theorem gr_mx_any {tk to : Int → Int → Int} {f : Int → Int} {k b b' : Int} (n : Nat) (hn : 0 < n) (hb : ∀ i : Int, 0 ≤ i → i < n → b ≤ tk k i - f (to k i)) (hb' : ∀ i : Int, 0 ≤ i → i < n → b' ≤ tk k i - f (to k i)) : gr_mx tk to f k b n = gr_mx tk to f k b' n := by
  have l := gr_mx_le (tk := tk) (to := to) (f := f) (k := k) (b := b) n
  have l' := gr_mx_le (tk := tk) (to := to) (f := f) (k := k) (b := b') n
  have z1 := l 0 (by omega) (by omega)
  have z2 := l' 0 (by omega) (by omega)
  have z3 := hb 0 (by omega) (by omega)
  have z4 := hb' 0 (by omega) (by omega)
  have c1 : gr_mx tk to f k b n ≤ gr_mx tk to f k b' n := by
    rcases gr_mx_at (tk := tk) (to := to) (f := f) (k := k) (b := b) n with h | ⟨i, h0, h1, h2⟩
    · omega
    · have := l' i h0 h1; omega
  have c2 : gr_mx tk to f k b' n ≤ gr_mx tk to f k b n := by
    rcases gr_mx_at (tk := tk) (to := to) (f := f) (k := k) (b := b') n with h | ⟨i, h0, h1, h2⟩
    · omega
    · have := l i h0 h1; omega
  omega
section ROUNDS
variable {s e B : Int} {nm : Int → Int} {tk to : Int → Int → Int} {en v0 : Int → Int}
theorem gv_out {r : Nat} {k : Int} (h : ¬ (s ≤ k ∧ k < e)) : gv s e nm tk to en v0 r k = v0 k := by
  induction r with
  | zero => unfold gv; rw [if_neg h]
  | succ r ih => unfold gv gr; rw [if_neg (fun w => h w.1)]; exact ih
theorem gv_end {r : Nat} {k : Int} (h : s ≤ k ∧ k < e) (hn : ¬ 0 < nm k) : gv s e nm tk to en v0 r k = en k := by
  induction r with
  | zero => unfold gv; rw [if_pos h, if_neg hn]
  | succ r ih => unfold gv gr; rw [if_neg (fun w => hn w.2)]; exact ih
theorem gv_0 {k : Int} (h : s ≤ k ∧ k < e) (hn : 0 < nm k) : gv s e nm tk to en v0 0 k = 0 := by
  unfold gv; rw [if_pos h, if_pos hn]
theorem gv_s {r : Nat} {k : Int} (h : s ≤ k ∧ k < e) (hn : 0 < nm k) : gv s e nm tk to en v0 (r + 1) k = gr_mx tk to (gv s e nm tk to en v0 r) k (-60) (nm k).toNat := by
  show gr s e nm tk to (gv s e nm tk to en v0 r) k = _
  unfold gr; rw [if_pos ⟨h, hn⟩]
/-- what a move reaches is small -/
theorem gH.reach (H : gH s e B nm tk to en v0) {f : Int → Int} (hf : ∀ k, s ≤ k → k < e → -B ≤ f k ∧ f k ≤ B) (hf0 : ∀ k, ¬ (s ≤ k ∧ k < e) → f k = v0 k) {k i : Int} (h0 : s ≤ k) (h1 : k < e) (i0 : 0 ≤ i) (i1 : i < nm k) : -B ≤ tk k i - f (to k i) ∧ tk k i - f (to k i) ≤ B := by
  obtain ⟨t0, t1⟩ := H.t k i h0 h1 i0 i1
  obtain ⟨o0, o1⟩ := H.o k i h0 h1 i0 i1
  by_cases q : tk k i = 0
  · have := hf (to k i) (H.z k i h0 h1 i0 i1 q) o1
    omega
  · have y := H.y k i h0 h1 i0 i1 q
    have := H.v k i h0 h1 i0 i1 q
    rw [hf0 (to k i) (by omega)]
    omega
theorem gH.mx (H : gH s e B nm tk to en v0) {f : Int → Int} (hf : ∀ k, s ≤ k → k < e → -B ≤ f k ∧ f k ≤ B) (hf0 : ∀ k, ¬ (s ≤ k ∧ k < e) → f k = v0 k) {k : Int} (h0 : s ≤ k) (h1 : k < e) (hn : 0 < nm k) :
    (∃ i, 0 ≤ i ∧ i < nm k ∧ tk k i - f (to k i) = gr_mx tk to f k (-60) (nm k).toNat) ∧ (∀ i, 0 ≤ i → i < nm k → tk k i - f (to k i) ≤ gr_mx tk to f k (-60) (nm k).toNat) ∧ -B ≤ gr_mx tk to f k (-60) (nm k).toNat ∧ gr_mx tk to f k (-60) (nm k).toNat ≤ B := by
  have hB := H.B
  have r := fun i => H.reach hf hf0 (i := i) h0 h1
  have l : ∀ i, 0 ≤ i → i < nm k → tk k i - f (to k i) ≤ gr_mx tk to f k (-60) (nm k).toNat := fun i a b => gr_mx_le (nm k).toNat i a (by omega)
  have z := l 0 (by omega) hn
  have zr := r 0 (by omega) hn
  rcases gr_mx_at (tk := tk) (to := to) (f := f) (k := k) (b := -60) (nm k).toNat with h | ⟨i, i0, i1, i2⟩
  · omega
  · have := r i i0 (by omega)
    exact ⟨⟨i, i0, by omega, i2⟩, l, by omega, by omega⟩
theorem gH.bd (H : gH s e B nm tk to en v0) : ∀ (r : Nat) (k : Int), s ≤ k → k < e → -B ≤ gv s e nm tk to en v0 r k ∧ gv s e nm tk to en v0 r k ≤ B := by
  intro r
  have hB := H.B
  induction r with
  | zero =>
    intro k h0 h1
    by_cases hn : 0 < nm k
    · rw [gv_0 ⟨h0, h1⟩ hn]; omega
    · rw [gv_end ⟨h0, h1⟩ hn]; exact H.n k h0 h1
  | succ r ih =>
    intro k h0 h1
    by_cases hn : 0 < nm k
    · rw [gv_s ⟨h0, h1⟩ hn]
      exact (H.mx ih (fun k q => gv_out q) h0 h1 hn).2.2
    · rw [gv_end ⟨h0, h1⟩ hn]; exact H.n k h0 h1
/-- b has grown out of a -/
def gle (a b : Int) : Prop := (0 < a → a ≤ b) ∧ (a < 0 → b ≤ a)
theorem gle.rfl {a : Int} : gle a a := ⟨fun _ => Int.le_refl _, fun _ => Int.le_refl _⟩
theorem gle.trans {a b c : Int} (h : gle a b) (h' : gle b c) : gle a c := by unfold gle at *; omega
theorem gH.grow (H : gH s e B nm tk to en v0) : ∀ (r : Nat) (k : Int), gle (gv s e nm tk to en v0 r k) (gv s e nm tk to en v0 (r + 1) k) := by
  intro r
  induction r with
  | zero =>
    intro k
    by_cases h : s ≤ k ∧ k < e
    · by_cases hn : 0 < nm k
      · rw [gv_0 h hn]; unfold gle; omega
      · rw [gv_end h hn, gv_end h hn]; exact gle.rfl
    · rw [gv_out h, gv_out h]; exact gle.rfl
  | succ r ih =>
    intro k
    by_cases h : s ≤ k ∧ k < e
    · by_cases hn : 0 < nm k
      · rw [gv_s h hn, gv_s (r := r + 1) h hn]
        obtain ⟨⟨i, i0, i1, i2⟩, l, -⟩ := H.mx (H.bd r) (fun k q => gv_out q) h.1 h.2 hn
        obtain ⟨⟨j, j0, j1, j2⟩, l', -⟩ := H.mx (H.bd (r + 1)) (fun k q => gv_out q) h.1 h.2 hn
        have gi := ih (to k i)
        have gj := ih (to k j)
        have li := l' i i0 i1
        have lj := l j j0 j1
        have ti := H.t k i h.1 h.2 i0 i1
        have tj := H.t k j h.1 h.2 j0 j1
        have ei : tk k i ≠ 0 → gv s e nm tk to en v0 (r + 1) (to k i) = gv s e nm tk to en v0 r (to k i) := fun q => by
          have := H.y k i h.1 h.2 i0 i1 q
          rw [gv_out (by omega), gv_out (by omega)]
        have ej : tk k j ≠ 0 → gv s e nm tk to en v0 (r + 1) (to k j) = gv s e nm tk to en v0 r (to k j) := fun q => by
          have := H.y k j h.1 h.2 j0 j1 q
          rw [gv_out (by omega), gv_out (by omega)]
        unfold gle at gi gj ⊢
        refine ⟨fun q => ?_, fun q => ?_⟩
        · by_cases w : tk k i = 0
          · omega
          · have := ei w; omega
        · by_cases w : tk k j = 0
          · omega
          · have := ej w; omega
      · rw [gv_end h hn, gv_end h hn]; exact gle.rfl
    · rw [gv_out h, gv_out h]; exact gle.rfl
theorem gH.grows (H : gH s e B nm tk to en v0) (r d : Nat) (k : Int) : gle (gv s e nm tk to en v0 r k) (gv s e nm tk to en v0 (r + d) k) := by
  induction d with
  | zero => exact gle.rfl
  | succ d ih => exact ih.trans (H.grow (r + d) k)
/-- a round that changes nothing -/
def gS (s e : Int) (nm : Int → Int) (tk to : Int → Int → Int) (en v0 : Int → Int) (r : Nat) : Prop := ∀ k, gv s e nm tk to en v0 (r + 1) k = gv s e nm tk to en v0 r k
theorem gS_add {r : Nat} (h : gS s e nm tk to en v0 r) : ∀ d : Nat, gv s e nm tk to en v0 (r + d) = gv s e nm tk to en v0 r := by
  intro d
  induction d with
  | zero => rfl
  | succ d ih =>
    have e1 : gv s e nm tk to en v0 (r + 1) = gv s e nm tk to en v0 r := funext h
    show gr s e nm tk to (gv s e nm tk to en v0 (r + d)) = _
    rw [ih]
    exact e1
def gab (x : Int) : Int := if x < 0 then -x else x
def gph (s e : Int) (nm : Int → Int) (tk to : Int → Int → Int) (en v0 : Int → Int) (r : Nat) : Int := gm_sm (fun i => gab (gv s e nm tk to en v0 r (s + i))) (e - s).toNat
theorem gm_sm_lt {g g' : Int → Int} {d : Nat} (h : ∀ i : Int, 0 ≤ i → i < d → g i ≤ g' i) {k : Int} (k0 : 0 ≤ k) (k1 : k < d) (hk : g k < g' k) : gm_sm g d < gm_sm g' d := by
  induction d with
  | zero => omega
  | succ d ih =>
    rw [gm_sm_s, gm_sm_s]
    have h1 := h (d : Int) (by omega) (by omega)
    by_cases q : k = (d : Int)
    · subst q
      have := gm_sm_le (g := g) (g' := g') (d := d) (fun i a b => h i a (by omega))
      omega
    · have := ih (fun i a b => h i a (by omega)) (by omega)
      omega
theorem gH.step (H : gH s e B nm tk to en v0) (r : Nat) : gS s e nm tk to en v0 r ∨ gph s e nm tk to en v0 r + 1 ≤ gph s e nm tk to en v0 (r + 1) := by
  by_cases q : ∃ k, gv s e nm tk to en v0 (r + 1) k ≠ gv s e nm tk to en v0 r k
  · obtain ⟨k, hk⟩ := q
    right
    by_cases h : s ≤ k ∧ k < e
    · have := gm_sm_lt (g := fun i => gab (gv s e nm tk to en v0 r (s + i))) (g' := fun i => gab (gv s e nm tk to en v0 (r + 1) (s + i))) (d := (e - s).toNat) (fun i a b => ?_) (k := k - s) (by omega) (by omega) ?_
      · unfold gph; omega
      · have := H.grow r (s + i)
        unfold gle at this
        unfold gab
        split <;> split <;> omega
      · have := H.grow r k
        unfold gle at this
        rw [show s + (k - s) = k by omega]
        unfold gab
        split <;> split <;> omega
    · rw [gv_out h, gv_out h] at hk; exact absurd rfl hk
  · left
    intro k
    exact Classical.byContradiction fun w => q ⟨k, w⟩
theorem gH.phb (H : gH s e B nm tk to en v0) (r : Nat) : 0 ≤ gph s e nm tk to en v0 r ∧ gph s e nm tk to en v0 r ≤ 480000 := by
  have hl := H.l
  have hB := H.B
  have := gm_sm_b (g := fun i => gab (gv s e nm tk to en v0 r (s + i))) (B := 12) (d := (e - s).toNat) (fun i a b => by
    have := H.bd r (s + i) (by omega) (by omega)
    unfold gab
    split <;> omega)
  unfold gph
  omega
theorem gH.ends (H : gH s e B nm tk to en v0) : ∃ r : Nat, r ≤ 480000 ∧ gS s e nm tk to en v0 r := by
  have key : ∀ m : Nat, (∃ r : Nat, r < m ∧ gS s e nm tk to en v0 r) ∨ (m : Int) ≤ gph s e nm tk to en v0 m := by
    intro m
    induction m with
    | zero => right; exact (H.phb 0).1
    | succ m ih =>
      rcases ih with ⟨r, h1, h2⟩ | h
      · left; exact ⟨r, by omega, h2⟩
      · rcases H.step m with h2 | h2
        · left; exact ⟨m, by omega, h2⟩
        · right; omega
  rcases key 480001 with ⟨r, h1, h2⟩ | h
  · exact ⟨r, by omega, h2⟩
  · have := (H.phb 480001).2; omega
/-- the values -/
def gl (s e : Int) (nm : Int → Int) (tk to : Int → Int → Int) (en v0 : Int → Int) : Int → Int := gv s e nm tk to en v0 480001
theorem gH.lim (H : gH s e B nm tk to en v0) {r : Nat} (h : gS s e nm tk to en v0 r) : gv s e nm tk to en v0 r = gl s e nm tk to en v0 := by
  obtain ⟨r0, h0, h1⟩ := H.ends
  unfold gl
  have a1 := gS_add h1 (480001 - r0)
  rw [show r0 + (480001 - r0) = 480001 by omega] at a1
  rw [a1]
  by_cases q : r0 ≤ r
  · have a2 := gS_add h1 (r - r0)
    rw [show r0 + (r - r0) = r by omega] at a2
    exact a2
  · have a2 := gS_add h (r0 - r)
    rw [show r + (r0 - r) = r0 by omega] at a2
    exact a2.symm
theorem gH.limS (H : gH s e B nm tk to en v0) : gS s e nm tk to en v0 480001 := by
  obtain ⟨r0, h0, h1⟩ := H.ends
  have a1 := gS_add h1 (480001 - r0)
  have a2 := gS_add h1 (480002 - r0)
  rw [show r0 + (480001 - r0) = 480001 by omega] at a1
  rw [show r0 + (480002 - r0) = 480001 + 1 by omega] at a2
  intro k
  rw [a1, a2]
theorem gH.late (H : gH s e B nm tk to en v0) {r : Nat} (h : 480001 ≤ r) : gv s e nm tk to en v0 r = gl s e nm tk to en v0 := by
  have := gS_add H.limS (r - 480001)
  rw [show 480001 + (r - 480001) = r by omega] at this
  exact this
theorem gl_out {k : Int} (h : ¬ (s ≤ k ∧ k < e)) : gl s e nm tk to en v0 k = v0 k := gv_out h
theorem gl_end {k : Int} (h : s ≤ k ∧ k < e) (hn : ¬ 0 < nm k) : gl s e nm tk to en v0 k = en k := gv_end h hn
theorem gH.lb (H : gH s e B nm tk to en v0) {k : Int} (h0 : s ≤ k) (h1 : k < e) : -B ≤ gl s e nm tk to en v0 k ∧ gl s e nm tk to en v0 k ≤ B := H.bd _ k h0 h1
/-- the number of the first round behind which a place has its value -/
def gK (s e : Int) (nm : Int → Int) (tk to : Int → Int → Int) (en v0 : Int → Int) (k : Int) (n : Nat) : Prop := gv s e nm tk to en v0 n k = gl s e nm tk to en v0 k ∧ ∀ j, j < n → gv s e nm tk to en v0 j k ≠ gl s e nm tk to en v0 k
theorem gK.uniq {k : Int} {m n : Nat} (h : gK s e nm tk to en v0 k m) (h' : gK s e nm tk to en v0 k n) : m = n := by
  rcases Nat.lt_trichotomy m n with q | q | q
  · exact absurd h.1 (h'.2 m q)
  · exact q
  · exact absurd h'.1 (h.2 n q)
/-- the last round that changed it -/
def gkc (s e : Int) (nm : Int → Int) (tk to : Int → Int → Int) (en v0 : Int → Int) : Nat → Int → Int
  | 0 => fun _ => 0
  | r + 1 => fun k => if gv s e nm tk to en v0 (r + 1) k = gv s e nm tk to en v0 r k then gkc s e nm tk to en v0 r k else ((r + 1 : Nat) : Int)
theorem gH.kc (H : gH s e B nm tk to en v0) (k : Int) : ∀ r : Nat, gv s e nm tk to en v0 r k = gl s e nm tk to en v0 k → ∃ n : Nat, n ≤ r ∧ gkc s e nm tk to en v0 r k = (n : Int) ∧ gK s e nm tk to en v0 k n := by
  intro r
  induction r with
  | zero => intro h; exact ⟨0, Nat.le_refl _, rfl, h, fun j q => by omega⟩
  | succ r ih =>
    intro h
    by_cases q : gv s e nm tk to en v0 (r + 1) k = gv s e nm tk to en v0 r k
    · obtain ⟨n, h1, h2, h3⟩ := ih (by rw [← q]; exact h)
      refine ⟨n, by omega, ?_, h3⟩
      unfold gkc; rw [if_pos q]; exact h2
    · refine ⟨r + 1, Nat.le_refl _, ?_, h, fun j hj w => q ?_⟩
      · unfold gkc; rw [if_neg q]
      · have g1 := H.grows j (r - j) k
        rw [show j + (r - j) = r by omega] at g1
        have g2 := H.grow r k
        rw [w] at g1
        rw [h] at g2 ⊢
        unfold gle at g1 g2
        omega
theorem gH.kn (H : gH s e B nm tk to en v0) (k : Int) : ∃ n : Nat, n ≤ 480001 ∧ gK s e nm tk to en v0 k n := by
  obtain ⟨n, h1, -, h2⟩ := H.kc k 480001 rfl
  exact ⟨n, h1, h2⟩
/-- a best move is there -/
theorem gH.best (H : gH s e B nm tk to en v0) {rk : Int → Int} (hrk : ∀ k, s ≤ k → k < e → ∃ n : Nat, rk k = (n : Int) ∧ gK s e nm tk to en v0 k n) {k : Int} (h0 : s ≤ k) (h1 : k < e) (hn : 0 < nm k) :
    ∃ i, 0 ≤ i ∧ i < nm k ∧ tk k i - gl s e nm tk to en v0 (to k i) = gl s e nm tk to en v0 k ∧ (gl s e nm tk to en v0 k ≤ 0 ∨ 0 < tk k i ∨ rk (to k i) < rk k) := by
  have st := H.limS k
  rw [gv_s ⟨h0, h1⟩ hn] at st
  obtain ⟨⟨i, i0, i1, i2⟩, l, -⟩ := H.mx (H.bd 480001) (fun k q => gv_out q) h0 h1 hn
  rw [st] at i2 l
  have i2' : tk k i - gl s e nm tk to en v0 (to k i) = gl s e nm tk to en v0 k := i2
  have l' : ∀ j, 0 ≤ j → j < nm k → tk k j - gl s e nm tk to en v0 (to k j) ≤ gl s e nm tk to en v0 k := l
  by_cases hp : gl s e nm tk to en v0 k ≤ 0
  · exact ⟨i, i0, i1, i2', Or.inl hp⟩
  · obtain ⟨n, e1, e2, e3⟩ := hrk k h0 h1
    cases n with
    | zero => rw [gv_0 ⟨h0, h1⟩ hn] at e2; omega
    | succ n =>
      rw [gv_s ⟨h0, h1⟩ hn] at e2
      obtain ⟨⟨j, j0, j1, j2⟩, -, -⟩ := H.mx (H.bd n) (fun k q => gv_out q) h0 h1 hn
      rw [e2] at j2
      by_cases w : tk k j = 0
      · have hz := H.z k j h0 h1 j0 j1 w
        have ho := (H.o k j h0 h1 j0 j1).2
        have g := H.grows n (480001) (to k j)
        rw [H.late (r := n + 480001) (by omega)] at g
        unfold gle at g
        have lj := l' j j0 j1
        have ev : gv s e nm tk to en v0 n (to k j) = gl s e nm tk to en v0 (to k j) := by omega
        obtain ⟨m, f1, f2, f3⟩ := hrk (to k j) hz ho
        have hm : m ≤ n := Nat.not_lt.mp fun q => f3 n q ev
        exact ⟨j, j0, j1, by omega, Or.inr (Or.inr (by omega))⟩
      · have y := H.y k j h0 h1 j0 j1 w
        have t := H.t k j h0 h1 j0 j1
        rw [gv_out (by omega)] at j2
        refine ⟨j, j0, j1, ?_, Or.inr (Or.inl (by omega))⟩
        rw [gl_out (by omega)]; exact j2
end ROUNDS
