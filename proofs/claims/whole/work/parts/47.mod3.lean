-- WHAT A BOARD KEEPS: seeds are not lost but to the hand
def gm_tot (A : Int) (c : Int → Int) : Int := gm_sm c A.toNat
/-- a board: no pit below nothing, nothing where a pit lacks, not more than 600000 seeds -/
def gm_st (A : Int) (lk c : Int → Int) : Prop := (∀ j, 0 ≤ j → j < A → 0 ≤ c j) ∧ (∀ j, 0 ≤ j → j < A → lk j ≠ 0 → c j = 0) ∧ gm_tot A c ≤ 600000
theorem gm_st.bd {A : Int} {lk c : Int → Int} (h : gm_st A lk c) : gm_bd A c := by
  intro p h0 h1
  refine ⟨h.1 p h0 h1, Int.le_trans ?_ h.2.2⟩
  exact gm_sm_get (fun i a b => h.1 i a (by omega)) p h0 (by omega)
theorem gm_tot_up {A : Int} {c : Int → Int} {k v : Int} (h0 : 0 ≤ k) (h1 : k < A) : gm_tot A (gm_up c k v) = gm_tot A c + v - c k := by
  unfold gm_tot gm_up
  rw [gm_sm_upd, if_pos ⟨h0, by omega⟩]
  omega
theorem gm_tot_nn {A : Int} {c : Int → Int} (h : ∀ j, 0 ≤ j → j < A → 0 ≤ c j) : 0 ≤ gm_tot A c := by
  unfold gm_tot
  have := gm_sm_le (g := fun _ => 0) (g' := c) (d := A.toNat) (fun i a b => h i a (by omega))
  rwa [gm_sm_z (fun _ _ _ => rfl)] at this
/-- a way of going on: to pits that are there and don't lack -/
def gm_go (A : Int) (lk : Int → Int) (nx : Int → Int) : Prop := ∀ p, 0 ≤ p → p < A → lk p = 0 → 0 ≤ nx p ∧ nx p < A ∧ lk (nx p) = 0
theorem gm_sw_st {A : Int} {lk nx : Int → Int} (hg : gm_go A lk nx) : ∀ (h : Nat) (c : Int → Int) (p : Int), 0 ≤ p → p < A → lk p = 0 → (∀ j, 0 ≤ j → j < A → 0 ≤ c j) → (∀ j, 0 ≤ j → j < A → lk j ≠ 0 → c j = 0) →
    (∀ j, 0 ≤ j → j < A → 0 ≤ (gm_sw nx h (c, p)).1 j) ∧ (∀ j, 0 ≤ j → j < A → lk j ≠ 0 → (gm_sw nx h (c, p)).1 j = 0) ∧ gm_tot A (gm_sw nx h (c, p)).1 = gm_tot A c + h ∧ 0 ≤ (gm_sw nx h (c, p)).2 ∧ (gm_sw nx h (c, p)).2 < A ∧ lk (gm_sw nx h (c, p)).2 = 0 := by
  intro h
  induction h with
  | zero => intro c p h0 h1 h2 h3 h4; exact ⟨h3, h4, by simp [gm_sw], h0, h1, h2⟩
  | succ h ih =>
    intro c p h0 h1 h2 h3 h4
    obtain ⟨q0, q1, q2⟩ := hg p h0 h1 h2
    have := ih (gm_up c (nx p) (c (nx p) + 1)) (nx p) q0 q1 q2 (fun j a b => by
      by_cases e : j = nx p
      · subst e; rw [gm_up_s]; have := h3 _ a b; omega
      · rw [gm_up_n e]; exact h3 j a b) (fun j a b w => by
      by_cases e : j = nx p
      · subst e; exact absurd q2 w
      · rw [gm_up_n e]; exact h4 j a b w)
    obtain ⟨r1, r2, r3, r4⟩ := this
    refine ⟨r1, r2, ?_, r4⟩
    show gm_tot A (gm_sw nx h (gm_up c (nx p) (c (nx p) + 1), nx p)).1 = _
    rw [r3, gm_tot_up q0 q1]
    omega
theorem gm_s1_st {A : Int} {lk nx : Int → Int} (hg : gm_go A lk nx) {s : (Int → Int) × Int} (h0 : 0 ≤ s.2) (h1 : s.2 < A) (h2 : lk s.2 = 0) (hs : gm_st A lk s.1) : gm_st A lk (gm_s1 nx s).1 ∧ gm_tot A (gm_s1 nx s).1 = gm_tot A s.1 ∧ 0 ≤ (gm_s1 nx s).2 ∧ (gm_s1 nx s).2 < A ∧ lk (gm_s1 nx s).2 = 0 := by
  have hn := hs.1 s.2 h0 h1
  obtain ⟨r1, r2, r3, r4, r5, r6⟩ := gm_sw_st hg (s.1 s.2).toNat (gm_up s.1 s.2 0) s.2 h0 h1 h2 (fun j a b => by
    by_cases e : j = s.2
    · subst e; rw [gm_up_s]; omega
    · rw [gm_up_n e]; exact hs.1 j a b) (fun j a b w => by
    by_cases e : j = s.2
    · subst e; exact absurd h2 w
    · rw [gm_up_n e]; exact hs.2.1 j a b w)
  have e : gm_tot A (gm_s1 nx s).1 = gm_tot A s.1 := by
    unfold gm_s1
    rw [r3, gm_tot_up h0 h1]; omega
  exact ⟨⟨r1, r2, by rw [e]; exact hs.2.2⟩, e, r4, r5, r6⟩
/-- a relay of at most r sowings more: what is left, where, and whether the rounds were used up -/
def gm_rl (nx : Int → Int) : Nat → (Int → Int) × Int → ((Int → Int) × Int) × Int
  | 0, s => (s, 1)
  | r + 1, s => if 1 < s.1 s.2 then gm_rl nx r (gm_s1 nx s) else (s, 0)
theorem gm_rl_st {A : Int} {lk nx : Int → Int} (hg : gm_go A lk nx) : ∀ (r : Nat) (s : (Int → Int) × Int), 0 ≤ s.2 → s.2 < A → lk s.2 = 0 → gm_st A lk s.1 → gm_st A lk (gm_rl nx r s).1.1 ∧ gm_tot A (gm_rl nx r s).1.1 = gm_tot A s.1 ∧ 0 ≤ (gm_rl nx r s).1.2 ∧ (gm_rl nx r s).1.2 < A ∧ lk (gm_rl nx r s).1.2 = 0 ∧ ((gm_rl nx r s).2 = 0 ∨ (gm_rl nx r s).2 = 1) := by
  intro r
  induction r with
  | zero => intro s h0 h1 h2 h3; exact ⟨h3, rfl, h0, h1, h2, Or.inr rfl⟩
  | succ r ih =>
    intro s h0 h1 h2 h3
    unfold gm_rl
    by_cases h : 1 < s.1 s.2
    · rw [if_pos h]
      obtain ⟨a1, a2, a3, a4, a5⟩ := gm_s1_st hg h0 h1 h2 h3
      obtain ⟨b1, b2, b3⟩ := ih _ a3 a4 a5 a1
      exact ⟨b1, b2.trans a2, b3⟩
    · rw [if_neg h]; exact ⟨h3, rfl, h0, h1, h2, Or.inl rfl⟩
/-- a column of the other side is emptied -/
def gm_tc (A C who p : Int) (c : Int → Int) : Int → Int := fun j => if (0 ≤ j ∧ j < A) ∧ j % C = p % C ∧ gm_sd A j ≠ who then 0 else c j
theorem gm_tc_st {A C who p : Int} {lk c : Int → Int} (h : gm_st A lk c) : gm_st A lk (gm_tc A C who p c) ∧ gm_tot A (gm_tc A C who p c) ≤ gm_tot A c := by
  have hle : gm_tot A (gm_tc A C who p c) ≤ gm_tot A c := by
    unfold gm_tot
    refine gm_sm_le (fun i a b => ?_)
    have := h.1 i a (by omega)
    unfold gm_tc
    split <;> omega
  refine ⟨⟨fun j a b => ?_, fun j a b w => ?_, by have := h.2.2; omega⟩, hle⟩
  · have := h.1 j a b
    unfold gm_tc
    split <;> omega
  · have := h.2.1 j a b w
    unfold gm_tc
    split <;> omega
/-- a chain of the other side's pits is emptied, back along the way -/
def gm_ch (A who low high : Int) (pv : Int → Int) : Nat → (Int → Int) → Int → (Int → Int)
  | 0, c, _ => c
  | d + 1, c, p => if gm_sd A p ≠ who ∧ low ≤ c p ∧ c p ≤ high then gm_ch A who low high pv d (gm_up c p 0) (pv p) else c
def gm_nz (A : Int) (c : Int → Int) : Int := gm_sm (fun j => if c j = 0 then 0 else 1) A.toNat
theorem gm_nz_up {A : Int} {c : Int → Int} {k : Int} (h0 : 0 ≤ k) (h1 : k < A) (h : c k ≠ 0) : gm_nz A (gm_up c k 0) = gm_nz A c - 1 := by
  unfold gm_nz
  have e : (fun j => if gm_up c k 0 j = 0 then (0 : Int) else 1) = fun j => if j = k then 0 else (fun j => if c j = 0 then (0 : Int) else 1) j := by
    funext j
    by_cases e : j = k
    · subst e; simp [gm_up]
    · simp [gm_up, e]
  rw [e, gm_sm_upd, if_pos ⟨h0, by omega⟩]
  simp only [h, if_false]
  omega
theorem gm_nz_pos {A : Int} {c : Int → Int} {k : Int} (h0 : 0 ≤ k) (h1 : k < A) (h : c k ≠ 0) : 1 ≤ gm_nz A c := by
  unfold gm_nz
  have := gm_sm_get (g := fun j => if c j = 0 then (0 : Int) else 1) (d := A.toNat) (fun i a b => by split <;> omega) k h0 (by omega)
  simp only [h, if_false] at this
  exact this
theorem gm_nz_b (A : Int) (c : Int → Int) (hA : 0 ≤ A) : 0 ≤ gm_nz A c ∧ gm_nz A c ≤ A := by
  unfold gm_nz
  have := gm_sm_b (g := fun j => if c j = 0 then (0 : Int) else 1) (B := 1) (d := A.toNat) (fun i a b => by split <;> omega)
  omega
theorem gm_ch_stable {A who low high : Int} {lk pv : Int → Int} (hg : gm_go A lk pv) (hlow : 1 ≤ low) : ∀ (d e : Nat) (c : Int → Int) (p : Int), 0 ≤ p → p < A → lk p = 0 → gm_nz A c ≤ d → gm_nz A c ≤ e → gm_ch A who low high pv d c p = gm_ch A who low high pv e c p := by
  intro d
  induction d with
  | zero =>
    intro e c p h0 h1 h2 h3 h4
    match e with
    | 0 => rfl
    | e + 1 =>
      unfold gm_ch
      rw [if_neg]
      rintro ⟨-, w, -⟩
      have := gm_nz_pos h0 h1 (show c p ≠ 0 by omega)
      omega
  | succ d ih =>
    intro e c p h0 h1 h2 h3 h4
    by_cases h : gm_sd A p ≠ who ∧ low ≤ c p ∧ c p ≤ high
    · have hz := gm_nz_up h0 h1 (show c p ≠ 0 by omega)
      have hp := gm_nz_pos h0 h1 (show c p ≠ 0 by omega)
      obtain ⟨e, rfl⟩ : ∃ g, e = g + 1 := ⟨e - 1, by omega⟩
      obtain ⟨q0, q1, q2⟩ := hg p h0 h1 h2
      unfold gm_ch
      rw [if_pos h, if_pos h]
      exact ih e _ _ q0 q1 q2 (by omega) (by omega)
    · have hd : ∀ n, gm_ch A who low high pv n c p = c := by
        intro n
        match n with
        | 0 => rfl
        | n + 1 => unfold gm_ch; rw [if_neg h]
      rw [hd, hd]
theorem gm_ch_st {A who low high : Int} {lk pv : Int → Int} (hg : gm_go A lk pv) : ∀ (d : Nat) (c : Int → Int) (p : Int), 0 ≤ p → p < A → lk p = 0 → gm_st A lk c → gm_st A lk (gm_ch A who low high pv d c p) ∧ gm_tot A (gm_ch A who low high pv d c p) ≤ gm_tot A c := by
  intro d
  induction d with
  | zero => intro c p h0 h1 h2 h3; exact ⟨h3, Int.le_refl _⟩
  | succ d ih =>
    intro c p h0 h1 h2 h3
    unfold gm_ch
    by_cases h : gm_sd A p ≠ who ∧ low ≤ c p ∧ c p ≤ high
    · rw [if_pos h]
      obtain ⟨q0, q1, q2⟩ := hg p h0 h1 h2
      have hn := h3.1 p h0 h1
      have ht := gm_tot_up (c := c) (v := 0) h0 h1
      obtain ⟨r1, r2⟩ := ih (gm_up c p 0) (pv p) q0 q1 q2 ⟨fun j a b => by
        by_cases e : j = p
        · subst e; rw [gm_up_s]; omega
        · rw [gm_up_n e]; exact h3.1 j a b, fun j a b w => by
        by_cases e : j = p
        · subst e; rw [gm_up_s]
        · rw [gm_up_n e]; exact h3.2.1 j a b w, by rw [ht]; have := h3.2.2; omega⟩
      exact ⟨r1, by omega⟩
    · rw [if_neg h]; exact ⟨h3, Int.le_refl _⟩
