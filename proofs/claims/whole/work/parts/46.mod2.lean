-- THE MODEL: its hand (left, taken, isLong, last), sowing
def am_mk (I : am_I) (c : Int → Int) (t l la : Int) : am_I := fun b j => if b = 91 then c j else if b = 85 ∧ j = 17 then t else if b = 85 ∧ j = 18 then l else if b = 85 ∧ j = 19 then la else I b j
def gm_up (c : Int → Int) (k v : Int) : Int → Int := fun j => if j = k then v else c j
theorem gm_up_s (c : Int → Int) (k v : Int) : gm_up c k v k = v := if_pos rfl
theorem gm_up_n {c : Int → Int} {k v j : Int} (h : j ≠ k) : gm_up c k v j = c j := if_neg h
section MK
variable {I : am_I} {c : Int → Int} {t l la : Int}
theorem am_mk_91 (j : Int) : am_mk I c t l la 91 j = c j := if_pos rfl
theorem am_mk_r : am_mk I c t l la 91 = c := by funext j; exact am_mk_91 j
theorem am_mk_17 : am_mk I c t l la 85 17 = t := by simp [am_mk]
theorem am_mk_18 : am_mk I c t l la 85 18 = l := by simp [am_mk]
theorem am_mk_19 : am_mk I c t l la 85 19 = la := by simp [am_mk]
theorem am_mk_85 {j : Int} (h : j < 17 ∨ 19 < j) : am_mk I c t l la 85 j = I 85 j := by
  unfold am_mk
  rw [if_neg (by decide), if_neg (by omega), if_neg (by omega), if_neg (by omega)]
theorem am_mk_b {b : Nat} (h1 : b ≠ 91) (h2 : b ≠ 85) (j : Int) : am_mk I c t l la b j = I b j := by
  unfold am_mk
  rw [if_neg h1, if_neg (fun w => h2 w.1), if_neg (fun w => h2 w.1), if_neg (fun w => h2 w.1)]
theorem am_mk_br {b : Nat} (h1 : b ≠ 91) (h2 : b ≠ 85) : am_mk I c t l la b = I b := by funext j; exact am_mk_b h1 h2 j
theorem am_mk_u91 (k v : Int) : am_u2 (am_mk I c t l la) 91 k v = am_mk I (gm_up c k v) t l la := by
  funext b j
  unfold am_u2 am_mk gm_up
  by_cases h : b = 91
  · subst h; by_cases h2 : j = k <;> simp [h2]
  · simp [h]
theorem am_mk_u17 (v : Int) : am_u2 (am_mk I c t l la) 85 17 v = am_mk I c v l la := by
  funext b j
  unfold am_u2 am_mk
  by_cases h : b = 85
  · subst h; by_cases h2 : j = 17 <;> simp [h2]
  · simp [h]
theorem am_mk_u18 (v : Int) : am_u2 (am_mk I c t l la) 85 18 v = am_mk I c t v la := by
  funext b j
  unfold am_u2 am_mk
  by_cases h : b = 85
  · subst h; by_cases h2 : j = 18
    · simp [h2]
    · by_cases h3 : j = 17 <;> simp [h2, h3]
  · simp [h]
theorem am_mk_u19 (v : Int) : am_u2 (am_mk I c t l la) 85 19 v = am_mk I c t l v := by
  funext b j
  unfold am_u2 am_mk
  by_cases h : b = 85
  · subst h; by_cases h2 : j = 19
    · simp [h2]
    · by_cases h3 : j = 17
      · simp [h3]
      · by_cases h4 : j = 18 <;> simp [h2, h3, h4]
  · simp [h]
theorem am_mk_id : am_mk I (I 91) (I 85 17) (I 85 18) (I 85 19) = I := by
  funext b j
  unfold am_mk
  by_cases h : b = 91
  · subst h; simp
  · by_cases h2 : b = 85
    · subst h2
      by_cases h3 : j = 17
      · simp [h3]
      · by_cases h4 : j = 18
        · simp [h4]
        · by_cases h5 : j = 19 <;> simp [h3, h4, h5]
    · simp [h, h2]
theorem am_mk_mk (c' : Int → Int) (t' l' la' : Int) : am_mk (am_mk I c t l la) c' t' l' la' = am_mk I c' t' l' la' := by
  funext b j
  unfold am_mk
  by_cases h : b = 91
  · simp [h]
  · by_cases h2 : b = 85
    · subst h2
      by_cases h3 : j = 17
      · simp [h3]
      · by_cases h4 : j = 18
        · simp [h4]
        · by_cases h5 : j = 19 <;> simp [h3, h4, h5]
    · simp [h, h2]
end MK
theorem mg.mk {I : am_I} {R C A : Int} (h : mg I R C A) (c : Int → Int) (t l la : Int) : mg (am_mk I c t l la) R C A := h.kept (am_mk_85 (by omega)) (am_mk_85 (by omega))
/-- the model's way -/
def mW (I : am_I) (C A : Int) : Prop := ∀ k, 0 ≤ k → k < A → I 89 k = gm_wy C k ∧ I 90 k = gm_wy C k
theorem mW.mk {I : am_I} {C A : Int} (h : mW I C A) (c : Int → Int) (t l la : Int) : mW (am_mk I c t l la) C A := by
  intro k h0 h1
  rw [am_mk_b (by decide) (by decide), am_mk_b (by decide) (by decide)]
  exact h k h0 h1
/-- the next pit -/
def gm_nx (A C : Int) (lk : Int → Int) (st own p : Int) : Int := gm_be A C lk st own A.toNat (gm_wy C p)
def gm_ex (A C : Int) (lk : Int → Int) (own : Int) : Prop := ∃ j, 0 ≤ j ∧ j < A ∧ gm_ok A lk own (gm_wy C j)
theorem gm_nx_at {R C A : Int} (hg : gm_g R C A) {lk : Int → Int} {st own p : Int} (hst : st = 1 ∨ st = -1) (hex : gm_ex A C lk own) : ∃ i : Nat, (i : Int) < A ∧ gm_ok A lk own (gm_at A C (gm_wy C p) st i) ∧ (∀ j, j < i → ¬ gm_ok A lk own (gm_at A C (gm_wy C p) st j)) ∧ gm_nx A C lk st own p = gm_at A C (gm_wy C p) st i := by
  have hA := hg.A
  obtain ⟨i, h1, h2, h3⟩ := gm_find (k := gm_wy C p) (by omega : 0 < A) hst hex
  exact ⟨i, h1, h2, h3, gm_be_at i _ _ (by omega) h2 h3⟩
theorem gm_nx_ok {R C A : Int} (hg : gm_g R C A) {lk : Int → Int} {st own p : Int} (hst : st = 1 ∨ st = -1) (hex : gm_ex A C lk own) : gm_ok A lk own (gm_nx A C lk st own p) ∧ 0 ≤ gm_nx A C lk st own p ∧ gm_nx A C lk st own p < A := by
  have hA := hg.A
  obtain ⟨i, h1, h2, h3, e⟩ := gm_nx_at (p := p) hg hst hex
  rw [e]
  refine ⟨h2, ?_⟩
  unfold gm_at
  have := gm_wy_b hg (Int.emod_nonneg _ (by omega)) (Int.emod_lt_of_pos (gm_wy C p + st * ((i : Int) + 1)) (by omega : 0 < A))
  exact ⟨this.1, this.2.1⟩
section MOD2
variable {N : Nat} {K : am_K} {F : am_F} {I : am_I} {R C A : Int}
theorem m_beside_l (hm : mw K F) (h : mg I R C A) (hw : mW I C A) {st own : Int} (hst : st = 1 ∨ st = -1) : ∀ (i f : Nat) (k : Int), i < f → 0 ≤ k → k < A → gm_ok A (I 86) own (gm_at A C k st i) → (∀ j, j < i → ¬ gm_ok A (I 86) own (gm_at A C k st j)) → X12_beside_h11 N K F I 85 f st own k = some (gm_at A C k st i) := by
  have hA := h.A
  intro i
  induction i with
  | zero =>
    intro f k hf h0 h1 hok _
    obtain ⟨f, rfl⟩ : ∃ g, f = g + 1 := ⟨f - 1, by omega⟩
    rw [gm_at_0] at hok ⊢
    have k0 := Int.emod_nonneg (k + st + A) (show A ≠ 0 by omega)
    have k1 := Int.emod_lt_of_pos (k + st + A) (show 0 < A by omega)
    obtain ⟨w0, w1, -⟩ := gm_wy_b h.g k0 k1
    show X12_beside_s11 N K F I 85 (X12_beside_h11 N K F I 85 f) st own k = _
    generalize X12_beside_h11 N K F I 85 f = kk
    unfold X12_beside_s11 X12_beside_b60
    simp only [m_all h, am_cq_s, am_lt, mwF_85_2 hm, mwK_86 hm, mwF_85_13 hm, mwK_89 hm]
    rw [if_pos (nb_in (by omega)), if_pos (nb_in (by omega)), if_pos (by omega), nb_irem (nb_in (by omega)) (nb_in (by omega)) (by omega) (by omega)]
    rw [if_pos trivial, if_pos (by omega), (hw _ k0 k1).1, if_pos trivial, if_pos (by omega), if_pos hok.1]
    by_cases ho : 0 ≤ own
    · rw [if_pos ho, m_sideOf h w0 (by omega), am_cq_s, if_pos (hok.2 ho)]
    · rw [if_neg ho]
  | succ i ih =>
    intro f k hf h0 h1 hok hno
    obtain ⟨f, rfl⟩ : ∃ g, f = g + 1 := ⟨f - 1, by omega⟩
    have k0 := Int.emod_nonneg (k + st + A) (show A ≠ 0 by omega)
    have k1 := Int.emod_lt_of_pos (k + st + A) (show 0 < A by omega)
    obtain ⟨w0, w1, -⟩ := gm_wy_b h.g k0 k1
    have hn := hno 0 (by omega)
    rw [gm_at_0] at hn
    have hr := ih f ((k + st + A) % A) (by omega) k0 k1 (by rw [gm_at_s]; exact hok) (fun j hj => by rw [gm_at_s]; exact hno (j + 1) (by omega))
    rw [gm_at_s] at hr
    rw [← hr]
    show X12_beside_s11 N K F I 85 (X12_beside_h11 N K F I 85 f) st own k = _
    generalize X12_beside_h11 N K F I 85 f = kk
    unfold X12_beside_s11 X12_beside_b60
    simp only [m_all h, am_cq_s, am_lt, mwF_85_2 hm, mwK_86 hm, mwF_85_13 hm, mwK_89 hm]
    rw [if_pos (nb_in (by omega)), if_pos (nb_in (by omega)), if_pos (by omega), nb_irem (nb_in (by omega)) (nb_in (by omega)) (by omega) (by omega)]
    rw [if_pos trivial, if_pos (by omega), (hw _ k0 k1).1, if_pos trivial, if_pos (by omega)]
    by_cases hl : I 86 (gm_wy C ((k + st + A) % A)) = 0
    · rw [if_pos hl]
      have ho : 0 ≤ own := by
        by_cases ho : 0 ≤ own
        · exact ho
        · exact absurd ⟨hl, fun w => absurd w ho⟩ hn
      rw [if_pos ho, m_sideOf h w0 (by omega), am_cq_s, if_neg (fun w => hn ⟨hl, fun _ => w⟩)]
    · rw [if_neg hl]
theorem m_beside (hm : mw K F) (h : mg I R C A) (hw : mW I C A) (hN : 33 < N) {st own p : Int} (hst : st = 1 ∨ st = -1) (hex : gm_ex A C (I 86) own) (h0 : 0 ≤ p) (h1 : p < A) : X12_beside N K F I 85 p st own = some (gm_nx A C (I 86) st own p) := by
  have hA := h.A
  obtain ⟨i, i1, i2, i3, e⟩ := gm_nx_at (p := p) h.g hst hex
  obtain ⟨w0, w1, -⟩ := gm_wy_b h.g h0 h1
  unfold X12_beside
  simp only [am_lt, mwF_85_14 hm, mwK_90 hm]
  rw [if_pos trivial, if_pos (by omega), (hw p h0 h1).2, m_beside_l hm h hw hst i N _ (by omega) w0 w1 i2 i3, e]
/-- sowing one by one -/
def gm_sw (nx : Int → Int) : Nat → (Int → Int) × Int → (Int → Int) × Int
  | 0, s => s
  | h + 1, s => gm_sw nx h (gm_up s.1 (nx s.2) (s.1 (nx s.2) + 1), nx s.2)
theorem m_sow_l (hm : mw K F) (h : mg I R C A) (hw : mW I C A) (hN : 33 < N) {own : Int} (hex : gm_ex A C (I 86) own) {t l la : Int} : ∀ (d f : Nat) (c : Int → Int) (p : Int), d < f → d ≤ 1200000 → 0 ≤ p → p < A → (∀ j, 0 ≤ j → j < A → 0 ≤ c j ∧ c j + d ≤ 1200000) →
    X12_sow_h17 N K F 85 f (am_mk I c t l la) own (d : Int) p = some (0, am_mk I (gm_sw (gm_nx A C (I 86) 1 own) d (c, p)).1 t l (gm_sw (gm_nx A C (I 86) 1 own) d (c, p)).2) := by
  have hA := h.A
  intro d
  induction d with
  | zero =>
    intro f c p hf _ h0 h1 hc
    obtain ⟨f, rfl⟩ : ∃ g, f = g + 1 := ⟨f - 1, by omega⟩
    show X12_sow_s17 N K F 85 (X12_sow_h17 N K F 85 f) _ own 0 p = _
    unfold X12_sow_s17
    rw [if_neg (by omega)]
    simp only [am_lt, am_mk_u19, gm_sw]
  | succ d ih =>
    intro f c p hf hd h0 h1 hc
    obtain ⟨f, rfl⟩ : ∃ g, f = g + 1 := ⟨f - 1, by omega⟩
    obtain ⟨-, q0, q1⟩ := gm_nx_ok (p := p) (st := 1) h.g (Or.inl rfl) hex
    have hr := ih f (gm_up c (gm_nx A C (I 86) 1 own p) (c (gm_nx A C (I 86) 1 own p) + 1)) (gm_nx A C (I 86) 1 own p) (by omega) (by omega) q0 q1 (fun j a b => by
      have := hc j a b
      by_cases e : j = gm_nx A C (I 86) 1 own p
      · subst e; rw [gm_up_s]; omega
      · rw [gm_up_n e]; omega)
    have hcq := hc _ q0 q1
    have hb := m_beside (I := am_mk I c t l la) (p := p) (st := 1) (own := own) hm (h.mk c t l la) (hw.mk c t l la) hN (Or.inl rfl) (by rw [am_mk_br (by decide) (by decide)]; exact hex) h0 h1
    rw [am_mk_br (by decide) (by decide)] at hb
    show X12_sow_s17 N K F 85 (X12_sow_h17 N K F 85 f) _ own _ p = _
    show _ = some (0, am_mk I (gm_sw (gm_nx A C (I 86) 1 own) d (gm_up c (gm_nx A C (I 86) 1 own p) (c (gm_nx A C (I 86) 1 own p) + 1), gm_nx A C (I 86) 1 own p)).1 t l (gm_sw (gm_nx A C (I 86) 1 own) d (gm_up c (gm_nx A C (I 86) 1 own p) (c (gm_nx A C (I 86) 1 own p) + 1), gm_nx A C (I 86) 1 own p)).2)
    rw [← hr]
    generalize X12_sow_h17 N K F 85 f = kk
    unfold X12_sow_s17
    simp only [hb, am_cq_s, am_lt, mwF_85_16 hm, mwK_91 hm, am_mk_91, am_mk_u91]
    rw [if_pos (by omega), if_pos trivial, if_pos (by omega), if_pos (nb_in (by omega)), if_pos (by decide), if_pos (nb_in (by omega))]
    rw [show ((d + 1 : Nat) : Int) + -1 = (d : Int) by omega]
theorem m_sow (hm : mw K F) (h : mg I R C A) (hw : mW I C A) (hN : 1200001 < N) {own p : Int} (hex : gm_ex A C (I 86) own) {c : Int → Int} {t l la : Int} (h0 : 0 ≤ p) (h1 : p < A) (hc : gm_bd A c) :
    X12_sow N K F 85 (am_mk I c t l la) p own = some (0, am_mk I (gm_sw (gm_nx A C (I 86) 1 own) (c p).toNat (gm_up c p 0, p)).1 t l (gm_sw (gm_nx A C (I 86) 1 own) (c p).toNat (gm_up c p 0, p)).2) := by
  have hA := h.A
  have hcp := hc p h0 h1
  have hl := m_sow_l (N := N) (t := t) (l := l) (la := la) hm h hw (by omega) hex (c p).toNat N (gm_up c p 0) p (by omega) (by omega) h0 h1 (fun j a b => by
    have := hc j a b
    by_cases e : j = p
    · subst e; rw [gm_up_s]; omega
    · rw [gm_up_n e]; omega)
  unfold X12_sow
  simp only [am_lt, mwF_85_16 hm, mwK_91 hm, am_mk_91, am_mk_u91]
  rw [if_pos trivial, if_pos (by omega), if_pos (by decide)]
  rw [show (((c p).toNat : Nat) : Int) = c p by omega] at hl
  exact hl
/-- one sowing of the pit at which the hand is -/
def gm_s1 (nx : Int → Int) (s : (Int → Int) × Int) : (Int → Int) × Int := gm_sw nx (s.1 s.2).toNat (gm_up s.1 s.2 0, s.2)
theorem m_sow1 (hm : mw K F) (h : mg I R C A) (hw : mW I C A) (hN : 1200001 < N) {own p : Int} (hex : gm_ex A C (I 86) own) {c : Int → Int} {t l la : Int} (h0 : 0 ≤ p) (h1 : p < A) (hc : gm_bd A c) :
    X12_sow N K F 85 (am_mk I c t l la) p own = some (0, am_mk I (gm_s1 (gm_nx A C (I 86) 1 own) (c, p)).1 t l (gm_s1 (gm_nx A C (I 86) 1 own) (c, p)).2) := m_sow hm h hw hN hex h0 h1 hc
end MOD2
