-- SOWING BY LAPS
def gm_sv (nx : Int → Int) (v : Int) : Nat → (Int → Int) × Int → (Int → Int) × Int
  | 0, s => s
  | h + 1, s => gm_sv nx v h (gm_up s.1 (nx s.2) (s.1 (nx s.2) + v), nx s.2)
theorem gm_sw_sv (nx : Int → Int) : ∀ (d : Nat) (s : (Int → Int) × Int), gm_sw nx d s = gm_sv nx 1 d s
  | 0, _ => rfl
  | d + 1, s => by unfold gm_sw gm_sv; exact gm_sw_sv nx d _
/-- d steps on -/
def gm_itr (nx : Int → Int) : Nat → Int → Int
  | 0, p => p
  | d + 1, p => gm_itr nx d (nx p)
/-- how often q is come to in d steps -/
def gm_vs (nx : Int → Int) : Nat → Int → Int → Int
  | 0, _, _ => 0
  | d + 1, p, q => (if nx p = q then 1 else 0) + gm_vs nx d (nx p) q
theorem gm_vs_b (nx : Int → Int) : ∀ (d : Nat) (p q : Int), 0 ≤ gm_vs nx d p q ∧ gm_vs nx d p q ≤ d
  | 0, _, _ => by simp [gm_vs]
  | d + 1, p, q => by
    have := gm_vs_b nx d (nx p) q
    unfold gm_vs
    split <;> omega
theorem gm_sv_vs (nx : Int → Int) (v : Int) : ∀ (d : Nat) (c : Int → Int) (p : Int), gm_sv nx v d (c, p) = (fun q => c q + v * gm_vs nx d p q, gm_itr nx d p)
  | 0, c, p => by simp [gm_sv, gm_vs, gm_itr]
  | d + 1, c, p => by
    show gm_sv nx v d (gm_up c (nx p) (c (nx p) + v), nx p) = _
    rw [gm_sv_vs nx v d]
    refine Prod.ext ?_ rfl
    funext q
    show gm_up c (nx p) (c (nx p) + v) q + v * gm_vs nx d (nx p) q = c q + v * ((if nx p = q then 1 else 0) + gm_vs nx d (nx p) q)
    rw [Int.mul_add]
    unfold gm_up
    by_cases e : q = nx p
    · subst e; rw [if_pos rfl, if_pos rfl, Int.mul_one]; omega
    · rw [if_neg e, if_neg (fun w => e w.symm), Int.mul_zero]; omega
theorem gm_itr_add (nx : Int → Int) : ∀ (a b : Nat) (p : Int), gm_itr nx (a + b) p = gm_itr nx b (gm_itr nx a p)
  | 0, b, p => by simp [gm_itr]
  | a + 1, b, p => by rw [show a + 1 + b = (a + b) + 1 by omega]; exact gm_itr_add nx a b (nx p)
theorem gm_vs_add (nx : Int → Int) : ∀ (a b : Nat) (p q : Int), gm_vs nx (a + b) p q = gm_vs nx a p q + gm_vs nx b (gm_itr nx a p) q
  | 0, b, p, q => by simp [gm_itr, gm_vs]
  | a + 1, b, p, q => by
    rw [show a + 1 + b = (a + b) + 1 by omega]
    show (if nx p = q then 1 else 0) + gm_vs nx (a + b) (nx p) q = (if nx p = q then 1 else 0) + gm_vs nx a (nx p) q + gm_vs nx b (gm_itr nx a (nx p)) q
    rw [gm_vs_add nx a b]; omega
theorem gm_laps (nx : Int → Int) {L : Nat} {p : Int} (hp : gm_itr nx L p = p) : ∀ k : Nat, gm_itr nx (k * L) p = p ∧ ∀ q, gm_vs nx (k * L) p q = k * gm_vs nx L p q
  | 0 => by simp [gm_itr, gm_vs]
  | k + 1 => by
    obtain ⟨h1, h2⟩ := gm_laps nx hp k
    rw [show (k + 1) * L = k * L + L by rw [Nat.add_mul, Nat.one_mul]]
    refine ⟨by rw [gm_itr_add, h1, hp], fun q => ?_⟩
    rw [gm_vs_add, h1, h2, Int.natCast_add, Int.add_mul]
    simp
/-- whole laps at once -/
theorem gm_sw_laps (nx : Int → Int) {L : Nat} {p : Int} (hp : gm_itr nx L p = p) (k r : Nat) (c : Int → Int) : gm_sw nx (k * L + r) (c, p) = gm_sw nx r (gm_sv nx k L (c, p)) := by
  obtain ⟨h1, h2⟩ := gm_laps nx hp k
  rw [gm_sv_vs, hp, gm_sw_sv, gm_sw_sv, gm_sv_vs, gm_sv_vs]
  refine Prod.ext ?_ ?_
  · funext q
    show c q + 1 * gm_vs nx (k * L + r) p q = c q + (k : Int) * gm_vs nx L p q + 1 * gm_vs nx r p q
    rw [gm_vs_add, h1, h2, Int.one_mul, Int.one_mul]; omega
  · show gm_itr nx (k * L + r) p = gm_itr nx r p
    rw [gm_itr_add, h1]
/-- the links agree with the way of going on -/
theorem gm_sv_congr {nx nx' : Int → Int} {P : Int → Prop} (hP : ∀ p, P p → nx p = nx' p ∧ P (nx p)) (v : Int) : ∀ (d : Nat) (s : (Int → Int) × Int), P s.2 → gm_sv nx v d s = gm_sv nx' v d s ∧ P (gm_sv nx v d s).2
  | 0, s, h => ⟨rfl, h⟩
  | d + 1, s, h => by
    obtain ⟨h1, h2⟩ := hP s.2 h
    have := gm_sv_congr hP v d (gm_up s.1 (nx s.2) (s.1 (nx s.2) + v), nx s.2) h2
    unfold gm_sv
    rw [← h1]
    exact this
theorem gm_sw_congr {nx nx' : Int → Int} {P : Int → Prop} (hP : ∀ p, P p → nx p = nx' p ∧ P (nx p)) (d : Nat) (s : (Int → Int) × Int) (h : P s.2) : gm_sw nx d s = gm_sw nx' d s := by
  rw [gm_sw_sv, gm_sw_sv]; exact (gm_sv_congr hP 1 d s h).1
theorem gm_s1_congr {nx nx' : Int → Int} {P : Int → Prop} (hP : ∀ p, P p → nx p = nx' p ∧ P (nx p)) (s : (Int → Int) × Int) (h : P s.2) : gm_s1 nx s = gm_s1 nx' s := gm_sw_congr hP _ _ h
theorem gm_sw_P {nx : Int → Int} {P : Int → Prop} (hP : ∀ p, P p → P (nx p)) (d : Nat) (s : (Int → Int) × Int) (h : P s.2) : P (gm_sw nx d s).2 := by
  rw [gm_sw_sv]; exact (gm_sv_congr (nx' := nx) (fun p hp => ⟨rfl, hP p hp⟩) 1 d s h).2
theorem gm_rl_congr {nx nx' : Int → Int} {P : Int → Prop} (hP : ∀ p, P p → nx p = nx' p ∧ P (nx p)) : ∀ (r : Nat) (s : (Int → Int) × Int), P s.2 → gm_rl nx r s = gm_rl nx' r s
  | 0, _, _ => rfl
  | r + 1, s, h => by
    unfold gm_rl
    rw [gm_s1_congr hP s h]
    split
    · exact gm_rl_congr hP r _ (by rw [← gm_s1_congr hP s h]; exact gm_sw_P (fun p hp => (hP p hp).2) _ _ h)
    · rfl
theorem gm_itr_congr {nx nx' : Int → Int} {P : Int → Prop} (hP : ∀ p, P p → nx p = nx' p ∧ P (nx p)) : ∀ (d : Nat) (p : Int), P p → gm_itr nx d p = gm_itr nx' d p
  | 0, _, _ => rfl
  | d + 1, p, h => by
    obtain ⟨h1, h2⟩ := hP p h
    unfold gm_itr
    rw [← h1]; exact gm_itr_congr hP d _ h2
-- THE CLASS'S SOWING
section SOW
variable {N : Nat} {K : am_K} {F : am_F} {I : am_I}
theorem am_row_u (c : Int → Int) (r : Nat) (k v : Int) : am_u2 (am_row I r c) r k v = am_row I r (gm_up c k v) := by
  rw [am_u2_row, am_row_row]
  congr 1
  funext j
  unfold gm_up
  rw [am_row_s]
theorem c_sow_2 {r a2 : Nat} (hr : K r = (100, 32)) (h2 : K a2 = (100, 32)) (hne : a2 ≠ r) (hr1 : r ≠ 1) {P : Int → Prop} (hP : ∀ p, P p → (0 ≤ p ∧ p < 32) ∧ P (I a2 p)) {x4 : Int} : ∀ (d f : Nat) (c : Int → Int) (p x : Int), d < f → x4 - x = d → 0 ≤ x → x4 ≤ 1200000 → P p → (∀ q, 0 ≤ q → q < 32 → -100000000 ≤ c q ∧ c q + d ≤ 100000000) →
    X10_sow_h70 N K F f (am_row I r c) r a2 x4 p x = some ((gm_sw (I a2) d (c, p)).2, am_row I r (gm_sw (I a2) d (c, p)).1) := by
  intro d
  induction d with
  | zero =>
    intro f c p x hf hx x0 x4b hp hc
    obtain ⟨f, rfl⟩ : ∃ g, f = g + 1 := ⟨f - 1, by omega⟩
    show X10_sow_s70 N K F (X10_sow_h70 N K F f) _ r a2 x4 p x = _
    unfold X10_sow_s70
    rw [if_neg (by omega)]
    rfl
  | succ d ih =>
    intro f c p x hf hx x0 x4b hp hc
    obtain ⟨f, rfl⟩ : ∃ g, f = g + 1 := ⟨f - 1, by omega⟩
    obtain ⟨p1, p2⟩ := hP p hp
    obtain ⟨q1, q2⟩ := hP _ p2
    have hcq := hc _ q1.1 q1.2
    have hr2 := ih f (gm_up c (I a2 p) (c (I a2 p) + 1)) (I a2 p) (x + 1) (by omega) (by omega) (by omega) x4b p2 (fun q a b => by
      have := hc q a b
      by_cases e : q = I a2 p
      · subst e; rw [gm_up_s]; omega
      · rw [gm_up_n e]; omega)
    show X10_sow_s70 N K F (X10_sow_h70 N K F f) _ r a2 x4 p x = some ((gm_sw (I a2) d (gm_up c (I a2 p) (c (I a2 p) + 1), I a2 p)).2, am_row I r (gm_sw (I a2) d (gm_up c (I a2 p) (c (I a2 p) + 1), I a2 p)).1)
    rw [← hr2]
    generalize X10_sow_h70 N K F f = kk
    unfold X10_sow_s70
    simp only [h2, hr, am_lt, am_row_n hne, am_row_s, am_row_u]
    rw [if_pos (by omega), if_pos trivial, if_pos (by omega), if_pos trivial, if_pos (by omega), if_pos (nb_in (by omega)), if_pos hr1, if_pos (nb_in (by omega))]
theorem c_sow_1 {r a2 : Nat} (hr : K r = (100, 32)) (h2 : K a2 = (100, 32)) (hne : a2 ≠ r) (hr1 : r ≠ 1) {P : Int → Prop} (hP : ∀ p, P p → (0 ≤ p ∧ p < 32) ∧ P (I a2 p)) {x3 x4 x6 : Int} (hL : 0 ≤ x3 ∧ x3 ≤ 32) (h4 : 0 ≤ x4 ∧ x4 ≤ 1200000) (h6 : 0 ≤ x6 ∧ x6 ≤ 1200000) (h46 : 0 ≤ x4 - x6 * x3 ∧ x4 - x6 * x3 ≤ 1200000) : ∀ (d f : Nat) (c : Int → Int) (p x : Int), d < f → x3 - x = d → 0 ≤ x → P p → (∀ q, 0 ≤ q → q < 32 → -1000 ≤ c q ∧ c q + 1200000 * d ≤ 60000000) →
    X10_sow_h31 N K F f (am_row I r c) r a2 x3 x4 p x6 x = X10_sow_b67 N K F (am_row I r (gm_sv (I a2) x6 d (c, p)).1) r a2 (x4 - x6 * x3) (gm_sv (I a2) x6 d (c, p)).2 := by
  intro d
  induction d with
  | zero =>
    intro f c p x hf hx x0 hp hc
    obtain ⟨f, rfl⟩ : ∃ g, f = g + 1 := ⟨f - 1, by omega⟩
    show X10_sow_s31 N K F (X10_sow_h31 N K F f) _ r a2 x3 x4 p x6 x = _
    unfold X10_sow_s31
    simp only [am_lt]
    rw [if_neg (by omega), if_pos (nb_in (by omega)), if_pos (nb_in (by omega))]
    rfl
  | succ d ih =>
    intro f c p x hf hx x0 hp hc
    obtain ⟨f, rfl⟩ : ∃ g, f = g + 1 := ⟨f - 1, by omega⟩
    obtain ⟨p1, p2⟩ := hP p hp
    obtain ⟨q1, q2⟩ := hP _ p2
    have hcq := hc _ q1.1 q1.2
    have hr2 := ih f (gm_up c (I a2 p) (c (I a2 p) + x6)) (I a2 p) (x + 1) (by omega) (by omega) (by omega) p2 (fun q a b => by
      have := hc q a b
      by_cases e : q = I a2 p
      · subst e; rw [gm_up_s]; omega
      · rw [gm_up_n e]; omega)
    show X10_sow_s31 N K F (X10_sow_h31 N K F f) _ r a2 x3 x4 p x6 x = X10_sow_b67 N K F (am_row I r (gm_sv (I a2) x6 d (gm_up c (I a2 p) (c (I a2 p) + x6), I a2 p)).1) r a2 (x4 - x6 * x3) (gm_sv (I a2) x6 d (gm_up c (I a2 p) (c (I a2 p) + x6), I a2 p)).2
    rw [← hr2]
    generalize X10_sow_h31 N K F f = kk
    unfold X10_sow_s31
    simp only [h2, hr, am_lt, am_row_n hne, am_row_s, am_row_u]
    rw [if_pos (by omega), if_pos trivial, if_pos (by omega), if_pos trivial, if_pos (by omega), if_pos (nb_in (by omega)), if_pos hr1, if_pos (nb_in (by omega))]
theorem c_sow {r a2 : Nat} (hr : K r = (100, 32)) (h2 : K a2 = (100, 32)) (hne : a2 ≠ r) (hr1 : r ≠ 1) (hN : 2000000 < N) {P : Int → Prop} (hP : ∀ p, P p → (0 ≤ p ∧ p < 32) ∧ P (I a2 p)) {L : Int} (hL : 0 ≤ L ∧ L ≤ 32) {p : Int} (hp : P p) (hper : gm_itr (I a2) L.toNat p = p) {c : Int → Int} (hc : ∀ q, 0 ≤ q → q < 32 → 0 ≤ c q ∧ c q ≤ 600000) :
    X10_sow N K F (am_row I r c) r p a2 L = some ((gm_s1 (I a2) (c, p)).2, am_row I r (gm_s1 (I a2) (c, p)).1) := by
  obtain ⟨p1, p2⟩ := hP p hp
  have hcp := hc p p1.1 p1.2
  have hc0 : ∀ q, 0 ≤ q → q < 32 → 0 ≤ gm_up c p 0 q ∧ gm_up c p 0 q ≤ 600000 := fun q a b => by
    have := hc q a b
    by_cases e : q = p
    · subst e; rw [gm_up_s]; omega
    · rw [gm_up_n e]; omega
  unfold X10_sow
  simp only [hr, am_lt, am_row_s, am_row_u]
  rw [if_pos trivial, if_pos (by omega), if_pos hr1]
  have plain : X10_sow_b67 N K F (am_row I r (gm_up c p 0)) r a2 (c p) p = some ((gm_s1 (I a2) (c, p)).2, am_row I r (gm_s1 (I a2) (c, p)).1) := by
    unfold X10_sow_b67
    exact c_sow_2 hr h2 hne hr1 hP (c p).toNat N _ p 0 (by omega) (by omega) (by omega) (by omega) hp (fun q a b => by have := hc0 q a b; omega)
  by_cases h0 : 0 < L
  · rw [if_pos h0]
    by_cases h1 : L ≤ c p
    · rw [if_pos h1, if_pos (by omega), nb_idiv (nb_in (by omega)) (nb_in (by omega)) (by omega) h0]
      have d1 : 0 ≤ c p / L := Int.ediv_nonneg (by omega) (by omega)
      have d2 : c p / L ≤ c p := Int.ediv_le_self L (by omega)
      have d3 : c p / L * L + c p % L = c p := by rw [Int.mul_comm]; exact Int.mul_ediv_add_emod (c p) L
      have d4 := Int.emod_nonneg (c p) (show L ≠ 0 by omega)
      have d5 := Int.emod_lt_of_pos (c p) h0
      rw [c_sow_1 hr h2 hne hr1 hP hL (by omega) (by omega) (by omega) L.toNat N (gm_up c p 0) p 0 (by omega) (by omega) (by omega) hp (fun q a b => by have := hc0 q a b; omega)]
      have e1 : c p - c p / L * L = c p % L := by omega
      rw [e1]
      have hit : (gm_sv (I a2) (c p / L) L.toNat (gm_up c p 0, p)).2 = p := by rw [gm_sv_vs]; exact hper
      have hcv : ∀ q, 0 ≤ q → q < 32 → -100000000 ≤ (gm_sv (I a2) (c p / L) L.toNat (gm_up c p 0, p)).1 q ∧ (gm_sv (I a2) (c p / L) L.toNat (gm_up c p 0, p)).1 q + ((c p % L).toNat : Nat) ≤ 100000000 := by
        intro q a b
        rw [gm_sv_vs]
        have := hc0 q a b
        obtain ⟨v1, v2⟩ := gm_vs_b (I a2) L.toNat p q
        have m1 : 0 ≤ c p / L * gm_vs (I a2) L.toNat p q := Int.mul_nonneg d1 v1
        have m2 : c p / L * gm_vs (I a2) L.toNat p q ≤ 600000 * 32 := Int.mul_le_mul (by omega) (by omega) v1 (by omega)
        dsimp only
        omega
      unfold X10_sow_b67
      rw [hit, c_sow_2 hr h2 hne hr1 hP (c p % L).toNat N _ p 0 (by omega) (by omega) (by omega) (by omega) hp hcv]
      have hs : gm_s1 (I a2) (c, p) = gm_sw (I a2) (c p % L).toNat (gm_sv (I a2) ((c p / L).toNat : Nat) L.toNat (gm_up c p 0, p)) := by
        rw [← gm_sw_laps (I a2) hper]
        unfold gm_s1
        have : (c p).toNat = (c p / L).toNat * L.toNat + (c p % L).toNat := by
          have e2 : ((c p / L).toNat : Int) = c p / L := by omega
          have e3 : (L.toNat : Int) = L := by omega
          have e4 : (((c p / L).toNat * L.toNat : Nat) : Int) = c p / L * L := by rw [Int.natCast_mul, e2, e3]
          omega
        rw [← this]
      rw [hs, show (((c p / L).toNat : Nat) : Int) = c p / L by omega]
      rw [show gm_sv (I a2) (c p / L) L.toNat (gm_up c p 0, p) = ((gm_sv (I a2) (c p / L) L.toNat (gm_up c p 0, p)).1, p) from Prod.ext rfl hit]
    · rw [if_neg h1]; exact plain
  · rw [if_neg h0]; exact plain
end SOW
