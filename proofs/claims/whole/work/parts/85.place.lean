-- PLACES: codes of moves, layers
theorem nb_code {p t o : Int} (hp : 0 ≤ p ∧ p < 32) (ht : 0 ≤ t ∧ t < 16) (ho : 0 ≤ o ∧ o < 65536) : am_ior (am_ior (am_ishl p 20) (am_ishl t 16)) o = p * 1048576 + t * 65536 + o := by
  have e1 : am_ishl p 20 = p * 1048576 := by
    have := nb_ishl (x := p) (n := 20) (by decide) hp.1 (by rw [show (2 : Int) ^ 20 = 1048576 by decide]; omega)
    rw [show (2 : Int) ^ 20 = 1048576 by decide] at this
    exact this
  have e2 : am_ishl t 16 = t * 65536 := by
    have := nb_ishl (x := t) (n := 16) (by decide) ht.1 (by rw [show (2 : Int) ^ 16 = 65536 by decide]; omega)
    rw [show (2 : Int) ^ 16 = 65536 by decide] at this
    exact this
  have h1 : 1048576 * p.toNat + 65536 * t.toNat = 1048576 * p.toNat ||| 65536 * t.toNat := Nat.two_pow_add_eq_or_of_lt (i := 20) (by omega) p.toNat
  have h2 : 65536 * (16 * p.toNat + t.toNat) + o.toNat = 65536 * (16 * p.toNat + t.toNat) ||| o.toNat := Nat.two_pow_add_eq_or_of_lt (i := 16) (by omega) (16 * p.toNat + t.toNat)
  have e3 : am_ior (p * 1048576) (t * 65536) = p * 1048576 + t * 65536 := by
    rw [nb_ior (by omega) (by omega), show (p * 1048576).toNat = 1048576 * p.toNat by omega, show (t * 65536).toNat = 65536 * t.toNat by omega, ← h1]
    omega
  rw [e1, e2, e3, nb_ior (by omega) (by omega), show (p * 1048576 + t * 65536).toNat = 65536 * (16 * p.toNat + t.toNat) by omega, ← h2]
  omega
theorem nb_pit {c p t o : Int} (hc : c = p * 1048576 + t * 65536 + o) (hp : 0 ≤ p ∧ p < 32) (ht : 0 ≤ t ∧ t < 16) (ho : 0 ≤ o ∧ o < 65536) : am_ishr c 20 = p := by
  have := nb_ishr (x := c) (n := 20) (by decide) (by omega) (by omega)
  rw [show (2 : Int) ^ 20 = 1048576 by decide] at this
  have h2 : am_ishr c 20 = c / 1048576 := this
  rw [h2]
  omega
theorem nb_tkn {c p t o : Int} (hc : c = p * 1048576 + t * 65536 + o) (hp : 0 ≤ p ∧ p < 32) (ht : 0 ≤ t ∧ t < 16) (ho : 0 ≤ o ∧ o < 65536) : am_iand (am_ishr c 16) 15 = t := by
  have := nb_ishr (x := c) (n := 16) (by decide) (by omega) (by omega)
  rw [show (2 : Int) ^ 16 = 65536 by decide] at this
  have h2 : am_ishr c 16 = c / 65536 := this
  have h3 := nb_iandm (x := c / 65536) 4 (by decide) (by omega)
  rw [show (2 : Int) ^ 4 = 16 by decide] at h3
  have h4 : am_iand (c / 65536) 15 = c / 65536 % 16 := h3
  rw [h2, h4]
  omega
theorem nb_beh {c p t o : Int} (hc : c = p * 1048576 + t * 65536 + o) (hp : 0 ≤ p ∧ p < 32) (ht : 0 ≤ t ∧ t < 16) (ho : 0 ≤ o ∧ o < 65536) : am_iand c 65535 = o := by
  have h3 := nb_iandm (x := c) 16 (by decide) (by omega)
  rw [show (2 : Int) ^ 16 = 65536 by decide] at h3
  have h4 : am_iand c 65535 = c % 65536 := h3
  rw [h4]
  omega
/-- the p whose number among the chosen is i -/
def gm_sel (g : Int → Int) : Nat → Int → Int
  | 0, _ => 0
  | d + 1, i => if g (d : Int) = 1 ∧ gm_sm g d = i then (d : Int) else gm_sel g d i
theorem gm_sel_ok {g : Int → Int} (h01 : ∀ p, g p = 0 ∨ g p = 1) : ∀ (d : Nat) (i : Int), 0 ≤ i → i < gm_sm g d → 0 ≤ gm_sel g d i ∧ gm_sel g d i < d ∧ g (gm_sel g d i) = 1 ∧ gm_sm g (gm_sel g d i).toNat = i
  | 0, i, h0, h1 => by unfold gm_sm at h1; omega
  | d + 1, i, h0, h1 => by
    unfold gm_sel
    rw [gm_sm_s] at h1
    by_cases q : g (d : Int) = 1 ∧ gm_sm g d = i
    · rw [if_pos q]; exact ⟨by omega, by omega, q.1, by rw [Int.toNat_natCast]; exact q.2⟩
    · rw [if_neg q]
      have hi : i < gm_sm g d := by
        rcases h01 (d : Int) with w | w
        · omega
        · have : gm_sm g d ≠ i := fun v => q ⟨w, v⟩
          omega
      have := gm_sel_ok h01 d i h0 hi
      exact ⟨this.1, by omega, this.2.2.1, this.2.2.2⟩
theorem gm_sm_mono {g : Int → Int} (h01 : ∀ p, g p = 0 ∨ g p = 1) (a m : Nat) : gm_sm g a ≤ gm_sm g (a + m) := gm_smm (fun i => by rcases h01 i with w | w <;> omega) a m
theorem gm_sm_str {g : Int → Int} (h01 : ∀ p, g p = 0 ∨ g p = 1) {a b : Nat} (h : a < b) (ha : g (a : Int) = 1) : gm_sm g a + 1 ≤ gm_sm g b := by
  have := gm_sm_mono h01 (a + 1) (b - (a + 1))
  rw [show a + 1 + (b - (a + 1)) = b by omega, gm_sm_s, ha] at this
  exact this
theorem gm_sel_of {g : Int → Int} (h01 : ∀ p, g p = 0 ∨ g p = 1) {d : Nat} {p : Nat} (hp : p < d) (hg : g (p : Int) = 1) : gm_sel g d (gm_sm g p) = (p : Int) := by
  have h1 := gm_sm_str h01 hp hg
  have h0 : 0 ≤ gm_sm g p := by have := gm_sm_mono h01 0 p; rw [Nat.zero_add] at this; exact this
  obtain ⟨a, b, c, e⟩ := gm_sel_ok h01 d (gm_sm g p) h0 (by omega)
  generalize hs : gm_sel g d (gm_sm g p) = q at *
  have hq : ((q.toNat : Nat) : Int) = q := by omega
  rcases Nat.lt_trichotomy q.toNat p with w | w | w
  · have := gm_sm_str h01 w (by rw [hq]; exact c); omega
  · omega
  · have := gm_sm_str h01 w hg; omega
def gp_ly (A : Int) (lk : Int → Int) (k : Int) : Int := gm_lay (gm_L A lk) (k / 2)
/-- a move from a place -/
def gp_m (A C : Int) (lk U : Int → Int) (k p : Int) : Prop := (gm_sd A p = k % 2) ∧ (lk p = 0) ∧ (U 10 ≤ gp_b A lk k p) ∧ ((gm_mv A C lk (U 6) (U 7) (U 8) (U 9) (gp_b A lk k) (k % 2) p).2.2 = 0) ∧ (gm_st A lk (gp_mv A C lk U k p)) ∧ (0 ≤ gp_tk A C lk U k p) ∧ (gp_tk A C lk U k p ≤ gp_ly A lk k) ∧ (gm_tot A (gp_mv A C lk U k p) = gp_ly A lk k - gp_tk A C lk U k p) ∧ (gp_top A lk (gp_ly A lk k - gp_tk A C lk U k p - 1) ≤ gp_to A C lk U k p) ∧ (gp_to A C lk U k p < gp_top A lk (gp_ly A lk k - gp_tk A C lk U k p))
theorem gp_m.sd {A C : Int} {lk U : Int → Int} {k p : Int} (h : gp_m A C lk U k p) : gm_sd A p = k % 2 := h.1
theorem gp_m.l {A C : Int} {lk U : Int → Int} {k p : Int} (h : gp_m A C lk U k p) : lk p = 0 := h.2.1
theorem gp_m.b {A C : Int} {lk U : Int → Int} {k p : Int} (h : gp_m A C lk U k p) : U 10 ≤ gp_b A lk k p := h.2.2.1
theorem gp_m.nl {A C : Int} {lk U : Int → Int} {k p : Int} (h : gp_m A C lk U k p) : (gm_mv A C lk (U 6) (U 7) (U 8) (U 9) (gp_b A lk k) (k % 2) p).2.2 = 0 := h.2.2.2.1
theorem gp_m.s {A C : Int} {lk U : Int → Int} {k p : Int} (h : gp_m A C lk U k p) : gm_st A lk (gp_mv A C lk U k p) := h.2.2.2.2.1
theorem gp_m.t0 {A C : Int} {lk U : Int → Int} {k p : Int} (h : gp_m A C lk U k p) : 0 ≤ gp_tk A C lk U k p := h.2.2.2.2.2.1
theorem gp_m.t1 {A C : Int} {lk U : Int → Int} {k p : Int} (h : gp_m A C lk U k p) : gp_tk A C lk U k p ≤ gp_ly A lk k := h.2.2.2.2.2.2.1
theorem gp_m.tot {A C : Int} {lk U : Int → Int} {k p : Int} (h : gp_m A C lk U k p) : gm_tot A (gp_mv A C lk U k p) = gp_ly A lk k - gp_tk A C lk U k p := h.2.2.2.2.2.2.2.1
theorem gp_m.o0 {A C : Int} {lk U : Int → Int} {k p : Int} (h : gp_m A C lk U k p) : gp_top A lk (gp_ly A lk k - gp_tk A C lk U k p - 1) ≤ gp_to A C lk U k p := h.2.2.2.2.2.2.2.2.1
theorem gp_m.o1 {A C : Int} {lk U : Int → Int} {k p : Int} (h : gp_m A C lk U k p) : gp_to A C lk U k p < gp_top A lk (gp_ly A lk k - gp_tk A C lk U k p) := h.2.2.2.2.2.2.2.2.2
section PLACE
variable {R C A : Int} {lk U : Int → Int}
theorem gp_top_mono (hL : 0 ≤ gm_L A lk) {m n : Int} (h : m ≤ n) : gp_top A lk m ≤ gp_top A lk n := by
  unfold gp_top; have := gW_mono (m := gm_L A lk + 1) (by omega) h; omega
theorem gp_top_nn (n : Int) : 0 ≤ gp_top A lk n := by unfold gp_top; have := gW_nn (gm_L A lk + 1) n; omega
theorem gp_top_pos (hL : 0 ≤ gm_L A lk) {n : Int} (h : 0 ≤ n) : 2 ≤ gp_top A lk n := by
  unfold gp_top; have := gW_pos (m := gm_L A lk + 1) (k := n) (by omega) h; omega
theorem gp_ly_b (hL : 0 ≤ gm_L A lk) {k : Int} (h0 : 0 ≤ k) (h1 : k < gp_top A lk 12) : 0 ≤ gp_ly A lk k ∧ gp_ly A lk k ≤ 12 ∧ gp_top A lk (gp_ly A lk k - 1) ≤ k ∧ k < gp_top A lk (gp_ly A lk k) := by
  unfold gp_top at h1 ⊢
  have := gm_lay_b (L := gm_L A lk) (b := k / 2) hL (by omega) (by omega)
  unfold gp_ly
  omega
theorem gp_ly_u (hL : 0 ≤ gm_L A lk) {k n : Int} (h0 : 0 ≤ k) (h12 : k < gp_top A lk 12) (h1 : gp_top A lk (n - 1) ≤ k) (h2 : k < gp_top A lk n) : gp_ly A lk k = n := by
  unfold gp_top at h12 h1 h2
  exact gm_lay_u hL (by omega) (by omega) (by omega) (by omega)
theorem gp_ly_le (hL : 0 ≤ gm_L A lk) {k n : Int} (h0 : 0 ≤ k) (h12 : k < gp_top A lk 12) (h2 : k < gp_top A lk n) : gp_ly A lk k ≤ n := by
  have h := gp_ly_b hL h0 h12
  refine Int.not_lt.mp fun q => ?_
  have := gp_top_mono hL (m := n) (n := gp_ly A lk k - 1) (by omega)
  omega
theorem gp_b_ok (hA : 0 ≤ A) {k : Int} (h0 : 0 ≤ k) (h1 : k < gp_top A lk 12) : gm_st A lk (gp_b A lk k) ∧ gm_tot A (gp_b A lk k) = gp_ly A lk k ∧ (∀ j, j < 0 ∨ A ≤ j → gp_b A lk k j = 0) ∧ gm_nu A lk (gp_b A lk k) = k / 2 := by
  unfold gp_top at h1
  obtain ⟨a, b, c, d⟩ := gm_bd2_st hA (lk := lk) (b := k / 2) (by omega) (by omega)
  exact ⟨a, b, d, c⟩
theorem gp_al_01 (A C : Int) (lk U : Int → Int) (k p : Int) : gp_al A C lk U k p = 0 ∨ gp_al A C lk U k p = 1 := gm_al_01 _ _ _ _ _ _ _
theorem gp_move (hg : gm_g R C A) {k p : Int} (h0 : 0 ≤ k) (h1 : k < gp_top A lk 12) (p0 : 0 ≤ p) (p1 : p < A) (h : gp_al A C lk U k p = 1) : gp_m A C lk U k p := by
  have hA := hg.A
  have hf : 0 < gm_fc A C lk U (gp_b A lk k) (k % 2) p := gm_al_pos (by unfold gp_al at h; omega)
  obtain ⟨a1, a2, a3, a4⟩ := gm_fc_pos hf
  obtain ⟨b1, b2, b3, b4⟩ := gp_b_ok (by omega) h0 h1
  obtain ⟨m1, m2, -⟩ := gm_mv_st hg (kd := U 6) (mr := U 7) (lo := U 8) (hi := U 9) b1 p0 p1 a2 a1
  have hs : gm_st A lk (gp_mv A C lk U k p) := m1
  have hle : gm_tot A (gp_mv A C lk U k p) ≤ gm_tot A (gp_b A lk k) := m2
  have hn := gm_nu_b (by omega) hs
  have ht : gp_tk A C lk U k p = gm_tot A (gp_b A lk k) - gm_tot A (gp_mv A C lk U k p) := rfl
  have ho : gp_to A C lk U k p = 2 * gm_nu A lk (gp_mv A C lk U k p) + (1 - k % 2) := rfl
  have hnn := gm_tot_nn hs.1
  have hk : gm_tot A (gp_mv A C lk U k p) = gp_ly A lk k - gp_tk A C lk U k p := by omega
  refine ⟨a1, a2, a3, a4, hs, by omega, by omega, hk, ?_, ?_⟩
  · rw [ho, ← hk]; unfold gp_top; omega
  · rw [ho, ← hk]; unfold gp_top; omega
theorem gp_m.ly (hL : 0 ≤ gm_L A lk) {k p : Int} (h0 : 0 ≤ k) (h1 : k < gp_top A lk 12) (m : gp_m A C lk U k p) : gp_ly A lk (gp_to A C lk U k p) = gp_ly A lk k - gp_tk A C lk U k p ∧ 0 ≤ gp_to A C lk U k p ∧ gp_to A C lk U k p < gp_top A lk (gp_ly A lk k) ∧ gp_to A C lk U k p < gp_top A lk 12 := by
  have b := gp_ly_b hL h0 h1
  have t0 := m.t0
  have o0 := m.o0
  have o1 := m.o1
  have nn := gp_top_nn (A := A) (lk := lk) (gp_ly A lk k - gp_tk A C lk U k p - 1)
  have m1 := gp_top_mono hL (m := gp_ly A lk k - gp_tk A C lk U k p) (n := gp_ly A lk k) (by omega)
  have m2 := gp_top_mono hL (m := gp_ly A lk k) (n := 12) (by omega)
  exact ⟨gp_ly_u hL (by omega) (by omega) o0 o1, by omega, by omega, by omega⟩
/-- the graph: the i-th move of a place -/
def gp_p (A C : Int) (lk U : Int → Int) (k i : Int) : Int := gm_sel (gp_al A C lk U k) A.toNat i
def gp_N (A C : Int) (lk U : Int → Int) (k : Int) : Int := gp_n A C lk U k A.toNat
def gp_T (A C : Int) (lk U : Int → Int) (k i : Int) : Int := gp_tk A C lk U k (gp_p A C lk U k i)
def gp_O (A C : Int) (lk U : Int → Int) (k i : Int) : Int := gp_to A C lk U k (gp_p A C lk U k i)
theorem gp_p_ok (hA : 0 ≤ A) {k i : Int} (i0 : 0 ≤ i) (i1 : i < gp_N A C lk U k) : 0 ≤ gp_p A C lk U k i ∧ gp_p A C lk U k i < A ∧ gp_al A C lk U k (gp_p A C lk U k i) = 1 ∧ gp_n A C lk U k (gp_p A C lk U k i).toNat = i := by
  obtain ⟨a, b, c, d⟩ := gm_sel_ok (gp_al_01 A C lk U k) A.toNat i i0 i1
  exact ⟨a, by unfold gp_p; omega, c, d⟩
theorem gp_p_of {k : Int} {p : Nat} (hp : (p : Int) < A) (h : gp_al A C lk U k (p : Int) = 1) : gp_p A C lk U k (gp_n A C lk U k p) = (p : Int) ∧ 0 ≤ gp_n A C lk U k p ∧ gp_n A C lk U k p < gp_N A C lk U k := by
  refine ⟨gm_sel_of (gp_al_01 A C lk U k) (by omega) h, ?_, ?_⟩
  · have := gm_sm_mono (gp_al_01 A C lk U k) 0 p; rw [Nat.zero_add] at this; exact this
  · have := gm_sm_str (gp_al_01 A C lk U k) (b := A.toNat) (by omega) h
    unfold gp_N gp_n; omega
theorem gp_N_b (hA : 0 ≤ A) (k : Int) : 0 ≤ gp_N A C lk U k ∧ gp_N A C lk U k ≤ A := by
  have := gm_sm_b (g := gp_al A C lk U k) (B := 1) (d := A.toNat) (fun i _ _ => by rcases gp_al_01 A C lk U k i with w | w <;> omega)
  unfold gp_N gp_n; omega
theorem gp_en_b (hA : 0 ≤ A) {k : Int} (h0 : 0 ≤ k) (h1 : k < gp_top A lk 12) : -gp_ly A lk k ≤ gp_en A lk U k ∧ gp_en A lk U k ≤ gp_ly A lk k := by
  obtain ⟨b1, b2, -⟩ := gp_b_ok hA h0 h1
  have c1 := gm_ct_b (A := A) (e := U 12) (m := k % 2) (s := k % 2) b1.1
  have c2 := gm_ct_b (A := A) (e := U 12) (m := k % 2) (s := 1 - k % 2) b1.1
  unfold gp_en
  omega
theorem gp_i (hg : gm_g R C A) {k i : Int} (h0 : 0 ≤ k) (h1 : k < gp_top A lk 12) (i0 : 0 ≤ i) (i1 : i < gp_N A C lk U k) : gp_m A C lk U k (gp_p A C lk U k i) := by
  have hA := hg.A
  obtain ⟨a, b, c, d⟩ := gp_p_ok (by omega) i0 i1
  exact gp_move hg h0 h1 a b c
/-- the layer as rounds need it -/
theorem gp_gH (hg : gm_g R C A) (hL : 0 ≤ gm_L A lk) {n : Int} {v0 : Int → Int} (hn : 0 ≤ n ∧ n ≤ 12) (he : gp_top A lk n ≤ 40000) (hv : ∀ k, 0 ≤ k → k < gp_top A lk (n - 1) → -gp_ly A lk k ≤ v0 k ∧ v0 k ≤ gp_ly A lk k) :
    gH (gp_top A lk (n - 1)) (gp_top A lk n) n (gp_N A C lk U) (gp_T A C lk U) (gp_O A C lk U) (gp_en A lk U) v0 := by
  have hA := hg.A
  have nn := gp_top_nn (A := A) (lk := lk) (n - 1)
  have m1 := gp_top_mono hL (m := n - 1) (n := n) (by omega)
  have m2 := gp_top_mono hL (m := n) (n := 12) (by omega)
  have key : ∀ k i, gp_top A lk (n - 1) ≤ k → k < gp_top A lk n → 0 ≤ i → i < gp_N A C lk U k → gp_ly A lk k = n ∧ 0 ≤ gp_T A C lk U k i ∧ gp_T A C lk U k i ≤ n ∧ gp_ly A lk (gp_O A C lk U k i) = n - gp_T A C lk U k i ∧ 0 ≤ gp_O A C lk U k i ∧ gp_O A C lk U k i < gp_top A lk n ∧ gp_top A lk (n - gp_T A C lk U k i - 1) ≤ gp_O A C lk U k i ∧ gp_O A C lk U k i < gp_top A lk (n - gp_T A C lk U k i) := by
    intro k i k0 k1 i0 i1
    have ly := gp_ly_u hL (k := k) (n := n) (by omega) (by omega) k0 k1
    have m := gp_i hg (lk := lk) (U := U) (k := k) (i := i) (by omega) (by omega) i0 i1
    have l := m.ly hL (by omega) (by omega)
    have t0 := m.t0
    have t1 := m.t1
    have o0 := m.o0
    have o1 := m.o1
    rw [ly] at l t1 o0 o1
    exact ⟨ly, t0, t1, l.1, l.2.1, l.2.2.1, o0, o1⟩
  refine ⟨hn, ⟨nn, m1, he⟩, fun k i a b c d => ?_, fun k i a b c d => ?_, fun k i a b c d q => ?_, fun k i a b c d q => ?_, fun k i a b c d q => ?_, fun k a b => ?_⟩
  · have := key k i a b c d; exact ⟨this.2.1, this.2.2.1⟩
  · have := key k i a b c d; exact ⟨this.2.2.2.2.1, this.2.2.2.2.2.1⟩
  · have := key k i a b c d
    have h := this.2.2.2.2.2.2.1
    rw [q, show n - 0 - 1 = n - 1 by omega] at h
    exact h
  · have := key k i a b c d
    have h := gp_top_mono hL (m := n - gp_T A C lk U k i) (n := n - 1) (by omega)
    omega
  · have := key k i a b c d
    have h := gp_top_mono hL (m := n - gp_T A C lk U k i) (n := n - 1) (by omega)
    have := hv (gp_O A C lk U k i) (by omega) (by omega)
    omega
  · have ly := gp_ly_u hL (k := k) (n := n) (by omega) (by omega) a b
    have := gp_en_b (lk := lk) (U := U) (A := A) (by omega) (k := k) (by omega) (by omega)
    omega
theorem gp_cnt_s (k : Nat) : gp_cnt A C lk U (k + 1) = gp_cnt A C lk U k + gp_N A C lk U (k : Int) := by
  unfold gp_cnt; rw [gm_sm_s]; rfl
theorem gp_cnt_mono (hA : 0 ≤ A) (a m : Nat) : gp_cnt A C lk U a ≤ gp_cnt A C lk U (a + m) := gm_smm (fun i => (gp_N_b hA i).1) a m
theorem gp_cnt_le (hA : 0 ≤ A) {a b : Nat} (h : a ≤ b) : gp_cnt A C lk U a ≤ gp_cnt A C lk U b := by
  have := gp_cnt_mono (C := C) (lk := lk) (U := U) hA a (b - a)
  rw [show a + (b - a) = b by omega] at this
  exact this
theorem gp_cnt_nn (hA : 0 ≤ A) (a : Nat) : 0 ≤ gp_cnt A C lk U a := gp_cnt_le (a := 0) hA (Nat.zero_le _)
end PLACE
