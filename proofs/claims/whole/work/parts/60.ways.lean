-- IN HOW MANY WAYS
def gw_s (f : Nat → Nat) : Nat → Nat
  | 0 => f 0
  | k + 1 => gw_s f k + f (k + 1)
/-- k seeds in m pits -/
def gw : Nat → Nat → Nat
  | 0 => fun k => if k = 0 then 1 else 0
  | m + 1 => fun k => gw_s (gw m) k
theorem gw_00 : gw 0 0 = 1 := rfl
theorem gw_0s (k : Nat) : gw 0 (k + 1) = 0 := rfl
theorem gw_s0 (m : Nat) : gw (m + 1) 0 = gw m 0 := rfl
theorem gw_ss (m k : Nat) : gw (m + 1) (k + 1) = gw (m + 1) k + gw m (k + 1) := rfl
theorem gw_m0 : ∀ m, gw m 0 = 1
  | 0 => rfl
  | m + 1 => by rw [gw_s0]; exact gw_m0 m
theorem gw_1 : ∀ k, gw 1 k = 1
  | 0 => rfl
  | k + 1 => by rw [gw_ss, gw_1 k, gw_0s]
theorem gw_pos (m k : Nat) : 1 ≤ gw (m + 1) k := by
  induction k with
  | zero => rw [gw_m0]; omega
  | succ k ih => rw [gw_ss]; omega
theorem gw_mono (m : Nat) {k k' : Nat} (h : k ≤ k') : gw (m + 1) k ≤ gw (m + 1) k' := by
  obtain ⟨d, rfl⟩ : ∃ d, k' = k + d := ⟨k' - k, by omega⟩
  clear h
  induction d with
  | zero => exact Nat.le_refl _
  | succ d ih => rw [show k + (d + 1) = (k + d) + 1 by omega, gw_ss]; omega
theorem gw_monom (m k : Nat) : gw m k ≤ gw (m + 1) k := by
  cases k with
  | zero => rw [gw_m0, gw_m0]; omega
  | succ k => rw [gw_ss]; omega
theorem gw_monom2 {m m' : Nat} (k : Nat) (h : m ≤ m') : gw m k ≤ gw m' k := by
  obtain ⟨d, rfl⟩ : ∃ d, m' = m + d := ⟨m' - m, by omega⟩
  clear h
  induction d with
  | zero => exact Nat.le_refl _
  | succ d ih => have := gw_monom (m + d) k; rw [show m + (d + 1) = (m + d) + 1 by omega]; omega
set_option maxRecDepth 20000 in
theorem gw_3313 : gw 34 13 ≤ 140676848445 := by decide +kernel
theorem gw_le {m k : Nat} (hm : m ≤ 34) (hk : k ≤ 13) : gw m k ≤ 140676848445 := by
  exact Nat.le_trans (gw_monom2 k hm) (Nat.le_trans (gw_mono 33 hk) gw_3313)
/-- the rule of products -/
theorem gw_P : ∀ (m i : Nat), (i + 1) * gw (m + 1) (i + 1) = (m + 1 + i) * gw (m + 1) i := by
  intro m
  induction m with
  | zero => intro i; rw [gw_1, gw_1]; omega
  | succ m ih =>
    have Q : ∀ i, (m + 1) * gw (m + 2) i = (m + 1 + i) * gw (m + 1) i := by
      intro i
      induction i with
      | zero => rw [gw_m0, gw_m0]
      | succ i ihi =>
        rw [show gw (m + 2) (i + 1) = gw (m + 2) i + gw (m + 1) (i + 1) from gw_ss (m + 1) i, Nat.mul_add, ihi, ← ih i]
        rw [← Nat.add_mul]
        congr 1
        omega
    intro i
    rw [show gw (m + 1 + 1) (i + 1) = gw (m + 2) i + gw (m + 1) (i + 1) from gw_ss (m + 1) i, Nat.mul_add, ih i, ← Q i, ← Nat.add_mul]
    congr 1
    omega
/-- with numbers below nothing -/
def gW (m k : Int) : Int := if 0 ≤ k then (gw m.toNat k.toNat : Int) else 0
theorem gW_nn (m k : Int) : 0 ≤ gW m k := by unfold gW; split <;> omega
theorem gW_le {m k : Int} (hm : m ≤ 34) (hk : k ≤ 13) : gW m k ≤ 140676848445 := by
  unfold gW
  split
  · have := gw_le (m := m.toNat) (k := k.toNat) (by omega) (by omega)
    omega
  · omega
theorem gW_neg {m k : Int} (h : k < 0) : gW m k = 0 := by unfold gW; rw [if_neg (by omega)]
theorem gW_n0 (m : Int) : gW m 0 = 1 := by unfold gW; rw [if_pos (by omega), show (0 : Int).toNat = 0 from rfl, gw_m0]; rfl
theorem gW_0 {k : Int} (h : 0 < k) : gW 0 k = 0 := by
  unfold gW
  rw [if_pos (by omega)]
  obtain ⟨j, hj⟩ : ∃ j, k.toNat = j + 1 := ⟨k.toNat - 1, by omega⟩
  rw [hj, show (0 : Int).toNat = 0 from rfl, gw_0s]; rfl
theorem gW_s {m k : Int} (hm : 0 ≤ m) (hk : 0 ≤ k) : gW (m + 1) k = gW (m + 1) (k - 1) + gW m k := by
  by_cases h : k = 0
  · subst h; rw [gW_n0, gW_n0, gW_neg (by omega)]; omega
  · unfold gW
    rw [if_pos hk, if_pos (by omega), if_pos hk]
    obtain ⟨j, hj⟩ : ∃ j, k.toNat = j + 1 := ⟨k.toNat - 1, by omega⟩
    rw [show (m + 1).toNat = m.toNat + 1 by omega, hj, show (k - 1).toNat = j by omega, gw_ss]
    omega
theorem gW_pos {m k : Int} (hm : 1 ≤ m) (hk : 0 ≤ k) : 1 ≤ gW m k := by
  unfold gW
  rw [if_pos hk]
  obtain ⟨j, hj⟩ : ∃ j, m.toNat = j + 1 := ⟨m.toNat - 1, by omega⟩
  rw [hj]
  have := gw_pos j k.toNat
  omega
theorem gW_mono {m k k' : Int} (hm : 1 ≤ m) (h : k ≤ k') : gW m k ≤ gW m k' := by
  by_cases h0 : 0 ≤ k
  · unfold gW
    rw [if_pos h0, if_pos (by omega)]
    obtain ⟨j, hj⟩ : ∃ j, m.toNat = j + 1 := ⟨m.toNat - 1, by omega⟩
    rw [hj]
    have := gw_mono j (show k.toNat ≤ k'.toNat by omega)
    omega
  · rw [gW_neg (by omega)]; exact gW_nn _ _
theorem gW_sum (m : Int) (hm : 0 ≤ m) (n : Nat) : gm_sm (fun k => gW m k) (n + 1) = gW (m + 1) (n : Int) := by
  induction n with
  | zero => rw [gm_sm_s, gm_sm_0]; show 0 + gW m 0 = gW (m + 1) 0; rw [gW_n0, gW_n0]; rfl
  | succ n ih =>
    have e : gW (m + 1) ((n + 1 : Nat) : Int) = gW (m + 1) (((n + 1 : Nat) : Int) - 1) + gW m ((n + 1 : Nat) : Int) := gW_s hm (by omega)
    rw [gm_sm_s, ih, e, show ((n + 1 : Nat) : Int) - 1 = (n : Int) by omega]
theorem nb_wL {x : Int} (h : -9000000000000000000 ≤ x ∧ x ≤ 9000000000000000000) : am_wL x = x := am_wL_id ⟨by omega, by omega⟩
section WAYS
variable {N : Nat} {K : am_K} {F : am_F} {I : am_I} {R C A : Int} {lk : Int → Int}
theorem m_ways {k m : Int} (hN : 100 < N) (hk : 0 ≤ k ∧ k ≤ 13) (hm : 0 ≤ m ∧ m ≤ 33) : X12_ways N K F I k m = some (gW m k) := by
  unfold X12_ways X12_ways_b13
  by_cases h0 : m = 0
  · subst h0
    rw [if_pos rfl]
    by_cases h1 : k = 0
    · subst h1; rw [if_pos rfl, gW_n0]
    · rw [if_neg h1, gW_0 (by omega)]
  · rw [if_neg h0]
    have loop : ∀ (d f : Nat) (i : Int), k - i = d → d < f → 0 ≤ i → X12_ways_h19 N K F I f k m (gW m i) (i + 1) = some (gW m k) := by
      intro d
      induction d with
      | zero =>
        intro f i hd hf h0
        obtain ⟨f, rfl⟩ : ∃ g, f = g + 1 := ⟨f - 1, by omega⟩
        have e : i = k := by omega
        subst e
        show X12_ways_s19 N K F I (X12_ways_h19 N K F I f) i m _ _ = _
        unfold X12_ways_s19
        rw [if_neg (by omega)]
      | succ d ih =>
        intro f i hd hf i0
        obtain ⟨f, rfl⟩ : ∃ g, f = g + 1 := ⟨f - 1, by omega⟩
        have hr := ih f (i + 1) (by omega) (by omega) (by omega)
        rw [← hr]
        have hb := gW_le (m := m) (k := i) (by omega) (by omega)
        have hb2 := gW_le (m := m) (k := i + 1) (by omega) (by omega)
        have hn := gW_nn m i
        have hn2 := gW_nn m (i + 1)
        have hP : (i + 1) * gW m (i + 1) = (m + i) * gW m i := by
          unfold gW
          rw [if_pos (by omega), if_pos i0]
          obtain ⟨j, hj⟩ : ∃ j, m.toNat = j + 1 := ⟨m.toNat - 1, by omega⟩
          have := gw_P j i.toNat
          rw [hj, show (i + 1).toNat = i.toNat + 1 by omega]
          have e1 : ((i.toNat + 1 : Nat) : Int) = i + 1 := by omega
          have e2 : ((j + 1 + i.toNat : Nat) : Int) = m + i := by omega
          rw [← e1, ← e2, ← Int.natCast_mul, ← Int.natCast_mul, this]
        have hmul : gW m i * (m - 1 + (i + 1)) = gW m (i + 1) * (i + 1) := by
          rw [Int.mul_comm (gW m (i + 1)), hP, Int.mul_comm]
          congr 1
          omega
        have hbig : gW m (i + 1) * (i + 1) ≤ 140676848445 * 20 := Int.mul_le_mul hb2 (by omega) (by omega) (by omega)
        have hbig0 : 0 ≤ gW m (i + 1) * (i + 1) := Int.mul_nonneg hn2 (by omega)
        show X12_ways_s19 N K F I (X12_ways_h19 N K F I f) k m _ _ = _
        generalize X12_ways_h19 N K F I f = kk
        unfold X12_ways_s19
        simp only [am_lt]
        rw [if_pos (by omega), if_pos (nb_in (by omega)), if_pos (nb_in (by omega)), if_pos (by omega), if_pos (nb_in (by omega)), hmul, nb_wL (by omega), nb_ldiv ⟨by omega, by omega⟩ ⟨by omega, by omega⟩ hbig0 (by omega), Int.mul_ediv_cancel _ (by omega)]
    have := loop k.toNat N 0 (by omega) (by omega) (by omega)
    rw [gW_n0, Int.zero_add] at this
    exact this
theorem m_placesTo (hm : mw K F) (h : mg I R C A) (hN : 100 < N) {n : Int} (hn : -1 ≤ n ∧ n ≤ 12) : X12_placesTo N K F I 85 n = some (2 * gW (gm_L A (I 86) + 1) n) := by
  have hA := h.A
  have hL := gm_L_b (A := A) (by omega) (I 86)
  have hth : X12_there N K F I 85 = some (gm_L A (I 86)) := m_there hm h (by omega)
  generalize gm_L A (I 86) = L at *
  have loop : ∀ (d f : Nat) (x : Int), n + 1 - x = d → d < f → 0 ≤ x → X12_placesTo_h5 N K F I 85 f n (gm_sm (fun k => gW L k) x.toNat) x = some (2 * gm_sm (fun k => gW L k) (n + 1).toNat) := by
    intro d
    induction d with
    | zero =>
      intro f x hd hf x0
      obtain ⟨f, rfl⟩ : ∃ g, f = g + 1 := ⟨f - 1, by omega⟩
      have e : x = n + 1 := by omega
      subst e
      have hb : 0 ≤ gm_sm (fun k => gW L k) (n + 1).toNat ∧ gm_sm (fun k => gW L k) (n + 1).toNat ≤ 140676848445 := by
        by_cases g : n = -1
        · subst g; show 0 ≤ gm_sm _ 0 ∧ gm_sm _ 0 ≤ _; rw [gm_sm_0]; omega
        · rw [show (n + 1).toNat = n.toNat + 1 by omega, gW_sum L (by omega)]
          exact ⟨gW_nn _ _, gW_le (by omega) (by omega)⟩
      show X12_placesTo_s5 N K F I 85 (X12_placesTo_h5 N K F I 85 f) n _ _ = _
      unfold X12_placesTo_s5
      rw [if_neg (by omega), nb_wL (by omega)]
    | succ d ih =>
      intro f x hd hf x0
      obtain ⟨f, rfl⟩ : ∃ g, f = g + 1 := ⟨f - 1, by omega⟩
      have hr := ih f (x + 1) (by omega) (by omega) (by omega)
      rw [show (x + 1).toNat = x.toNat + 1 by omega, gm_sm_s, show ((x.toNat : Nat) : Int) = x by omega] at hr
      rw [← hr]
      have hb : 0 ≤ gm_sm (fun k => gW L k) x.toNat + gW L x ∧ gm_sm (fun k => gW L k) x.toNat + gW L x ≤ 140676848445 := by
        have e : gm_sm (fun k => gW L k) x.toNat + gW L x = gW (L + 1) x := by
          have := gW_sum L (by omega) x.toNat
          rw [gm_sm_s, show ((x.toNat : Nat) : Int) = x by omega] at this
          exact this
        rw [e]
        exact ⟨gW_nn _ _, gW_le (by omega) (by omega)⟩
      show X12_placesTo_s5 N K F I 85 (X12_placesTo_h5 N K F I 85 f) n _ _ = _
      generalize X12_placesTo_h5 N K F I 85 f = kk
      unfold X12_placesTo_s5
      simp only [hth, am_cq_s, m_ways hN (show 0 ≤ x ∧ x ≤ 13 by omega) (show 0 ≤ L ∧ L ≤ 33 by omega), am_lt]
      rw [if_pos (by omega), if_pos (nb_in (by omega)), nb_wL (by omega)]
  have hl := loop (n + 1).toNat N 0 (by omega) (by omega) (by omega)
  unfold X12_placesTo
  rw [show (0 : Int).toNat = 0 from rfl, gm_sm_0] at hl
  rw [hl]
  congr 2
  by_cases g : n = -1
  · subst g; rw [gW_neg (by omega)]; rfl
  · rw [show (n + 1).toNat = n.toNat + 1 by omega, gW_sum L (by omega), show ((n.toNat : Nat) : Int) = n by omega]
/-- the class's table of ways -/
def cW (I : am_I) : Prop := ∀ m k : Int, 0 ≤ m → m ≤ 33 → 0 ≤ k → k ≤ 12 → I 57 (m * 13 + k) = gW m k
theorem c_waysOf (hc : cw K F) (hw : cW I) {m k : Int} (hm : 0 ≤ m ∧ m ≤ 33) (hk : k ≤ 12) : X3_waysOf N K F I 56 m k = some (gW m k) := by
  unfold X3_waysOf X3_waysOf_b10
  simp only [cwF_56_1 hc, cwK_57 hc]
  by_cases h : 0 ≤ k
  · rw [if_pos h, if_neg (by omega), if_pos (nb_in (by omega)), if_pos (nb_in (by omega)), if_pos trivial, if_pos (by omega), hw m k hm.1 hm.2 h hk]
  · rw [if_neg h, gW_neg (by omega)]
theorem c_boardsUpTo (hc : cw K F) (hw : cW I) (hg : cg I R C A lk) {k : Int} (hk : k ≤ 12) : X3_boardsUpTo N K F I 56 k = some (gW (gm_L A lk + 1) k) := by
  have hA := hg.A
  have hL := gm_L_b (A := A) (by omega) lk
  unfold X3_boardsUpTo
  simp only [cwF_56_0 hc, cwK_3 hc, hg.2.1.2.2.2]
  rw [if_pos trivial, if_pos (nb_in (by omega)), c_waysOf hc hw (by omega) hk, am_cq_s]
theorem c_boardsOf (hc : cw K F) (hw : cW I) (hg : cg I R C A lk) {k : Int} (hk : k ≤ 12) : X3_boardsOf N K F I 56 k = some (gW (gm_L A lk) k) := by
  have hA := hg.A
  have hL := gm_L_b (A := A) (by omega) lk
  unfold X3_boardsOf
  simp only [cwF_56_0 hc, cwK_3 hc, hg.2.1.2.2.2]
  rw [if_pos trivial, c_waysOf hc hw (by omega) hk, am_cq_s]
end WAYS
