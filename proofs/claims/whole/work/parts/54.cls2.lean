-- THE CLASS: a move carried out
section CLS2
variable {N : Nat} {K : am_K} {F : am_F} {I : am_I} {R C A : Int} {lk : Int → Int}
theorem gm_nz_L {A : Int} {lk c : Int → Int} (hs : gm_st A lk c) : gm_nz A c ≤ gm_L A lk := by
  unfold gm_nz gm_L
  refine gm_sm_le (fun i a b => ?_)
  have := hs.2.1 i a (by omega)
  unfold gm_lv
  by_cases h : lk i = 0
  · rw [if_pos h]; split <;> omega
  · rw [this h, if_neg h]; simp
theorem c_takeChain (hc : cw K F) (hg : cg I R C A lk) (hN : 100 < N) {u : Int → Int} (hu : cr I u) {r : Nat} (hr : K r = (100, 32)) (hr2 : 15 < r) {sd p : Int} (hlow : 1 ≤ u 8) (p0 : 0 ≤ p) (p1 : p < A) (pl : lk p = 0) {c : Int → Int} (hs : gm_st A lk c) :
    X10_takeChain N K F 19 (am_row I r c) r sd p = some (gm_tot A c - gm_tot A (gm_ch A sd (u 8) (u 9) (gm_nx A C lk (-1) (-1)) 32 c p), am_row I r (gm_ch A sd (u 8) (u 9) (gm_nx A C lk (-1) (-1)) 32 c p)) := by
  have hA := hg.A
  have hLb := gm_L_b (A := A) (by omega) lk
  have hnz := gm_nz_L hs
  have hnb := gm_nz_b A c (by omega)
  have hex := (gm_ex_live hg.1 p0 p1 pl).1
  have hl := c_takeChain_l (N := N) (sd := sd) hc hg hu hr hr2 hlow hex (gm_L A lk).toNat N c 0 p 0 (by omega) (by omega) (by omega) p0 p1 pl hs (by omega) (by have := hs.2.2; omega)
  rw [gm_ch_stable (gm_go_nx hg.1 (st := -1) (Or.inr rfl) hex) hlow (gm_L A lk).toNat 32 c p p0 p1 pl (by omega) (by omega)] at hl
  unfold X10_takeChain
  rw [hl, Int.zero_add]
/-- the class's scratch in a move of pit p: its row, what it takes -/
theorem c_takeBehind (hc : cw K F) (hg : cg I R C A lk) (hN : 100 < N) {u : Int → Int} (hu : cr I u) {r : Nat} (hr : K r = (100, 32)) (hr2 : 15 < r) {sd p : Int} (hsd : sd = 0 ∨ sd = 1) (hlow : 1 ≤ u 8) (p0 : 0 ≤ p) (p1 : p < A) (pl : lk p = 0) {c : Int → Int} (hs : gm_st A lk c) {c' : Int → Int}
    (hc' : c' = if u 6 = 1 then (if gm_sd A p = sd then gm_tc A C sd p c else c) else if u 6 = 3 then (if c p = 1 then gm_tc A C sd p c else c) else if u 6 = 2 then gm_ch A sd (u 8) (u 9) (gm_nx A C lk (-1) (-1)) 32 c p else c) :
    X10_takeBehind N K F 19 (am_row I r c) r sd p = some (gm_tot A c - gm_tot A c', am_row I r c') := by
  subst hc'
  have hA := hg.A
  have e0 : I 15 0 = u 6 := hu.1
  have e9 : I 9 p = gm_sd A p := (hg.2.2.1 p p0 p1).2.1
  unfold X10_takeBehind X10_takeBehind_b56 X10_takeBehind_b83
  simp only [cwF_19_6 hc, cwK_15 hc, cwF_19_5 hc, cwK_3 hc, cwF_3_9 hc, cwK_9 hc, hr, am_row_n (show (15 : Nat) ≠ r by omega), am_row_n (show (9 : Nat) ≠ r by omega), am_row_s, e0, e9]
  rw [if_pos trivial]
  by_cases k1 : u 6 = 1
  · rw [if_pos k1, if_pos k1, if_pos trivial, if_pos trivial, if_pos (by omega)]
    by_cases h : gm_sd A p = sd
    · rw [if_pos h, if_pos h, c_takeColumn hc hg hN hr (by omega) hsd p0 p1 hs, am_cl_s]
    · rw [if_neg h, if_neg h, show gm_tot A c - gm_tot A c = 0 by omega]
  · rw [if_neg k1, if_neg k1]
    by_cases k2 : u 6 = 2
    · rw [if_pos k2, if_neg (by omega), if_pos k2, c_takeChain hc hg hN hu hr hr2 hlow p0 p1 pl hs, am_cl_s]
    · rw [if_neg k2]
      by_cases k3 : u 6 = 3
      · rw [if_pos k3, if_pos k3, if_pos trivial, if_pos (by omega)]
        by_cases h : c p = 1
        · rw [if_pos h, if_pos h, c_takeColumn hc hg hN hr (by omega) hsd p0 p1 hs, am_cl_s]
        · rw [if_neg h, if_neg h, show gm_tot A c - gm_tot A c = 0 by omega]
      · rw [if_neg k3, if_neg k3, if_neg k2, show gm_tot A c - gm_tot A c = 0 by omega]
/-- nothing beyond the pits -/
def gm_zb (A : Int) (c : Int → Int) : Prop := ∀ j, A ≤ j → j < 32 → c j = 0
theorem gm_sw_zb {A : Int} {lk nx : Int → Int} (hg : gm_go A lk nx) : ∀ (d : Nat) (c : Int → Int) (p : Int), 0 ≤ p → p < A → lk p = 0 → gm_zb A c → gm_zb A (gm_sw nx d (c, p)).1 := by
  intro d
  induction d with
  | zero => intro c p _ _ _ h; exact h
  | succ d ih =>
    intro c p h0 h1 h2 h
    obtain ⟨q0, q1, q2⟩ := hg p h0 h1 h2
    refine ih _ _ q0 q1 q2 (fun j a b => ?_)
    show gm_up c (nx p) (c (nx p) + 1) j = 0
    rw [gm_up_n (by omega)]; exact h j a b
theorem gm_s1_zb {A : Int} {lk nx : Int → Int} (hg : gm_go A lk nx) {c : Int → Int} {p : Int} (h0 : 0 ≤ p) (h1 : p < A) (h2 : lk p = 0) (h : gm_zb A c) : gm_zb A (gm_s1 nx (c, p)).1 := gm_sw_zb hg _ _ p h0 h1 h2 (fun j a b => by show gm_up c p 0 j = 0; rw [gm_up_n (by omega)]; exact h j a b)
theorem gm_tc_zb {A C who p : Int} {c : Int → Int} (h : gm_zb A c) : gm_zb A (gm_tc A C who p c) := by
  intro j a b
  unfold gm_tc
  rw [if_neg (by omega)]; exact h j a b
theorem gm_ch_zb {A who lo hi : Int} {lk pv : Int → Int} (hg : gm_go A lk pv) : ∀ (d : Nat) (c : Int → Int) (p : Int), 0 ≤ p → p < A → lk p = 0 → gm_zb A c → gm_zb A (gm_ch A who lo hi pv d c p) := by
  intro d
  induction d with
  | zero => intro c p _ _ _ h; exact h
  | succ d ih =>
    intro c p h0 h1 h2 h
    obtain ⟨q0, q1, q2⟩ := hg p h0 h1 h2
    unfold gm_ch
    split
    · refine ih _ _ q0 q1 q2 (fun j a b => ?_)
      rw [gm_up_n (by omega)]; exact h j a b
    · exact h
theorem gm_b32 {A : Int} {lk c : Int → Int} (hs : gm_st A lk c) (hz : gm_zb A c) : ∀ q, 0 ≤ q → q < 32 → 0 ≤ c q ∧ c q ≤ 600000 := by
  intro q a b
  by_cases h : q < A
  · exact hs.bd q a h
  · rw [hz q (by omega) b]; omega
/-- the class's links: along the whole way, and along one's own -/
theorem cg.l1 (hg : cg I R C A lk) : ∀ p, (0 ≤ p ∧ p < A ∧ lk p = 0) → (I 11 p = gm_nx A C lk 1 (-1) p ∧ (0 ≤ I 11 p ∧ I 11 p < A ∧ lk (I 11 p) = 0)) := by
  intro p hp
  have e := (hg.2.2.2.2.2.1 p hp.1 hp.2.1 hp.2.2).1
  have := gm_go_nx hg.1 (st := 1) (Or.inl rfl) (gm_ex_live hg.1 hp.1 hp.2.1 hp.2.2).1 p hp.1 hp.2.1 hp.2.2
  rw [e]; exact ⟨rfl, this⟩
theorem cg.l2 (hg : cg I R C A lk) (sd : Int) (hsd : 0 ≤ sd) : ∀ p, (0 ≤ p ∧ p < A ∧ lk p = 0 ∧ gm_sd A p = sd) → (I 13 p = gm_nx A C lk 1 sd p ∧ (0 ≤ I 13 p ∧ I 13 p < A ∧ lk (I 13 p) = 0 ∧ gm_sd A (I 13 p) = sd)) := by
  intro p hp
  have e := (hg.2.2.2.2.2.1 p hp.1 hp.2.1 hp.2.2.1).2.2
  have hex := (gm_ex_live hg.1 hp.1 hp.2.1 hp.2.2.1).2
  rw [hp.2.2.2] at e hex
  obtain ⟨h1, h2, h3⟩ := gm_nx_ok (p := p) (st := 1) hg.1 (Or.inl rfl) hex
  rw [e]
  exact ⟨rfl, h2, h3, h1.1, h1.2 hsd⟩
theorem cg.s1 (hc : cw K F) (hg : cg I R C A lk) (hN : 2000000 < N) {r : Nat} (hr : K r = (100, 32)) (hr2 : 15 < r) {p : Int} (p0 : 0 ≤ p) (p1 : p < A) (pl : lk p = 0) {c : Int → Int} (hs : gm_st A lk c) (hz : gm_zb A c) :
    X10_sow N K F (am_row I r c) r p 11 (gm_L A lk) = some ((gm_s1 (gm_nx A C lk 1 (-1)) (c, p)).2, am_row I r (gm_s1 (gm_nx A C lk 1 (-1)) (c, p)).1) := by
  have hA := hg.A
  have hLb := gm_L_b (A := A) (by omega) lk
  have h := c_sow (N := N) (F := F) (I := I) (r := r) (a2 := 11) (P := fun p => 0 ≤ p ∧ p < A ∧ lk p = 0) (L := gm_L A lk) (p := p) hr (cwK_11 hc) (by omega) (by omega) hN (fun q hq => ⟨by omega, (cg.l1 hg q hq).2⟩) (by omega) ⟨p0, p1, pl⟩ (by
    rw [gm_itr_congr (P := fun p => 0 ≤ p ∧ p < A ∧ lk p = 0) (cg.l1 hg) _ p ⟨p0, p1, pl⟩]
    exact (hg.2.2.2.2.2.2 p p0 p1 pl).1) (gm_b32 hs hz)
  rw [gm_s1_congr (P := fun p => 0 ≤ p ∧ p < A ∧ lk p = 0) (cg.l1 hg) (c, p) ⟨p0, p1, pl⟩] at h
  exact h
theorem cg.s2 (hc : cw K F) (hg : cg I R C A lk) (hN : 2000000 < N) {r : Nat} (hr : K r = (100, 32)) (hr2 : 15 < r) {p sd : Int} (p0 : 0 ≤ p) (p1 : p < A) (pl : lk p = 0) (hsd : gm_sd A p = sd) {c : Int → Int} (hs : gm_st A lk c) (hz : gm_zb A c) :
    X10_sow N K F (am_row I r c) r p 13 (gm_Ls A lk sd) = some ((gm_s1 (gm_nx A C lk 1 sd) (c, p)).2, am_row I r (gm_s1 (gm_nx A C lk 1 sd) (c, p)).1) := by
  have hA := hg.A
  have hLb := gm_Ls_b (A := A) (by omega) lk sd
  have hs0 : 0 ≤ sd := by have := gm_sd_01 A p; omega
  have h := c_sow (N := N) (F := F) (I := I) (r := r) (a2 := 13) (P := fun p => 0 ≤ p ∧ p < A ∧ lk p = 0 ∧ gm_sd A p = sd) (L := gm_Ls A lk sd) (p := p) hr (cwK_13 hc) (by omega) (by omega) hN (fun q hq => ⟨by omega, (cg.l2 hg sd hs0 q hq).2⟩) (by omega) ⟨p0, p1, pl, hsd⟩ (by
    rw [gm_itr_congr (P := fun p => 0 ≤ p ∧ p < A ∧ lk p = 0 ∧ gm_sd A p = sd) (cg.l2 hg sd hs0) _ p ⟨p0, p1, pl, hsd⟩]
    have := (hg.2.2.2.2.2.2 p p0 p1 pl).2
    rw [hsd] at this
    exact this) (gm_b32 hs hz)
  rw [gm_s1_congr (P := fun p => 0 ≤ p ∧ p < A ∧ lk p = 0 ∧ gm_sd A p = sd) (cg.l2 hg sd hs0) (c, p) ⟨p0, p1, pl, hsd⟩] at h
  exact h
/-- the relay of the class: r sowings more at most -/
theorem c_relay_l (hc : cw K F) (hg : cg I R C A lk) (hN : 2000000 < N) {u : Int → Int} (hu : cr I u) (hk1 : u 6 = 1) (hmr : 1 ≤ u 7 ∧ u 7 ≤ 50) (hlow : 1 ≤ u 8) {sd p : Int} (hsd : sd = 0 ∨ sd = 1) (hp0 : 0 ≤ p) (hp1 : p < 32) {r : Nat} (hr : K r = (100, 32)) (hr2 : 21 < r) : ∀ (d f : Nat) (c : Int → Int) (la x : Int), d < f → u 7 - x = d → 1 ≤ x → 0 ≤ la → la < A → lk la = 0 → gm_st A lk c → gm_zb A c →
    ∃ J : am_I, X10_carryOut_h112 N K F 19 f (am_row I r c) sd p r 11 (gm_L A lk) la x = some (if (gm_rl (gm_nx A C lk 1 (-1)) (d + 1) (c, la)).2 = 0 then 1 else 0, J) ∧ (∀ b, b ≠ r → b ≠ 21 → J b = I b) ∧ (∀ j, j ≠ p → J 21 j = I 21 j) ∧
      ((gm_rl (gm_nx A C lk 1 (-1)) (d + 1) (c, la)).2 = 0 → J r = (if gm_sd A (gm_rl (gm_nx A C lk 1 (-1)) (d + 1) (c, la)).1.2 = sd then gm_tc A C sd (gm_rl (gm_nx A C lk 1 (-1)) (d + 1) (c, la)).1.2 (gm_rl (gm_nx A C lk 1 (-1)) (d + 1) (c, la)).1.1 else (gm_rl (gm_nx A C lk 1 (-1)) (d + 1) (c, la)).1.1) ∧ J 21 p = gm_tot A c - gm_tot A (J r) ∧ gm_zb A (J r)) := by
  have hA := hg.A
  have e1 : I 15 1 = u 7 := hu.2.1
  -- the end
  have hend : ∀ (c : Int → Int) (la : Int), 0 ≤ la → la < A → lk la = 0 → gm_st A lk c → gm_zb A c → ¬ 1 < c la → ∃ J : am_I, X10_carryOut_b152 N K F 19 (am_row I r c) sd p r la = some (1, J) ∧ (∀ b, b ≠ r → b ≠ 21 → J b = I b) ∧ (∀ j, j ≠ p → J 21 j = I 21 j) ∧ J r = (if gm_sd A la = sd then gm_tc A C sd la c else c) ∧ J 21 p = gm_tot A c - gm_tot A (J r) ∧ gm_zb A (J r) := by
    intro c la a0 a1 al hs hz hn
    have hz2 : gm_zb A (if gm_sd A la = sd then gm_tc A C sd la c else c) := by
      split
      · exact gm_tc_zb hz
      · exact hz
    refine ⟨am_u2 (am_row I r (if gm_sd A la = sd then gm_tc A C sd la c else c)) 21 p (gm_tot A c - gm_tot A (if gm_sd A la = sd then gm_tc A C sd la c else c)), ?_, fun b h1 h2 => ?_, fun j hj => ?_, ?_, ?_, ?_⟩
    · unfold X10_carryOut_b152 X10_carryOut_b163
      simp only [hr, am_row_s, am_lt, cwF_19_1 hc, cwK_21 hc]
      rw [if_pos trivial, if_pos (by omega), if_neg hn, c_takeBehind hc hg (by omega) hu hr (by omega) hsd hlow a0 a1 al hs (c' := if gm_sd A la = sd then gm_tc A C sd la c else c) (by rw [if_pos hk1]), am_cl_s]
      rw [if_pos trivial, if_pos (by decide), if_pos (by omega)]
    · funext j; rw [am_u2_a h2, am_row_n h1]
    · rw [am_u2_k hj, am_row_n (by omega)]
    · funext j; rw [am_u2_a (by omega), am_row_s]
    · rw [am_u2_s]
      congr 1
      congr 1
      funext j; rw [am_u2_a (by omega), am_row_s]
    · intro j a b
      rw [am_u2_a (by omega), am_row_s]; exact hz2 j a b
  intro d
  induction d with
  | zero =>
    intro f c la x hf hx x0 a0 a1 al hs hz
    obtain ⟨f, rfl⟩ : ∃ g, f = g + 1 := ⟨f - 1, by omega⟩
    have hst : X10_carryOut_h112 N K F 19 (f + 1) (am_row I r c) sd p r 11 (gm_L A lk) la x = X10_carryOut_b152 N K F 19 (am_row I r c) sd p r la := by
      show X10_carryOut_s112 N K F 19 (X10_carryOut_h112 N K F 19 f) _ sd p r 11 (gm_L A lk) la x = _
      unfold X10_carryOut_s112
      simp only [cwF_19_6 hc, cwK_15 hc, am_row_n (show (15 : Nat) ≠ r by omega), e1]
      rw [if_pos trivial, if_neg (by omega)]
    rw [hst]
    by_cases h : 1 < c la
    · have e : gm_rl (gm_nx A C lk 1 (-1)) (0 + 1) (c, la) = (gm_s1 (gm_nx A C lk 1 (-1)) (c, la), 1) := by
        unfold gm_rl; rw [if_pos (show 1 < (c, la).1 (c, la).2 from h)]; rfl
      rw [e]
      refine ⟨am_row I r c, ?_, fun b h1 _ => by funext j; exact am_row_n h1, fun j _ => am_row_n (by omega), fun w => absurd w (show ¬ (1 : Int) = 0 by decide)⟩
      unfold X10_carryOut_b152
      simp only [hr, am_row_s]
      rw [if_pos trivial, if_pos (by omega), if_pos h]
      rfl
    · have e : gm_rl (gm_nx A C lk 1 (-1)) (0 + 1) (c, la) = ((c, la), 0) := by
        unfold gm_rl; rw [if_neg (show ¬ 1 < (c, la).1 (c, la).2 from h)]
      rw [e]
      obtain ⟨J, r1, r2, r3, r4⟩ := hend c la a0 a1 al hs hz h
      exact ⟨J, r1, r2, r3, fun _ => r4⟩
  | succ d ih =>
    intro f c la x hf hx x0 a0 a1 al hs hz
    obtain ⟨f, rfl⟩ : ∃ g, f = g + 1 := ⟨f - 1, by omega⟩
    by_cases h : 1 < c la
    · have e : gm_rl (gm_nx A C lk 1 (-1)) (d + 1 + 1) (c, la) = gm_rl (gm_nx A C lk 1 (-1)) (d + 1) (gm_s1 (gm_nx A C lk 1 (-1)) (c, la)) := by
        conv => lhs; unfold gm_rl
        rw [if_pos (show 1 < (c, la).1 (c, la).2 from h)]
      have hex := (gm_ex_live hg.1 a0 a1 al).1
      have go := gm_go_nx hg.1 (st := 1) (Or.inl rfl) hex
      obtain ⟨s1, s2, s3, s4, s5⟩ := gm_s1_st (s := (c, la)) go a0 a1 al hs
      obtain ⟨J, r1, r2, r3, r4⟩ := ih f (gm_s1 (gm_nx A C lk 1 (-1)) (c, la)).1 (gm_s1 (gm_nx A C lk 1 (-1)) (c, la)).2 (x + 1) (by omega) (by omega) (by omega) s3 s4 s5 s1 (gm_s1_zb go a0 a1 al hz)
      rw [e]
      rw [show gm_tot A (gm_s1 (gm_nx A C lk 1 (-1)) (c, la)).1 = gm_tot A c from s2] at r4
      refine ⟨J, ?_, r2, r3, r4⟩
      refine Eq.trans ?_ r1
      show X10_carryOut_s112 N K F 19 (X10_carryOut_h112 N K F 19 f) _ sd p r 11 (gm_L A lk) la x = _
      generalize X10_carryOut_h112 N K F 19 f = kk
      unfold X10_carryOut_s112
      simp only [cwF_19_6 hc, cwK_15 hc, am_row_n (show (15 : Nat) ≠ r by omega), e1, hr, am_row_s, am_lt, cg.s1 hc hg hN hr (show 15 < r by omega) a0 a1 al hs hz, am_cl_s]
      rw [if_pos trivial, if_pos (by omega), if_pos trivial, if_pos (by omega), if_pos h, if_pos (nb_in (by omega))]
    · have e : gm_rl (gm_nx A C lk 1 (-1)) (d + 1 + 1) (c, la) = ((c, la), 0) := by
        unfold gm_rl; rw [if_neg (show ¬ 1 < (c, la).1 (c, la).2 from h)]
      rw [e]
      obtain ⟨J, r1, r2, r3, r4⟩ := hend c la a0 a1 al hs hz h
      refine ⟨J, Eq.trans ?_ r1, r2, r3, fun _ => r4⟩
      show X10_carryOut_s112 N K F 19 (X10_carryOut_h112 N K F 19 f) _ sd p r 11 (gm_L A lk) la x = _
      generalize X10_carryOut_h112 N K F 19 f = kk
      unfold X10_carryOut_s112
      simp only [cwF_19_6 hc, cwK_15 hc, am_row_n (show (15 : Nat) ≠ r by omega), e1, hr, am_row_s]
      rw [if_pos trivial, if_pos (by omega), if_pos trivial, if_pos (by omega), if_neg h]
end CLS2
