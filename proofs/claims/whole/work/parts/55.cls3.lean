-- THE CLASS: a move carried out, whole
theorem am_cp_row (I : am_I) (a r : Nat) (m : Int) : am_cp I a 0 r 0 m = am_row I r (gm_ld m (I a) (I r)) := by
  funext b j
  unfold am_cp am_row gm_ld
  by_cases h : b = r
  · subst h
    by_cases h2 : 0 ≤ j ∧ j < m
    · rw [if_pos ⟨rfl, h2.1, by omega⟩, if_pos rfl, if_pos h2]; congr 1; omega
    · rw [if_neg (fun w => h2 ⟨w.2.1, by have := w.2.2; omega⟩), if_pos rfl, if_neg h2]
  · rw [if_neg (fun w => h w.1), if_neg h]
section CLS3
variable {N : Nat} {K : am_K} {F : am_F} {I : am_I} {R C A : Int} {lk : Int → Int}
theorem c_carryOut (hc : cw K F) (hg : cg I R C A lk) (hN : 2000000 < N) {u : Int → Int} (hu : cr I u) (huu : gm_u u) {a1 : Nat} (ha : a1 = 17 ∨ a1 = 67) {sd p : Int} (p0 : 0 ≤ p) (p1 : p < A) (pl : lk p = 0) (hsd : gm_sd A p = sd) (hs : gm_st A lk (I a1)) (hz : gm_zb A (I a1)) :
    ∃ J : am_I, X10_carryOut N K F 19 I a1 sd p = some (if (gm_mv A C lk (u 6) (u 7) (u 8) (u 9) (I a1) sd p).2.2 = 0 then 1 else 0, J) ∧ (∀ b, b ≠ 23 + p.toNat → b ≠ 21 → J b = I b) ∧ (∀ j, j ≠ p → J 21 j = I 21 j) ∧
      ((gm_mv A C lk (u 6) (u 7) (u 8) (u 9) (I a1) sd p).2.2 = 0 → gm_eq A (J (23 + p.toNat)) (gm_mv A C lk (u 6) (u 7) (u 8) (u 9) (I a1) sd p).1 ∧ gm_zb A (J (23 + p.toNat)) ∧ J 21 p = gm_tot A (I a1) - gm_tot A (gm_mv A C lk (u 6) (u 7) (u 8) (u 9) (I a1) sd p).1) := by
  have hA := hg.A
  have hsd1 : sd = 0 ∨ sd = 1 := by have := gm_sd_01 A p; omega
  have hr : K (23 + p.toNat) = (100, 32) := cw_rowK hc _ (by omega) (by omega)
  have ha1 : K a1 = (100, 32) := by rcases ha with rfl | rfl; exact cwK_17 hc; exact cwK_67 hc
  have hF : F 22 p = 23 + p.toNat := cw_rowF hc p p0 (by omega)
  generalize hrr : 23 + p.toNat = r at *
  have hq : gm_eq A (gm_ld 32 (I a1) (I r)) (I a1) := fun j a b => by unfold gm_ld; rw [if_pos ⟨a, by omega⟩]
  have hs2 := hq.symm.st hs
  have hz2 : gm_zb A (gm_ld 32 (I a1) (I r)) := fun j a b => by unfold gm_ld; rw [if_pos ⟨by omega, b⟩]; exact hz j a b
  obtain ⟨ex1, ex2⟩ := gm_ex_live hg.1 p0 p1 pl
  rw [hsd] at ex2
  have go1 := gm_go_nx hg.1 (st := 1) (Or.inl rfl) ex1
  have go2 := gm_go_nx hg.1 (st := 1) (Or.inl rfl) ex2
  have gob := gm_go_nx hg.1 (st := -1) (Or.inr rfl) ex1
  obtain ⟨q1, q2⟩ := gm_eq.mv (kd := u 6) (mr := u 7) (lo := u 8) (hi := u 9) hg.1 hq hs2 p0 p1 pl hsd
  rw [← q2]
  rw [← q1.tot, ← hq.tot]
  generalize hcc : gm_ld 32 (I a1) (I r) = c at *
  obtain ⟨s1, s2, s3, s4, s5⟩ := gm_s1_st (s := (c, p)) go1 p0 p1 pl hs2
  obtain ⟨t1, t2, t3, t4, t5⟩ := gm_s1_st (s := (c, p)) go2 p0 p1 pl hs2
  have z1 := gm_s1_zb go1 p0 p1 pl hz2
  have z2 := gm_s1_zb go2 p0 p1 pl hz2
  have es : gm_tot A (gm_s1 (gm_nx A C lk 1 (-1)) (c, p)).1 = gm_tot A c := s2
  have et : gm_tot A (gm_s1 (gm_nx A C lk 1 sd) (c, p)).1 = gm_tot A c := t2
  have h33 : I 3 3 = gm_L A lk := hg.2.1.2.2.2
  have h6 : I 6 sd = gm_Ls A lk sd := by rcases hsd1 with rfl | rfl; exact hg.2.2.2.1.1; exact hg.2.2.2.1.2
  have h150 : I 15 0 = u 6 := hu.1
  -- the last step: what is taken
  have fin : ∀ (c1 c2 : Int → Int) (la : Int), 0 ≤ la → la < A → lk la = 0 → gm_st A lk c1 → gm_tot A c1 = gm_tot A c → gm_zb A c2 → c2 = (if u 6 = 1 then (if gm_sd A la = sd then gm_tc A C sd la c1 else c1) else if u 6 = 3 then (if c1 la = 1 then gm_tc A C sd la c1 else c1) else if u 6 = 2 then gm_ch A sd (u 8) (u 9) (gm_nx A C lk (-1) (-1)) 32 c1 la else c1) → gm_eq A c2 (gm_mv A C lk (u 6) (u 7) (u 8) (u 9) c sd p).1 → (gm_mv A C lk (u 6) (u 7) (u 8) (u 9) c sd p).2.2 = 0 →
      ∃ J : am_I, X10_carryOut_b163 N K F 19 (am_row I r c1) sd p r la = some (if (gm_mv A C lk (u 6) (u 7) (u 8) (u 9) c sd p).2.2 = 0 then 1 else 0, J) ∧ (∀ b, b ≠ r → b ≠ 21 → J b = I b) ∧ (∀ j, j ≠ p → J 21 j = I 21 j) ∧ ((gm_mv A C lk (u 6) (u 7) (u 8) (u 9) c sd p).2.2 = 0 → gm_eq A (J r) (gm_mv A C lk (u 6) (u 7) (u 8) (u 9) (I a1) sd p).1 ∧ gm_zb A (J r) ∧ J 21 p = gm_tot A c - gm_tot A (gm_mv A C lk (u 6) (u 7) (u 8) (u 9) c sd p).1) := by
    intro c1 c2 la a0 a1' al hs1 htot hz3 hc2 heq hlg
    have er : (am_u2 (am_row I r c2) 21 p (gm_tot A c1 - gm_tot A c2)) r = c2 := by funext j; rw [am_u2_a (by omega), am_row_s]
    refine ⟨am_u2 (am_row I r c2) 21 p (gm_tot A c1 - gm_tot A c2), ?_, fun b h1 h2 => ?_, fun j hj => ?_, fun _ => ⟨?_, ?_, ?_⟩⟩
    · unfold X10_carryOut_b163
      simp only [am_lt, cwF_19_1 hc, cwK_21 hc]
      rw [c_takeBehind hc hg (by omega) hu hr (by omega) hsd1 huu.2.1 a0 a1' al hs1 hc2, am_cl_s]
      rw [if_pos trivial, if_pos (by decide), if_pos (by omega), if_pos hlg]
    · funext j; rw [am_u2_a h2, am_row_n h1]
    · rw [am_u2_k hj, am_row_n (by omega)]
    · rw [er]; exact heq.trans q1
    · rw [er]; exact hz3
    · rw [am_u2_s, htot, heq.tot]
  unfold X10_carryOut X10_carryOut_b34 X10_carryOut_b58 X10_carryOut_b84
  simp only [cwF_19_2 hc, cwK_22 hc, hF, am_lt, ha1, hr, cwF_19_6 hc, cwK_15 hc, cwF_19_5 hc, cwK_3 hc, cwF_3_11 hc, cwF_3_13 hc, cwF_3_6 hc, cwK_6 hc, am_cp_row, hcc]
  rw [if_pos trivial, if_pos (by omega), if_pos trivial, if_pos trivial, if_pos (by omega), if_pos (by omega), if_pos (by omega), if_pos trivial]
  rw [am_row_n (show (15 : Nat) ≠ r by omega), h150]
  by_cases k3 : u 6 = 3
  · rw [if_pos k3, if_neg (by decide), if_pos trivial, if_neg (by decide), if_pos trivial, if_pos trivial, if_pos (by omega), am_row_n (show (6 : Nat) ≠ r by omega), h6, cg.s2 hc hg hN hr (by omega) p0 p1 pl hsd hs2 hz2, am_cl_s, if_pos trivial, am_row_n (show (15 : Nat) ≠ r by omega), h150, if_neg (by omega)]
    have e : gm_mv A C lk (u 6) (u 7) (u 8) (u 9) c sd p = (if (gm_s1 (gm_nx A C lk 1 sd) (c, p)).1 (gm_s1 (gm_nx A C lk 1 sd) (c, p)).2 = 1 then gm_tc A C sd (gm_s1 (gm_nx A C lk 1 sd) (c, p)).2 (gm_s1 (gm_nx A C lk 1 sd) (c, p)).1 else (gm_s1 (gm_nx A C lk 1 sd) (c, p)).1, (gm_s1 (gm_nx A C lk 1 sd) (c, p)).2, 0) := by
      unfold gm_mv; rw [if_neg (by omega), if_pos k3]
    refine fin _ (if (gm_s1 (gm_nx A C lk 1 sd) (c, p)).1 (gm_s1 (gm_nx A C lk 1 sd) (c, p)).2 = 1 then gm_tc A C sd (gm_s1 (gm_nx A C lk 1 sd) (c, p)).2 (gm_s1 (gm_nx A C lk 1 sd) (c, p)).1 else (gm_s1 (gm_nx A C lk 1 sd) (c, p)).1) _ t3 t4 t5 t1 et ?_ ?_ ?_ ?_
    · split
      · exact gm_tc_zb z2
      · exact z2
    · rw [if_neg (by omega : ¬ u 6 = 1), if_pos k3]
    · rw [e]; exact gm_eq.rfl
    · rw [e]
  · rw [if_neg k3, if_pos trivial, if_pos trivial, if_pos trivial, if_pos trivial, am_row_n (show (3 : Nat) ≠ r by omega), h33, cg.s1 hc hg hN hr (by omega) p0 p1 pl hs2 hz2, am_cl_s, if_pos trivial, am_row_n (show (15 : Nat) ≠ r by omega), h150]
    by_cases k1 : u 6 = 1
    · rw [if_pos k1]
      obtain ⟨J, r1, r2, r3, r4⟩ := c_relay_l (N := N) (p := p) hc hg hN hu k1 huu.1 huu.2.1 hsd1 p0 (by omega) hr (by omega) (u 7 - 1).toNat N _ _ 1 (by have := huu.1; omega) (by have := huu.1; omega) (by omega) s3 s4 s5 s1 z1
      rw [show (u 7 - 1).toNat + 1 = (u 7).toNat by have := huu.1; omega] at r1 r4
      rw [show ((gm_s1 (gm_nx A C lk 1 (-1)) (c, p)).1, (gm_s1 (gm_nx A C lk 1 (-1)) (c, p)).2) = gm_s1 (gm_nx A C lk 1 (-1)) (c, p) from rfl] at r1 r4
      have e2 : (gm_mv A C lk (u 6) (u 7) (u 8) (u 9) c sd p).2.2 = (gm_rl (gm_nx A C lk 1 (-1)) (u 7).toNat (gm_s1 (gm_nx A C lk 1 (-1)) (c, p))).2 := by
        unfold gm_mv; rw [if_pos k1]
      rw [e2]
      refine ⟨J, r1, r2, r3, fun hl => ?_⟩
      obtain ⟨x1, x2, x3⟩ := r4 hl
      have e1 : (gm_mv A C lk (u 6) (u 7) (u 8) (u 9) c sd p).1 = J r := by
        rw [x1]
        unfold gm_mv
        rw [if_pos k1]
        dsimp only
        by_cases g : gm_sd A (gm_rl (gm_nx A C lk 1 (-1)) (u 7).toNat (gm_s1 (gm_nx A C lk 1 (-1)) (c, p))).1.2 = sd
        · rw [if_pos ⟨hl, g⟩, if_pos g]
        · rw [if_neg (fun w => g w.2), if_neg g]
      refine ⟨?_, x3, ?_⟩
      · rw [← e1]; exact q1
      · rw [x2, e1, es]
    · rw [if_neg k1]
      by_cases k2 : u 6 = 2
      · have e : gm_mv A C lk (u 6) (u 7) (u 8) (u 9) c sd p = (gm_ch A sd (u 8) (u 9) (gm_nx A C lk (-1) (-1)) 32 (gm_s1 (gm_nx A C lk 1 (-1)) (c, p)).1 (gm_s1 (gm_nx A C lk 1 (-1)) (c, p)).2, (gm_s1 (gm_nx A C lk 1 (-1)) (c, p)).2, 0) := by
          unfold gm_mv; rw [if_neg k1, if_neg k3, if_pos k2]
        refine fin _ _ _ s3 s4 s5 s1 es (gm_ch_zb gob 32 _ _ s3 s4 s5 z1) (by rw [if_neg k1, if_neg k3, if_pos k2]) ?_ ?_
        · rw [e]; exact gm_eq.rfl
        · rw [e]
      · have e : gm_mv A C lk (u 6) (u 7) (u 8) (u 9) c sd p = ((gm_s1 (gm_nx A C lk 1 (-1)) (c, p)).1, (gm_s1 (gm_nx A C lk 1 (-1)) (c, p)).2, 0) := by
          unfold gm_mv; rw [if_neg k1, if_neg k3, if_neg k2]
        refine fin _ _ _ s3 s4 s5 s1 es z1 (by rw [if_neg k1, if_neg k3, if_neg k2]) ?_ ?_
        · rw [e]; exact gm_eq.rfl
        · rw [e]
/-- the seeds of a side -/
def gm_ss (A sd : Int) (c : Int → Int) : Int := gm_sm (fun j => if gm_sd A j = sd then c j else 0) A.toNat
theorem gm_sm_ext {g : Int → Int} {d e : Nat} (h : d ≤ e) (hz : ∀ i : Int, (d : Int) ≤ i → i < e → g i = 0) : gm_sm g e = gm_sm g d := by
  obtain ⟨k, rfl⟩ : ∃ k, e = d + k := ⟨e - d, by omega⟩
  clear h
  induction k with
  | zero => rfl
  | succ k ih =>
    rw [show d + (k + 1) = (d + k) + 1 by omega, gm_sm_s, ih (fun i a b => hz i a (by omega)), hz _ (by omega) (by omega)]
    omega
theorem c_seedsOf (hc : cw K F) (hg : cg I R C A lk) (hN : 100 < N) {a2 : Nat} (hk : K a2 = (100, 32)) {sd : Int} (hsd : sd = 0 ∨ sd = 1) (hb : gm_bd A (I a2)) : X1_seedsOf N K F I 3 sd a2 = some (gm_ss A sd (I a2)) := by
  have hA := hg.A
  have hh := gm_half hg.1
  obtain ⟨-, -, hp, -, ⟨f0, f1, e0, e1⟩, -⟩ := hg
  have loop : ∀ (lo hi : Int), 0 ≤ lo → lo ≤ hi → hi ≤ A → (∀ x, lo ≤ x → x < hi → gm_sd A x = sd) → (∀ x, 0 ≤ x → x < lo → gm_sd A x ≠ sd) → (∀ x, hi ≤ x → x < A → gm_sd A x ≠ sd) → (I 8 sd = hi) →
      X1_seedsOf_h10 N K F I 3 N sd a2 0 lo = some (gm_ss A sd (I a2)) := by
    intro lo hi l0 l1 l2 hin hbe haf hend
    have hl := am_for (fun f s x => X1_seedsOf_h10 N K F I 3 f sd a2 s x) hi (fun x s => s + I a2 x) (fun x s => lo ≤ x ∧ x ≤ hi ∧ s = gm_sm (fun j => if gm_sd A j = sd then I a2 j else 0) x.toNat) (fun _ s => some s) ?_ ?_ (hi - lo).toNat N 0 lo rfl (by omega) ⟨by omega, by omega, (gm_sm_z (fun i a b => by rw [if_neg (hbe i a (by omega))])).symm⟩
    · rw [hl.1, hl.2.2.2]
      congr 1
      rw [show (lo + ((hi - lo).toNat : Int)).toNat = hi.toNat by omega]
      unfold gm_ss
      exact (gm_sm_ext (by omega) (fun i a b => by rw [if_neg (haf i (by omega) (by omega))])).symm
    · intro f s x hx hi2
      obtain ⟨i1, i2, i3⟩ := hi2
      have hbx := hb x (by omega) (by omega)
      have hsb := gm_sm_b (g := fun j => if gm_sd A j = sd then I a2 j else 0) (B := 600000) (d := x.toNat) (fun i a b => by have := hb i a (by omega); split <;> omega)
      refine ⟨?_, by omega, by omega, ?_⟩
      · show X1_seedsOf_s10 N K F I 3 (X1_seedsOf_h10 N K F I 3 f) sd a2 s x = X1_seedsOf_h10 N K F I 3 f sd a2 _ _
        generalize X1_seedsOf_h10 N K F I 3 f = kk
        unfold X1_seedsOf_s10
        simp only [cwF_3_8 hc, cwK_8 hc, hk, am_lt, hend]
        rw [if_pos trivial, if_pos (by omega), if_pos hx, if_pos trivial, if_pos (by omega), if_pos (nb_in (by omega)), if_pos (nb_in (by omega))]
      · rw [show (x + 1).toNat = x.toNat + 1 by omega, gm_sm_s, ← i3, show ((x.toNat : Nat) : Int) = x by omega, if_pos (hin x i1 hx)]
    · intro f s x hx hi2
      show X1_seedsOf_s10 N K F I 3 (X1_seedsOf_h10 N K F I 3 f) sd a2 s x = _
      unfold X1_seedsOf_s10
      simp only [cwF_3_8 hc, cwK_8 hc, hend]
      rw [if_pos trivial, if_pos (by omega), if_neg hx]
  unfold X1_seedsOf
  simp only [cwF_3_7 hc, cwK_7 hc, am_lt]
  rw [if_pos trivial, if_pos (by omega)]
  rcases hsd with rfl | rfl
  · rw [f0]
    exact loop 0 (A / 2) (by omega) (by omega) (by omega) (fun x a b => by unfold gm_sd; rw [if_pos (by omega)]) (fun x a b => by omega) (fun x a b => by unfold gm_sd; rw [if_neg (by omega)]; decide) e0
  · rw [f1]
    exact loop (A / 2) A (by omega) (by omega) (by omega) (fun x a b => by unfold gm_sd; rw [if_neg (by omega)]) (fun x a b => by unfold gm_sd; rw [if_pos (by omega)]; decide) (fun x a b => by omega) e1
theorem gm_ss_tot (A : Int) (c : Int → Int) : gm_ss A 0 c + gm_ss A 1 c = gm_tot A c := by
  unfold gm_ss gm_tot
  rw [← gm_sm_add]
  refine gm_sm_congr (fun i _ _ => ?_)
  rcases gm_sd_01 A i with h | h
  · rw [if_pos h, if_neg (by omega)]; omega
  · rw [if_neg (by omega), if_pos h]; omega
theorem c_seedsIn (hc : cw K F) (hg : cg I R C A lk) (hN : 100 < N) {a2 : Nat} (hk : K a2 = (100, 32)) (hb : gm_bd A (I a2)) : X1_seedsIn N K F I 3 a2 = some (gm_tot A (I a2)) := by
  have hA := hg.A
  have hsb := gm_sm_b (g := I a2) (B := 600000) (d := A.toNat) (fun i a b => hb i a (by omega))
  have ht := gm_ss_tot A (I a2)
  unfold X1_seedsIn
  rw [c_seedsOf hc hg hN hk (Or.inl rfl) hb, am_cq_s, c_seedsOf hc hg hN hk (Or.inr rfl) hb, am_cq_s, ht, if_pos (nb_in (by unfold gm_tot; omega))]
theorem gm_fed_ss {A : Int} {c : Int → Int} {sd : Int} (hsd : sd = 0 ∨ sd = 1) (hn : ∀ j, 0 ≤ j → j < A → 0 ≤ c j) : ∀ d : Nat, (d : Int) ≤ A → (gm_fed A c sd d = 1 ↔ 0 < gm_sm (fun j => if gm_sd A j = 1 - sd then c j else 0) d) := by
  intro d
  induction d with
  | zero => intro _; simp [gm_fed, gm_sm]
  | succ d ih =>
    intro hd
    have ih := ih (by omega)
    have hc := hn (d : Int) (by omega) (by omega)
    have h0 := gm_sm_le (g := fun _ => 0) (g' := fun j => if gm_sd A j = 1 - sd then c j else 0) (d := d) (fun i a b => by have := hn i a (by omega); split <;> omega)
    rw [gm_sm_z (fun _ _ _ => rfl)] at h0
    rw [gm_sm_s]
    unfold gm_fed
    have h01 := gm_fed_01 A c sd d
    have hs := gm_sd_01 A (d : Int)
    by_cases g : gm_fed A c sd d = 0
    · rw [if_pos g]
      have g2 : ¬ 0 < gm_sm (fun j => if gm_sd A j = 1 - sd then c j else 0) d := fun w => by have := ih.mpr w; omega
      by_cases k : gm_sd A (d : Int) = 1 - sd
      · rw [if_pos k]
        by_cases k2 : 0 < c (d : Int)
        · rw [if_pos ⟨by omega, k2⟩]; omega
        · rw [if_neg (fun w => k2 w.2)]; omega
      · rw [if_neg k, if_neg (fun w => by have := w.1; omega)]; omega
    · rw [if_neg g]
      have := ih.mp (by omega)
      split <;> omega
end CLS3
