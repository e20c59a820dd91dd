-- THE CLASS: the survey
/-- the class's scratch: open, taken, rows, found, how many are open -/
def cs (I J : am_I) : Prop := ∀ b j, b ≠ 20 → b ≠ 21 → (b < 23 ∨ 55 < b) → (b ≠ 19 ∨ j ≠ 3) → J b j = I b j
theorem cs.rfl {I : am_I} : cs I I := fun _ _ _ _ _ _ => Eq.refl _
theorem cs.trans {I J H : am_I} (h : cs I J) (h' : cs J H) : cs I H := fun b j a1 a2 a3 a4 => (h' b j a1 a2 a3 a4).trans (h b j a1 a2 a3 a4)
theorem cs.row {I J : am_I} (h : cs I J) {b : Nat} (h1 : b < 19 ∨ 55 < b) : J b = I b := by funext j; exact h b j (by omega) (by omega) (by omega) (Or.inl (by omega))
theorem cs.g {I J : am_I} {R C A : Int} {lk : Int → Int} (h : cs I J) (hg : cg I R C A lk) : cg J R C A lk := hg.kept (fun b _ _ => h.row (by omega))
theorem cs.r {I J : am_I} {u : Int → Int} (h : cs I J) (hu : cr I u) : cr J u := hu.kept (h.row (by omega))
/-- what the class has found of a pit -/
def gm_fd (A C : Int) (lk u c : Int → Int) (who p : Int) : Int := if gm_fc A C lk u c who p = 2 ∧ u 11 = 0 then 1 else gm_fc A C lk u c who p
theorem gm_fc_v (A C : Int) (lk u c : Int → Int) (who p : Int) : gm_fc A C lk u c who p = 0 ∨ gm_fc A C lk u c who p = -1 ∨ gm_fc A C lk u c who p = 1 ∨ gm_fc A C lk u c who p = 2 := by
  unfold gm_fc
  split
  · split
    · omega
    · split <;> omega
  · omega
/-- what a survey keeps of pit p -/
def gm_kp (A C : Int) (lk u c : Int → Int) (who : Int) (J : am_I) (p : Int) : Prop := 0 < gm_fc A C lk u c who p → gm_eq A (J (23 + p.toNat)) (gm_mv A C lk (u 6) (u 7) (u 8) (u 9) c who p).1 ∧ gm_zb A (J (23 + p.toNat)) ∧ J 21 p = gm_tot A c - gm_tot A (gm_mv A C lk (u 6) (u 7) (u 8) (u 9) c who p).1
section CLS4
variable {N : Nat} {K : am_K} {F : am_F} {I : am_I} {R C A : Int} {lk : Int → Int}
theorem c_tryPit (hc : cw K F) (hg : cg I R C A lk) (hN : 2000000 < N) {u : Int → Int} (hu : cr I u) (huu : gm_u u) {a1 : Nat} (ha : a1 = 17 ∨ a1 = 67) {sd p : Int} (hsd1 : sd = 0 ∨ sd = 1) (p0 : 0 ≤ p) (p1 : p < A) (hs : gm_st A lk (I a1)) (hz : gm_zb A (I a1)) :
    ∃ J : am_I, X10_tryPit N K F 19 I a1 sd p = some (gm_fd A C lk u (I a1) sd p, J) ∧ (∀ b, b ≠ 23 + p.toNat → b ≠ 21 → J b = I b) ∧ (∀ j, j ≠ p → J 21 j = I 21 j) ∧ gm_kp A C lk u (I a1) sd J p := by
  have hA := hg.A
  have hk : K a1 = (100, 32) := by rcases ha with rfl | rfl; exact cwK_17 hc; exact cwK_67 hc
  have hF : F 22 p = 23 + p.toNat := cw_rowF hc p p0 (by omega)
  have hr : K (23 + p.toNat) = (100, 32) := cw_rowK hc _ (by omega) (by omega)
  obtain ⟨g4, g9, -⟩ := hg.2.2.1 p p0 p1
  have h154 : I 15 4 = u 10 := hu.2.2.2.2.1
  have h155 : I 15 5 = u 11 := hu.2.2.2.2.2.1
  unfold X10_tryPit X10_tryPit_b38 X10_tryPit_b85 X10_tryPit_b86
  simp only [cwF_19_5 hc, cwK_3 hc, cwF_3_9 hc, cwK_9 hc, cwF_3_4 hc, cwK_4 hc, cwF_19_6 hc, cwK_15 hc, cwF_19_2 hc, cwK_22 hc, hF, hk, g4, g9, h154]
  rw [if_pos trivial, if_pos trivial, if_pos (by omega)]
  by_cases hown : gm_sd A p = sd ∧ lk p = 0 ∧ u 10 ≤ I a1 p
  · rw [if_pos hown.1, if_pos trivial, if_pos (by omega), if_pos hown.2.1, if_pos trivial, if_pos (by omega), if_pos trivial, if_neg (by omega)]
    obtain ⟨J, r1, r2, r3, r4⟩ := c_carryOut hc hg hN hu huu ha p0 p1 hown.2.1 hown.1 hs hz
    rw [r1, am_cl_s, r2 15 (by omega) (by decide), h155]
    by_cases hl : (gm_mv A C lk (u 6) (u 7) (u 8) (u 9) (I a1) sd p).2.2 = 0
    · rw [if_pos hl, if_neg (by decide)]
      obtain ⟨x1, x2, x3⟩ := r4 hl
      have hfc : gm_fc A C lk u (I a1) sd p = if gm_fed A (gm_mv A C lk (u 6) (u 7) (u 8) (u 9) (I a1) sd p).1 sd A.toNat = 1 then 2 else 1 := by
        unfold gm_fc; rw [if_pos hown, if_neg (fun w => w hl)]
      obtain ⟨m1, m2, -⟩ := gm_mv_st (kd := u 6) (mr := u 7) (lo := u 8) (hi := u 9) hg.1 hs p0 p1 hown.2.1 hown.1
      by_cases hf : u 11 = 0
      · rw [if_pos hf]
        refine ⟨J, ?_, r2, r3, fun _ => ⟨x1, x2, x3⟩⟩
        congr 2
        unfold gm_fd
        rw [hfc]
        by_cases g : gm_fed A (gm_mv A C lk (u 6) (u 7) (u 8) (u 9) (I a1) sd p).1 sd A.toNat = 1
        · rw [if_pos g, if_pos ⟨Eq.refl _, hf⟩]
        · rw [if_neg g, if_neg (fun w => absurd w.1 (by decide))]
      · have hcgJ : cg J R C A lk := hg.kept (fun b h1 h2 => r2 b (by omega) (by omega))
        have hbd : gm_bd A (J (23 + p.toNat)) := (x1.symm.st m1).bd
        rw [if_neg hf, if_pos (nb_in (by omega)), if_pos trivial, if_pos (by omega), c_seedsOf hc hcgJ (by omega) hr (show 1 - sd = 0 ∨ 1 - sd = 1 by omega) hbd, am_cq_s]
        have hfs := gm_fed_ss (c := (gm_mv A C lk (u 6) (u 7) (u 8) (u 9) (I a1) sd p).1) hsd1 m1.1 A.toNat (by omega)
        have hsse : gm_ss A (1 - sd) (J (23 + p.toNat)) = gm_sm (fun j => if gm_sd A j = 1 - sd then (gm_mv A C lk (u 6) (u 7) (u 8) (u 9) (I a1) sd p).1 j else 0) A.toNat := by
          unfold gm_ss
          exact gm_sm_congr (fun i a b => by rw [x1 i a (by omega)])
        rw [hsse]
        have hfd : gm_fd A C lk u (I a1) sd p = gm_fc A C lk u (I a1) sd p := by unfold gm_fd; rw [if_neg (fun w => hf w.2)]
        by_cases g : gm_fed A (gm_mv A C lk (u 6) (u 7) (u 8) (u 9) (I a1) sd p).1 sd A.toNat = 1
        · rw [if_pos (hfs.mp g)]
          exact ⟨J, by rw [hfd, hfc, if_pos g], r2, r3, fun _ => ⟨x1, x2, x3⟩⟩
        · rw [if_neg (fun w => g (hfs.mpr w))]
          exact ⟨J, by rw [hfd, hfc, if_neg g], r2, r3, fun _ => ⟨x1, x2, x3⟩⟩
    · rw [if_neg hl, if_pos (Eq.refl _)]
      have hfc : gm_fc A C lk u (I a1) sd p = -1 := by unfold gm_fc; rw [if_pos hown, if_pos hl]
      refine ⟨J, ?_, r2, r3, fun w => by rw [hfc] at w; exact absurd w (by decide)⟩
      unfold gm_fd
      rw [hfc]; rfl
  · have hfc : gm_fc A C lk u (I a1) sd p = 0 := by unfold gm_fc; rw [if_neg hown]
    have hfd : gm_fd A C lk u (I a1) sd p = 0 := by unfold gm_fd; rw [hfc]; rfl
    refine ⟨I, ?_, fun _ _ _ => Eq.refl _, fun _ _ => Eq.refl _, fun w => by rw [hfc] at w; exact absurd w (by decide)⟩
    rw [hfd]
    by_cases h1 : gm_sd A p = sd
    · rw [if_pos h1, if_pos trivial, if_pos (by omega)]
      by_cases h2 : lk p = 0
      · rw [if_pos h2, if_pos trivial, if_pos (by omega), if_pos trivial, if_pos (by omega)]
      · rw [if_neg h2]
    · rw [if_neg h1]
/-- the least that is open -/
def gm_lst (A C : Int) (lk u c : Int → Int) (who : Int) : Nat → Int
  | 0 => 1
  | d + 1 => am_max (gm_lst A C lk u c who d) (gm_fd A C lk u c who (d : Int))
theorem gm_lst_v (A C : Int) (lk u c : Int → Int) (who : Int) (d : Nat) : gm_lst A C lk u c who d = if u 11 ≠ 0 ∧ gm_any A C lk u c who d ≠ 0 then 2 else 1 := by
  induction d with
  | zero => unfold gm_lst gm_any; rw [if_neg (fun w => w.2 (Eq.refl _))]
  | succ d ih =>
    have hv := gm_fc_v A C lk u c who (d : Int)
    have ha := gm_any_01 A C lk u c who d
    have e1 : gm_any A C lk u c who (d + 1) = if gm_any A C lk u c who d = 0 then (if gm_fc A C lk u c who (d : Int) = 2 then 1 else 0) else 1 := Eq.refl _
    have e2 : gm_lst A C lk u c who (d + 1) = am_max (gm_lst A C lk u c who d) (gm_fd A C lk u c who (d : Int)) := Eq.refl _
    rw [e2, ih, e1]
    unfold am_max gm_fd
    generalize gm_any A C lk u c who d = a at *
    generalize gm_fc A C lk u c who (d : Int) = v at *
    rcases hv with rfl | rfl | rfl | rfl <;> rcases ha with rfl | rfl <;> by_cases hf : u 11 = 0 <;> simp [hf]
theorem gm_al_fd (A C : Int) (lk u c : Int → Int) (who p : Int) : gm_al A C lk u c who p = if gm_lst A C lk u c who A.toNat ≤ gm_fd A C lk u c who p then 1 else 0 := by
  rw [gm_lst_v]
  have hv := gm_fc_v A C lk u c who p
  have ha := gm_any_01 A C lk u c who A.toNat
  unfold gm_al gm_fd
  generalize gm_any A C lk u c who A.toNat = a at *
  generalize gm_fc A C lk u c who p = v at *
  rcases hv with rfl | rfl | rfl | rfl <;> rcases ha with rfl | rfl <;> by_cases hf : u 11 = 0 <;> simp [hf]
theorem c_survey_2 (hc : cw K F) (hg : cg I R C A lk) {u : Int → Int} {c : Int → Int} {sd : Int} (hfd : ∀ p, 0 ≤ p → p < A → I 55 p = gm_fd A C lk u c sd p) : ∀ (d f : Nat) (J : am_I) (x : Int), (A - x).toNat = d → d < f → 0 ≤ x → x ≤ A → (∀ b j, b ≠ 20 → (b ≠ 19 ∨ j ≠ 3) → J b j = I b j) → (∀ p, 0 ≤ p → p < x → J 20 p = gm_al A C lk u c sd p) → J 19 3 = gm_sm (gm_al A C lk u c sd) x.toNat →
    ∃ J', X10_survey_h58 N K F 19 f J (gm_lst A C lk u c sd A.toNat) x = some (gm_sm (gm_al A C lk u c sd) A.toNat, J') ∧ (∀ b j, b ≠ 20 → (b ≠ 19 ∨ j ≠ 3) → J' b j = I b j) ∧ (∀ p, 0 ≤ p → p < A → J' 20 p = gm_al A C lk u c sd p) ∧ J' 19 3 = gm_sm (gm_al A C lk u c sd) A.toNat := by
  have hA := hg.A
  have h32 : I 3 2 = A := hg.2.1.2.2.1
  intro d
  induction d with
  | zero =>
    intro f J x hd hf x0 x1 hJ hb hn
    obtain ⟨f, rfl⟩ : ∃ g, f = g + 1 := ⟨f - 1, by omega⟩
    have e : A = x := by omega
    subst e
    refine ⟨J, ?_, hJ, hb, hn⟩
    show X10_survey_s58 N K F 19 (X10_survey_h58 N K F 19 f) J _ A = _
    unfold X10_survey_s58
    simp only [cwF_19_5 hc, cwK_3 hc, hJ 3 2 (by decide) (Or.inl (by decide)), h32]
    rw [if_pos trivial, if_neg (by omega), hn]
  | succ d ih =>
    intro f J x hd hf x0 x1 hJ hb hn
    obtain ⟨f, rfl⟩ : ∃ g, f = g + 1 := ⟨f - 1, by omega⟩
    have hx : x < A := by omega
    have h55 : J 55 x = gm_fd A C lk u c sd x := (hJ 55 x (by decide) (Or.inl (by decide))).trans (hfd x x0 hx)
    have hal := gm_al_fd A C lk u c sd x
    have hsum : gm_sm (gm_al A C lk u c sd) (x + 1).toNat = gm_sm (gm_al A C lk u c sd) x.toNat + gm_al A C lk u c sd x := by
      rw [show (x + 1).toNat = x.toNat + 1 by omega, gm_sm_s, show ((x.toNat : Nat) : Int) = x by omega]
    have hsb := gm_sm_b (g := gm_al A C lk u c sd) (B := 1) (d := x.toNat) (fun i _ _ => by rcases gm_al_01 A C lk u c sd i with w | w <;> omega)
    show ∃ J', X10_survey_s58 N K F 19 (X10_survey_h58 N K F 19 f) J _ x = _ ∧ _
    unfold X10_survey_s58 X10_survey_b92 X10_survey_b113
    simp only [cwF_19_5 hc, cwK_3 hc, hJ 3 2 (by decide) (Or.inl (by decide)), h32, cwF_19_4 hc, cwK_55 hc, h55, cwF_19_0 hc, cwK_20 hc, am_lt]
    rw [if_pos trivial, if_pos hx, if_pos trivial, if_pos (by omega)]
    by_cases g : gm_lst A C lk u c sd A.toNat ≤ gm_fd A C lk u c sd x
    · rw [if_pos g] at hal
      rw [if_pos g, if_pos trivial, if_pos (by decide), if_pos (by omega), if_pos (Or.inr trivial), if_pos trivial, if_pos (by omega), am_u2_s, if_neg (by decide)]
      rw [am_u2_a (show (19 : Nat) ≠ 20 by decide), hn, if_pos (nb_in (by omega)), if_pos (nb_in (by omega))]
      refine ih f _ (x + 1) (by omega) (by omega) (by omega) (by omega) (fun b j h1 h2 => ?_) (fun p a b => ?_) ?_
      · have : am_u2 (am_u2 J 20 x 1) 19 3 (gm_sm (gm_al A C lk u c sd) x.toNat + 1) b j = am_u2 J 20 x 1 b j := if_neg (fun w => by rcases h2 with h | h; exact h w.1; exact h w.2)
        rw [this, am_u2_a h1]; exact hJ b j h1 h2
      · rw [am_u2_a (by decide)]
        by_cases e : p = x
        · subst e; rw [am_u2_s, hal]
        · rw [am_u2_k e]; exact hb p a (by omega)
      · rw [am_u2_s, hsum, hal]
    · rw [if_neg g] at hal
      rw [if_neg g, if_pos trivial, if_pos (by decide), if_pos (by omega), if_pos (Or.inl trivial), if_pos trivial, if_pos (by omega), am_u2_s, if_pos (Eq.refl _), if_pos (nb_in (by omega))]
      refine ih f _ (x + 1) (by omega) (by omega) (by omega) (by omega) (fun b j h1 h2 => ?_) (fun p a b => ?_) ?_
      · rw [am_u2_a h1]; exact hJ b j h1 h2
      · by_cases e : p = x
        · subst e; rw [am_u2_s, hal]
        · rw [am_u2_k e]; exact hb p a (by omega)
      · rw [am_u2_a (by decide), hn, hsum, hal]; omega
theorem c_survey_1 (hc : cw K F) (hg : cg I R C A lk) (hN : 2000000 < N) {u : Int → Int} (hu : cr I u) (huu : gm_u u) {a1 : Nat} (ha : a1 = 17 ∨ a1 = 67) {sd : Int} (hsd1 : sd = 0 ∨ sd = 1) (hs : gm_st A lk (I a1)) (hz : gm_zb A (I a1)) : ∀ (d f : Nat) (J : am_I) (x : Int), (A - x).toNat = d → d < f → 0 ≤ x → x ≤ A → cs I J → (∀ p, 0 ≤ p → p < x → J 55 p = gm_fd A C lk u (I a1) sd p ∧ gm_kp A C lk u (I a1) sd J p) →
    ∃ J', X10_survey_h5 N K F 19 f J a1 sd (gm_lst A C lk u (I a1) sd x.toNat) x = some (gm_sm (gm_al A C lk u (I a1) sd) A.toNat, J') ∧ cs I J' ∧ (∀ p, 0 ≤ p → p < A → J' 20 p = gm_al A C lk u (I a1) sd p ∧ J' 55 p = gm_fd A C lk u (I a1) sd p ∧ gm_kp A C lk u (I a1) sd J' p) ∧ J' 19 3 = gm_sm (gm_al A C lk u (I a1) sd) A.toNat := by
  have hA := hg.A
  have h32 : I 3 2 = A := hg.2.1.2.2.1
  intro d
  induction d with
  | zero =>
    intro f J x hd hf x0 x1 hJ hb
    obtain ⟨f, rfl⟩ : ∃ g, f = g + 1 := ⟨f - 1, by omega⟩
    have e : A = x := by omega
    subst e
    have hg2 : cg (am_u2 J 19 3 0) R C A lk := (hJ.g hg).kept (fun b h1 h2 => by funext j; exact am_u2_a (by omega))
    obtain ⟨J', r1, r2, r3, r4⟩ := c_survey_2 (N := N) (I := am_u2 J 19 3 0) (u := u) (c := I a1) (sd := sd) hc hg2 (fun p a b => by rw [am_u2_a (by decide)]; exact (hb p a b).1) A.toNat N (am_u2 J 19 3 0) 0 (by omega) (by omega) (by omega) (by omega) (fun _ _ _ _ => Eq.refl _) (fun p a b => by omega) (by rw [am_u2_s]; rfl)
    have hrow : ∀ b, b ≠ 20 → b ≠ 19 → J' b = J b := fun b h1 h2 => by
      funext j; rw [r2 b j h1 (Or.inl h2), am_u2_a h2]
    refine ⟨J', ?_, fun b j h1 h2 h3 h4 => ?_, fun p a b => ⟨r3 p a b, ?_, ?_⟩, r4⟩
    · show X10_survey_s5 N K F 19 (X10_survey_h5 N K F 19 f) J a1 sd _ A = _
      unfold X10_survey_s5
      simp only [cwF_19_5 hc, cwK_3 hc, am_lt, hJ.row (show (3 : Nat) < 19 ∨ 55 < 3 by omega), h32]
      rw [if_pos trivial, if_neg (by omega)]
      exact r1
    · rw [r2 b j h1 h4]
      have : am_u2 J 19 3 0 b j = J b j := if_neg (fun w => by rcases h4 with h | h; exact h w.1; exact h w.2)
      rw [this]; exact hJ b j h1 h2 h3 h4
    · rw [hrow 55 (by decide) (by decide)]; exact (hb p a b).1
    · have := (hb p a b).2
      unfold gm_kp at this ⊢
      rw [hrow (23 + p.toNat) (by omega) (by omega), hrow 21 (by decide) (by decide)]
      exact this
  | succ d ih =>
    intro f J x hd hf x0 x1 hJ hb
    obtain ⟨f, rfl⟩ : ∃ g, f = g + 1 := ⟨f - 1, by omega⟩
    have hx : x < A := by omega
    have ea : J a1 = I a1 := hJ.row (by omega)
    obtain ⟨J1, r1, r2, r3, r4⟩ := c_tryPit (p := x) hc (hJ.g hg) hN (hJ.r hu) huu ha hsd1 x0 hx (by rw [ea]; exact hs) (by rw [ea]; exact hz)
    rw [ea] at r1 r4
    have hl : gm_lst A C lk u (I a1) sd (x + 1).toNat = am_max (gm_lst A C lk u (I a1) sd x.toNat) (gm_fd A C lk u (I a1) sd x) := by
      rw [show (x + 1).toNat = x.toNat + 1 by omega]
      conv => lhs; unfold gm_lst
      rw [show ((x.toNat : Nat) : Int) = x by omega]
    have hrow : ∀ b, b ≠ 23 + x.toNat → b ≠ 21 → b ≠ 55 → am_u2 J1 55 x (gm_fd A C lk u (I a1) sd x) b = J b := fun b h1 h2 h3 => by
      funext j; rw [am_u2_a h3]; exact congrFun (r2 b h1 h2) j
    obtain ⟨J', q1, q2⟩ := ih f (am_u2 J1 55 x (gm_fd A C lk u (I a1) sd x)) (x + 1) (by omega) (by omega) (by omega) (by omega) (fun b j h1 h2 h3 h4 => by
      rw [hrow b (by omega) h2 (by omega)]; exact hJ b j h1 h2 h3 h4) (fun p a b => by
      by_cases e : p = x
      · subst e
        refine ⟨am_u2_s _ _ _ _, ?_⟩
        unfold gm_kp at r4 ⊢
        intro w
        obtain ⟨y1, y2, y3⟩ := r4 w
        have er : am_u2 J1 55 p (gm_fd A C lk u (I a1) sd p) (23 + p.toNat) = J1 (23 + p.toNat) := by funext j; exact am_u2_a (by omega)
        rw [er, am_u2_a (by decide)]
        exact ⟨y1, y2, y3⟩
      · obtain ⟨y1, y2⟩ := hb p a (by omega)
        refine ⟨by rw [am_u2_k e, r2 55 (by omega) (by decide)]; exact y1, ?_⟩
        unfold gm_kp at y2 ⊢
        rw [hrow (23 + p.toNat) (by omega) (by omega) (by omega), am_u2_a (by decide), r3 p e]
        exact y2)
    refine ⟨J', ?_, q2⟩
    rw [← q1, hl]
    show X10_survey_s5 N K F 19 (X10_survey_h5 N K F 19 f) J a1 sd _ x = _
    generalize X10_survey_h5 N K F 19 f = kk
    unfold X10_survey_s5
    simp only [cwF_19_5 hc, cwK_3 hc, am_lt, hJ.row (show (3 : Nat) < 19 ∨ 55 < 3 by omega), h32, r1, am_cl_s, cwF_19_4 hc, cwK_55 hc, am_u2_s]
    rw [if_pos trivial, if_pos hx, if_pos trivial, if_pos (by decide), if_pos (by omega), if_pos (nb_in (by omega))]
theorem c_survey (hc : cw K F) (hg : cg I R C A lk) (hN : 2000000 < N) {u : Int → Int} (hu : cr I u) (huu : gm_u u) {a1 : Nat} (ha : a1 = 17 ∨ a1 = 67) {sd : Int} (hsd1 : sd = 0 ∨ sd = 1) (hs : gm_st A lk (I a1)) (hz : gm_zb A (I a1)) :
    ∃ J, X10_survey N K F 19 I a1 sd = some (gm_sm (gm_al A C lk u (I a1) sd) A.toNat, J) ∧ cs I J ∧ (∀ p, 0 ≤ p → p < A → J 20 p = gm_al A C lk u (I a1) sd p ∧ J 55 p = gm_fd A C lk u (I a1) sd p ∧ gm_kp A C lk u (I a1) sd J p) ∧ J 19 3 = gm_sm (gm_al A C lk u (I a1) sd) A.toNat := by
  have hA := hg.A
  exact c_survey_1 hc hg hN hu huu ha hsd1 hs hz A.toNat N I 0 (by omega) (by omega) (by omega) (by omega) cs.rfl (fun p a b => by omega)
end CLS4
