-- THE MODEL: which moves are allowed
/-- the model's scratch: left, taken, isLong, last, may -/
def ms (I J : am_I) : Prop := ∀ b j, b ≠ 91 → b ≠ 103 → (b ≠ 85 ∨ j < 17 ∨ 19 < j) → J b j = I b j
theorem ms.rfl {I : am_I} : ms I I := fun _ _ _ _ _ => Eq.refl _
theorem ms.trans {I J H : am_I} (h : ms I J) (h' : ms J H) : ms I H := fun b j a1 a2 a3 => (h' b j a1 a2 a3).trans (h b j a1 a2 a3)
theorem ms.row {I J : am_I} (h : ms I J) {b : Nat} (h1 : b ≠ 91) (h2 : b ≠ 103) (h3 : b ≠ 85) : J b = I b := by funext j; exact h b j h1 h2 (Or.inl h3)
theorem ms.fld {I J : am_I} (h : ms I J) {j : Int} (hj : j < 17 ∨ 19 < j) : J 85 j = I 85 j := h 85 j (by decide) (by decide) (Or.inr hj)
theorem ms.mk {I J : am_I} (h : ms I J) (c : Int → Int) (t l la : Int) : ms I (am_mk J c t l la) := by
  intro b j a1 a2 a3
  rw [← h b j a1 a2 a3]
  by_cases e : b = 85
  · subst e; exact am_mk_85 (a3.resolve_left (fun w => w (Eq.refl _)))
  · exact am_mk_b a1 e j
theorem ms.may {I J : am_I} (h : ms I J) (k v : Int) : ms I (am_u2 J 103 k v) := by
  intro b j a1 a2 a3
  rw [← h b j a1 a2 a3]
  exact am_u2_a a2
theorem mg.ms {I J : am_I} {R C A : Int} (h : mg I R C A) (hs : ms I J) : mg J R C A := h.kept (hs.fld (by omega)) (hs.fld (by omega))
theorem mW.ms {I J : am_I} {C A : Int} (h : mW I C A) (hs : ms I J) : mW J C A := by
  intro k h0 h1
  rw [hs.row (by decide) (by decide) (by decide), hs.row (by decide) (by decide) (by decide)]
  exact h k h0 h1
/-- the rules as the model has them -/
def gm_u (u : Int → Int) : Prop := (1 ≤ u 7 ∧ u 7 ≤ 50) ∧ 1 ≤ u 8 ∧ 1 ≤ u 10
section MOD6
variable {N : Nat} {K : am_K} {F : am_F} {I : am_I} {R C A : Int}
/-- a move out of a board that stands in row a1, from any scratch -/
theorem m_make_s (hm : mw K F) (h : mg I R C A) (hw : mW I C A) (hN : 2000000 < N) (hu : gm_u (I 85)) {a1 : Nat} (ha : a1 = 87 ∨ a1 = 92) {who p : Int} (hs : gm_st A (I 86) (I a1)) (h0 : 0 ≤ p) (h1 : p < A) (hl : I 86 p = 0) (hsd : gm_sd A p = who) {J : am_I} (hJ : ms I J) :
    ∃ J', X12_make N K F 85 J a1 who p = some (0, J') ∧ ms I J' ∧ J' 103 = J 103 ∧ J' 85 18 = (gm_mv A C (I 86) (I 85 6) (I 85 7) (I 85 8) (I 85 9) (I a1) who p).2.2 ∧ gm_eq A (J' 91) (gm_mv A C (I 86) (I 85 6) (I 85 7) (I 85 8) (I 85 9) (I a1) who p).1 ∧ J' 85 17 = gm_tot A (I a1) - gm_tot A (gm_mv A C (I 86) (I 85 6) (I 85 7) (I 85 8) (I 85 9) (I a1) who p).1 := by
  have e86 : J 86 = I 86 := hJ.row (by decide) (by decide) (by decide)
  have ea : J a1 = I a1 := hJ.row (by omega) (by omega) (by omega)
  have e6 : J 85 6 = I 85 6 := hJ.fld (by omega)
  have e7 : J 85 7 = I 85 7 := hJ.fld (by omega)
  have e8 : J 85 8 = I 85 8 := hJ.fld (by omega)
  have e9 : J 85 9 = I 85 9 := hJ.fld (by omega)
  have hm2 := m_make (I := J) (N := N) (a1 := a1) (who := who) (p := p) hm (h.ms hJ) (hw.ms hJ) hN (by rw [e7]; exact hu.1) (by rw [e8]; exact hu.2.1) ha (by rw [e86, ea]; exact hs) h0 h1 (by rw [e86]; exact hl) hsd
  rw [e86, ea, e6, e7, e8, e9] at hm2
  have hq : gm_eq A (gm_ld A (I a1) (J 91)) (I a1) := fun j a b => by unfold gm_ld; rw [if_pos ⟨a, b⟩]
  obtain ⟨q1, q2⟩ := gm_eq.mv (kd := I 85 6) (mr := I 85 7) (lo := I 85 8) (hi := I 85 9) h.g hq (hq.symm.st hs) h0 h1 hl hsd
  refine ⟨_, hm2, hJ.mk _ _ _ _, am_mk_br (by decide) (by decide), ?_, ?_, ?_⟩
  · rw [am_mk_18, q2]
  · rw [am_mk_r]; exact q1
  · rw [am_mk_17, q1.tot]
theorem m_isFed_s (hm : mw K F) (h : mg I R C A) (hN : 33 < N) {J : am_I} (hJ : ms I J) {c : Int → Int} (hc : gm_eq A (J 91) c) (who : Int) : X12_isFed N K F J 85 who = some (gm_fed A c who A.toNat) := by
  have hA := h.A
  rw [m_isFed hm (h.ms hJ) hN who, gm_eq.fed hc who A.toNat (by omega)]
theorem m_may_2 (hm : mw K F) (h : mg I R C A) (hw : mW I C A) (hN : 2000000 < N) (hu : gm_u (I 85)) {a1 : Nat} (ha : a1 = 87 ∨ a1 = 92) {who : Int} (hs : gm_st A (I 86) (I a1)) : ∀ (d f : Nat) (J : am_I) (x : Int), (A - x).toNat = d → d < f → 0 ≤ x → x ≤ A → ms I J → (∀ p, 0 ≤ p → p < x → J 103 p = gm_al A C (I 86) (I 85) (I a1) who p) → (∀ p, x ≤ p → p < A → J 103 p = if gm_fc A C (I 86) (I 85) (I a1) who p ≤ 0 then 0 else 1) →
    ∃ J', X12_mayMove_h100 N K F 85 f J a1 who 103 (gm_sm (gm_al A C (I 86) (I 85) (I a1) who) x.toNat) (gm_any A C (I 86) (I 85) (I a1) who A.toNat) x = some (gm_sm (gm_al A C (I 86) (I 85) (I a1) who) A.toNat, J') ∧ ms I J' ∧ ∀ p, 0 ≤ p → p < A → J' 103 p = gm_al A C (I 86) (I 85) (I a1) who p := by
  have hA := h.A
  intro d
  induction d with
  | zero =>
    intro f J x hd hf x0 x1 hJ hb ha2
    obtain ⟨f, rfl⟩ : ∃ g, f = g + 1 := ⟨f - 1, by omega⟩
    have e : A = x := by omega
    subst e
    refine ⟨J, ?_, hJ, hb⟩
    show X12_mayMove_s100 N K F 85 (X12_mayMove_h100 N K F 85 f) _ _ _ _ _ _ _ = _
    unfold X12_mayMove_s100
    simp only [m_all (h.ms hJ), am_cq_s]
    rw [if_neg (by omega)]
  | succ d ih =>
    intro f J x hd hf x0 x1 hJ hb ha2
    obtain ⟨f, rfl⟩ : ∃ g, f = g + 1 := ⟨f - 1, by omega⟩
    have hx : x < A := by omega
    have hcur := ha2 x (Int.le_refl _) hx
    have e11 : J 85 11 = I 85 11 := hJ.fld (by omega)
    have hsum : gm_sm (gm_al A C (I 86) (I 85) (I a1) who) (x + 1).toNat = gm_sm (gm_al A C (I 86) (I 85) (I a1) who) x.toNat + gm_al A C (I 86) (I 85) (I a1) who x := by
      rw [show (x + 1).toNat = x.toNat + 1 by omega, gm_sm_s, show ((x.toNat : Nat) : Int) = x by omega]
    have hsb := gm_sm_b (g := gm_al A C (I 86) (I 85) (I a1) who) (B := 1) (d := x.toNat) (fun i _ _ => by rcases gm_al_01 A C (I 86) (I 85) (I a1) who i with w | w <;> omega)
    -- the tail: whatever stands at x now
    have tail : ∀ J2 : am_I, ms I J2 → (∀ p, p ≠ x → J2 103 p = J 103 p) → J2 103 x = gm_al A C (I 86) (I 85) (I a1) who x → ∃ J', X12_mayMove_b145 N K F 85 (X12_mayMove_h100 N K F 85 f) J2 a1 who 103 (gm_sm (gm_al A C (I 86) (I 85) (I a1) who) x.toNat) (gm_any A C (I 86) (I 85) (I a1) who A.toNat) x = some (gm_sm (gm_al A C (I 86) (I 85) (I a1) who) A.toNat, J') ∧ ms I J' ∧ ∀ p, 0 ≤ p → p < A → J' 103 p = gm_al A C (I 86) (I 85) (I a1) who p := by
      intro J2 hJ2 hoth hx2
      obtain ⟨J', r1, r2, r3⟩ := ih f J2 (x + 1) (by omega) (by omega) (by omega) (by omega) hJ2 (fun p a b => by
        by_cases e : p = x
        · subst e; exact hx2
        · rw [hoth p e]; exact hb p a (by omega)) (fun p a b => by rw [hoth p (by omega)]; exact ha2 p (by omega) b)
      refine ⟨J', ?_, r2, r3⟩
      rw [← r1, hsum]
      generalize X12_mayMove_h100 N K F 85 f = kk
      unfold X12_mayMove_b145 X12_mayMove_b159
      simp only [mwK_103 hm, am_lt, hx2]
      rw [if_pos trivial, if_pos (by omega)]
      rcases gm_al_01 A C (I 86) (I 85) (I a1) who x with w | w
      · rw [if_pos w, w, if_pos (nb_in (by omega)), if_pos (nb_in (by omega))]
      · rw [if_neg (by omega), w, if_pos (nb_in (by omega)), if_pos (nb_in (by omega))]
    show ∃ J', X12_mayMove_s100 N K F 85 (X12_mayMove_h100 N K F 85 f) _ _ _ _ _ _ _ = _ ∧ _
    unfold X12_mayMove_s100
    simp only [m_all (h.ms hJ), am_cq_s, mwK_103 hm, am_lt, e11]
    rw [if_pos hx, if_pos trivial, if_pos (by omega), hcur]
    by_cases hfc : gm_fc A C (I 86) (I 85) (I a1) who x ≤ 0
    · rw [if_pos hfc, if_pos (Eq.refl _)]
      exact tail J hJ (fun _ _ => Eq.refl _) (by rw [hcur, if_pos hfc]; unfold gm_al; rw [if_pos hfc])
    · rw [if_neg hfc, if_neg (by decide)]
      by_cases hf0 : I 85 11 = 0
      · rw [if_pos hf0]
        exact tail J hJ (fun _ _ => Eq.refl _) (by rw [hcur, if_neg hfc]; unfold gm_al; rw [if_neg hfc, if_neg (fun w => w.1 hf0)])
      · rw [if_neg hf0]
        by_cases ha0 : gm_any A C (I 86) (I 85) (I a1) who A.toNat = 0
        · rw [if_pos ha0]
          exact tail J hJ (fun _ _ => Eq.refl _) (by rw [hcur, if_neg hfc]; unfold gm_al; rw [if_neg hfc, if_neg (fun w => w.2 ha0)])
        · rw [if_neg ha0]
          have hown : gm_sd A x = who ∧ I 86 x = 0 ∧ I 85 10 ≤ I a1 x := by
            by_cases g : gm_sd A x = who ∧ I 86 x = 0 ∧ I 85 10 ≤ I a1 x
            · exact g
            · exact absurd (show gm_fc A C (I 86) (I 85) (I a1) who x ≤ 0 by unfold gm_fc; rw [if_neg g]; exact Int.le_refl _) hfc
          obtain ⟨J1, r1, r2, r3, r4, r5, r6⟩ := m_make_s hm h hw hN hu ha hs x0 hx hown.2.1 hown.1 hJ
          rw [r1, am_cl_s, m_isFed_s hm h (by omega) r2 r5 who, am_cq_s, if_pos (by decide), if_pos (gm_fed_01 _ _ _ _)]
          refine tail _ (r2.may _ _) (fun p hp => ?_) ?_
          · rw [am_u2_k hp, r3]
          · rw [am_u2_s]
            unfold gm_al
            rw [if_neg hfc, if_pos ⟨hf0, ha0⟩]
            have hlg : (gm_mv A C (I 86) (I 85 6) (I 85 7) (I 85 8) (I 85 9) (I a1) who x).2.2 = 0 := by
              by_cases g : (gm_mv A C (I 86) (I 85 6) (I 85 7) (I 85 8) (I 85 9) (I a1) who x).2.2 = 0
              · exact g
              · exact absurd (show gm_fc A C (I 86) (I 85) (I a1) who x ≤ 0 by unfold gm_fc; rw [if_pos hown, if_pos g]; decide) hfc
            have hfe : gm_fc A C (I 86) (I 85) (I a1) who x = if gm_fed A (gm_mv A C (I 86) (I 85 6) (I 85 7) (I 85 8) (I 85 9) (I a1) who x).1 who A.toNat = 1 then 2 else 1 := by
              unfold gm_fc; rw [if_pos hown, if_neg (fun w => w hlg)]
            rw [hfe]
            rcases gm_fed_01 A (gm_mv A C (I 86) (I 85 6) (I 85 7) (I 85 8) (I 85 9) (I a1) who x).1 who A.toNat with w | w
            · rw [w]; rfl
            · rw [w]; rfl
theorem m_may_1 (hm : mw K F) (h : mg I R C A) (hw : mW I C A) (hN : 2000000 < N) (hu : gm_u (I 85)) {a1 : Nat} (ha : a1 = 87 ∨ a1 = 92) {who : Int} (hs : gm_st A (I 86) (I a1)) : ∀ (d f : Nat) (J : am_I) (x : Int), (A - x).toNat = d → d < f → 0 ≤ x → x ≤ A → ms I J → (∀ p, 0 ≤ p → p < x → J 103 p = if gm_fc A C (I 86) (I 85) (I a1) who p ≤ 0 then 0 else 1) →
    ∃ J', X12_mayMove_h9 N K F 85 f J a1 who 103 0 (gm_any A C (I 86) (I 85) (I a1) who x.toNat) x = some (gm_sm (gm_al A C (I 86) (I 85) (I a1) who) A.toNat, J') ∧ ms I J' ∧ ∀ p, 0 ≤ p → p < A → J' 103 p = gm_al A C (I 86) (I 85) (I a1) who p := by
  have hA := h.A
  have hk : K a1 = (100, 32) := by rcases ha with rfl | rfl; exact mwK_87 hm; exact mwK_92 hm
  intro d
  induction d with
  | zero =>
    intro f J x hd hf x0 x1 hJ hb
    obtain ⟨f, rfl⟩ : ∃ g, f = g + 1 := ⟨f - 1, by omega⟩
    have e : A = x := by omega
    subst e
    obtain ⟨J', r1, r2, r3⟩ := m_may_2 hm h hw hN hu ha (who := who) hs A.toNat N J 0 (by omega) (by omega) (by omega) (by omega) hJ (fun p a b => by omega) hb
    refine ⟨J', ?_, r2, r3⟩
    show X12_mayMove_s9 N K F 85 (X12_mayMove_h9 N K F 85 f) _ _ _ _ _ _ _ = _
    unfold X12_mayMove_s9
    simp only [m_all (h.ms hJ), am_cq_s]
    rw [if_neg (by omega)]
    exact r1
  | succ d ih =>
    intro f J x hd hf x0 x1 hJ hb
    obtain ⟨f, rfl⟩ : ∃ g, f = g + 1 := ⟨f - 1, by omega⟩
    have hx : x < A := by omega
    have e86 : J 86 = I 86 := hJ.row (by decide) (by decide) (by decide)
    have ea : J a1 = I a1 := hJ.row (by omega) (by omega) (by omega)
    have e10 : J 85 10 = I 85 10 := hJ.fld (by omega)
    have hany : gm_any A C (I 86) (I 85) (I a1) who (x + 1).toNat = if gm_any A C (I 86) (I 85) (I a1) who x.toNat = 0 then (if gm_fc A C (I 86) (I 85) (I a1) who x = 2 then 1 else 0) else 1 := by
      rw [show (x + 1).toNat = x.toNat + 1 by omega]
      conv => lhs; unfold gm_any
      rw [show ((x.toNat : Nat) : Int) = x by omega]
    have tail : ∀ (J2 : am_I) (y : Int), ms I J2 → (∀ p, p ≠ x → J2 103 p = J 103 p) → J2 103 x = (if gm_fc A C (I 86) (I 85) (I a1) who x ≤ 0 then 0 else 1) → y = gm_any A C (I 86) (I 85) (I a1) who (x + 1).toNat → ∃ J', X12_mayMove_b91 N K F 85 (X12_mayMove_h9 N K F 85 f) J2 a1 who 103 0 y x = some (gm_sm (gm_al A C (I 86) (I 85) (I a1) who) A.toNat, J') ∧ ms I J' ∧ ∀ p, 0 ≤ p → p < A → J' 103 p = gm_al A C (I 86) (I 85) (I a1) who p := by
      intro J2 y hJ2 hoth hx2 hy
      subst hy
      obtain ⟨J', r1, r2, r3⟩ := ih f J2 (x + 1) (by omega) (by omega) (by omega) (by omega) hJ2 (fun p a b => by
        by_cases e : p = x
        · subst e; exact hx2
        · rw [hoth p e]; exact hb p a (by omega))
      refine ⟨J', ?_, r2, r3⟩
      rw [← r1]
      unfold X12_mayMove_b91
      simp only [am_lt]
      rw [if_pos (nb_in (by omega))]
    have ho := m_isOwn (N := N) (I := J) (p := x) hm (h.ms hJ) hk who x0 hx
    rw [e86, ea, e10] at ho
    show ∃ J', X12_mayMove_s9 N K F 85 (X12_mayMove_h9 N K F 85 f) _ _ _ _ _ _ _ = _ ∧ _
    unfold X12_mayMove_s9
    simp only [m_all (h.ms hJ), am_cq_s, mwK_103 hm, am_lt, ho]
    rw [if_pos hx, if_pos trivial, if_pos (by decide), if_pos (by omega)]
    by_cases hown : gm_sd A x = who ∧ I 86 x = 0 ∧ I 85 10 ≤ I a1 x
    · rw [if_pos hown, if_pos (Or.inr (Eq.refl _)), am_u2_s, if_neg (by decide)]
      obtain ⟨J1, r1, r2, r3, r4, r5, r6⟩ := m_make_s hm h hw hN hu ha hs x0 hx hown.2.1 hown.1 (hJ.may x 1)
      rw [r1, am_cl_s, r4]
      unfold X12_mayMove_b63 X12_mayMove_b84 X12_mayMove_b88 X12_mayMove_b89
      by_cases hlg : (gm_mv A C (I 86) (I 85 6) (I 85 7) (I 85 8) (I 85 9) (I a1) who x).2.2 = 0
      · rw [if_pos hlg]
        have hfc : gm_fc A C (I 86) (I 85) (I a1) who x = if gm_fed A (gm_mv A C (I 86) (I 85 6) (I 85 7) (I 85 8) (I 85 9) (I a1) who x).1 who A.toNat = 1 then 2 else 1 := by
          unfold gm_fc; rw [if_pos hown, if_neg (fun w => w hlg)]
        have hfn : ¬ gm_fc A C (I 86) (I 85) (I a1) who x ≤ 0 := by rw [hfc]; split <;> omega
        have h18 : am_u2 J1 103 x 1 85 18 = 0 := by rw [am_u2_a (by decide), r4, hlg]
        have h91 : gm_eq A (am_u2 J1 103 x 1 91) (gm_mv A C (I 86) (I 85 6) (I 85 7) (I 85 8) (I 85 9) (I a1) who x).1 := fun j a b => by rw [am_u2_a (by decide)]; exact r5 j a b
        simp only [mwK_103 hm, am_lt, h18, m_isFed_s hm h (by omega : 33 < N) (r2.may x 1) h91 who, am_cq_s]
        rw [if_pos trivial, if_pos (by decide), if_pos (by omega), if_pos (Or.inr trivial)]
        have ht := tail (am_u2 J1 103 x 1)
        have hoth : ∀ p, p ≠ x → am_u2 J1 103 x 1 103 p = J 103 p := fun p hp => by rw [am_u2_k hp, r3, am_u2_k hp]
        have hx2 : am_u2 J1 103 x 1 103 x = (if gm_fc A C (I 86) (I 85) (I a1) who x ≤ 0 then 0 else 1) := by rw [am_u2_s, if_neg hfn]
        rcases gm_any_01 A C (I 86) (I 85) (I a1) who x.toNat with w0 | w0
        · rw [w0] at hany ⊢
          rw [if_pos (Eq.refl _)] at hany ⊢
          rw [if_pos trivial]
          rcases gm_fed_01 A (gm_mv A C (I 86) (I 85 6) (I 85 7) (I 85 8) (I 85 9) (I a1) who x).1 who A.toNat with w | w
          · rw [w, if_pos (Eq.refl _)]
            exact ht 0 (r2.may x 1) hoth hx2 (by rw [hany, hfc, w]; rfl)
          · rw [w, if_neg (by decide)]
            exact ht 1 (r2.may x 1) hoth hx2 (by rw [hany, hfc, w]; rfl)
        · rw [w0] at hany ⊢
          rw [if_neg (by decide)] at hany ⊢
          exact ht 1 (r2.may x 1) hoth hx2 (by rw [hany])
      · rw [if_neg hlg]
        have hfc : gm_fc A C (I 86) (I 85) (I a1) who x = -1 := by
          unfold gm_fc; rw [if_pos hown, if_pos hlg]
        have h18 : ¬ am_u2 J1 103 x 0 85 18 = 0 := by rw [am_u2_a (by decide), r4]; exact hlg
        simp only [mwK_103 hm, am_lt, h18, if_false]
        rw [if_pos trivial, if_pos (by decide), if_pos (by omega), if_pos (Or.inl trivial)]
        have ht := tail (am_u2 J1 103 x 0)
        have hoth : ∀ p, p ≠ x → am_u2 J1 103 x 0 103 p = J 103 p := fun p hp => by rw [am_u2_k hp, r3, am_u2_k hp]
        have hx2 : am_u2 J1 103 x 0 103 x = (if gm_fc A C (I 86) (I 85) (I a1) who x ≤ 0 then 0 else 1) := by rw [am_u2_s, if_pos (by rw [hfc]; decide)]
        rcases gm_any_01 A C (I 86) (I 85) (I a1) who x.toNat with w0 | w0
        · rw [w0] at hany ⊢
          rw [if_pos (Eq.refl _)] at hany ⊢
          exact ht 0 (r2.may x 0) hoth hx2 (by rw [hany, hfc]; rfl)
        · rw [w0] at hany ⊢
          rw [if_neg (by decide)] at hany ⊢
          exact ht 1 (r2.may x 0) hoth hx2 (by rw [hany])
    · rw [if_neg hown, if_pos (Or.inl (Eq.refl _)), am_u2_s, if_pos (Eq.refl _)]
      have hfc : gm_fc A C (I 86) (I 85) (I a1) who x = 0 := by unfold gm_fc; rw [if_neg hown]
      refine tail _ _ (hJ.may x 0) (fun p hp => am_u2_k hp) (by rw [am_u2_s, if_pos (by rw [hfc]; decide)]) ?_
      rw [hany, hfc]
      rcases gm_any_01 A C (I 86) (I 85) (I a1) who x.toNat with w0 | w0 <;> rw [w0] <;> rfl
theorem m_mayMove (hm : mw K F) (h : mg I R C A) (hw : mW I C A) (hN : 2000000 < N) (hu : gm_u (I 85)) {a1 : Nat} (ha : a1 = 87 ∨ a1 = 92) (who : Int) (hs : gm_st A (I 86) (I a1)) :
    ∃ J, X12_mayMove N K F 85 I a1 who 103 = some (gm_sm (gm_al A C (I 86) (I 85) (I a1) who) A.toNat, J) ∧ ms I J ∧ ∀ p, 0 ≤ p → p < A → J 103 p = gm_al A C (I 86) (I 85) (I a1) who p := by
  have hA := h.A
  exact m_may_1 hm h hw hN hu ha hs A.toNat N I 0 (by omega) (by omega) (by omega) (by omega) ms.rfl (fun p a b => by omega)
end MOD6
