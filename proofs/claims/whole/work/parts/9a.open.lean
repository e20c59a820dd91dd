-- PLAYING: choosing among what is open
def mix (Ic Im : am_I) : am_I := fun b => if 85 ≤ b ∧ b ≤ 108 then Im b else Ic b
theorem mix_c {Ic Im : am_I} {b : Nat} (h : ¬ (85 ≤ b ∧ b ≤ 108)) : mix Ic Im b = Ic b := if_neg h
theorem mix_m {Ic Im : am_I} {b : Nat} (h : 85 ≤ b ∧ b ≤ 108) : mix Ic Im b = Im b := if_pos h
theorem mix_id (I : am_I) : mix I I = I := by funext b; unfold mix; rw [ite_self]
theorem nb_lushr1 (x : Int) : 0 ≤ am_lushr x 1 ∧ am_lushr x 1 < 9223372036854775808 := by
  unfold am_lushr
  have hs : ((Int32.ofInt 1).toInt64.toUInt64 &&& Int64.toUInt64 63).toNat % 64 = 1 := by decide +kernel
  have hn : ((((Int64.ofInt x).toUInt64 >>> ((Int32.ofInt 1).toInt64.toUInt64 &&& Int64.toUInt64 63)).toInt64).toBitVec).toNat = (Int64.ofInt x).toUInt64.toNat / 2 := by
    show ((Int64.ofInt x).toUInt64 >>> ((Int32.ofInt 1).toInt64.toUInt64 &&& Int64.toUInt64 63)).toNat = _
    rw [UInt64.toNat_shiftRight, hs, Nat.shiftRight_eq_div_pow]
  have hb := UInt64.toNat_lt (Int64.ofInt x).toUInt64
  have h64 : (2 : Nat) ^ 64 = 18446744073709551616 := by decide
  rw [nb_ofNatL hn (by omega)]
  omega
def gx_n (x : Int) : Int := am_lxor (am_lxor (am_lxor x (am_lshl x 13)) (am_lushr (am_lxor x (am_lshl x 13)) 7)) (am_lshl (am_lxor (am_lxor x (am_lshl x 13)) (am_lushr (am_lxor x (am_lshl x 13)) 7)) 17)
def gx_k (x m : Int) : Int := am_lrem (am_lushr (gx_n x) 1) m
theorem gx_k_b {x m : Int} (hm : 0 < m ∧ m ≤ 1000) : 0 ≤ gx_k x m ∧ gx_k x m < m := by
  have h := nb_lushr1 (gx_n x)
  unfold gx_k
  rw [nb_lrem ⟨by omega, by omega⟩ ⟨by omega, by omega⟩ h.1 hm.1]
  exact ⟨Int.emod_nonneg _ (by omega), Int.emod_lt_of_pos _ hm.1⟩
theorem gm_sel_congr {g g' : Int → Int} : ∀ (d : Nat) (i : Int), (∀ p : Int, 0 ≤ p → p < d → g p = g' p) → gm_sel g d i = gm_sel g' d i
  | 0, _, _ => rfl
  | d + 1, i, h => by
    unfold gm_sel
    rw [h (d : Int) (by omega) (by omega), gm_sm_congr (fun p a b => h p a (by omega)), gm_sel_congr d i (fun p a b => h p a (by omega))]
/-- the first of those that take most -/
def gm_mt (A : Int) (g t : Int → Int) (q : Int) : Prop := (0 ≤ q ∧ q < A) ∧ g q = 1 ∧ (∀ p, 0 ≤ p → p < A → g p = 1 → t p ≤ t q) ∧ (∀ p, 0 ≤ p → p < q → g p = 1 → t p < t q)
theorem gm_mt.uniq {A : Int} {g t : Int → Int} {q q' : Int} (h : gm_mt A g t q) (h' : gm_mt A g t q') : q = q' := by
  obtain ⟨a1, a2, a3, a4⟩ := h
  obtain ⟨b1, b2, b3, b4⟩ := h'
  rcases Int.lt_trichotomy q q' with w | w | w
  · have := b4 q a1.1 w a2; have := a3 q' b1.1 b1.2 b2; omega
  · exact w
  · have := a4 q' b1.1 w b2; have := b3 q a1.1 a1.2 a2; omega
theorem gm_mt.congr {A : Int} {g t g' t' : Int → Int} {q : Int} (hg : ∀ p, 0 ≤ p → p < A → g p = g' p) (ht : ∀ p, 0 ≤ p → p < A → g p = 1 → t p = t' p) (h : gm_mt A g t q) : gm_mt A g' t' q := by
  obtain ⟨a1, a2, a3, a4⟩ := h
  refine ⟨a1, by rw [← hg q a1.1 a1.2]; exact a2, fun p p0 p1 w => ?_, fun p p0 p1 w => ?_⟩
  · rw [← hg p p0 p1] at w
    rw [← ht p p0 p1 w, ← ht q a1.1 a1.2 a2]; exact a3 p p0 p1 w
  · rw [← hg p p0 (by omega)] at w
    rw [← ht p p0 (by omega) w, ← ht q a1.1 a1.2 a2]; exact a4 p p0 p1 w
section OPEN
variable {N n : Nat} {K : am_K} {F : am_F} {I J J' M : am_I} {R C A : Int} {lk U : Int → Int} {S x y z k p V t : Int}
/-- the class's way to what is open -/
theorem c_openAt (hc : cw K F) (hN : 100 < N) (hA : 2 ≤ A ∧ A ≤ 32) (h32 : I 3 2 = A) {g : Int → Int} (h01 : ∀ p, g p = 0 ∨ g p = 1) (hop : ∀ p, 0 ≤ p → p < A → I 20 p = g p) {i : Int} (i0 : 0 ≤ i) (i1 : i < gm_sm g A.toNat) : X10_openAt N K F I 19 i = some (gm_sel g A.toNat i) := by
  obtain ⟨q0, q1, q2, q3⟩ := gm_sel_ok h01 A.toNat i i0 i1
  generalize hq : gm_sel g A.toNat i = q at *
  have key : ∀ (d f : Nat) (p : Int), q - p = d → d < f → 0 ≤ p → X10_openAt_h4 N K F I 19 f i (gm_sm g p.toNat) p = some q := by
    intro d
    induction d with
    | zero =>
      intro f p hd hf p0
      obtain ⟨f, rfl⟩ : ∃ g, f = g + 1 := ⟨f - 1, by omega⟩
      have e : p = q := by omega
      subst e
      show X10_openAt_s4 N K F I 19 (X10_openAt_h4 N K F I 19 f) i _ p = _
      unfold X10_openAt_s4
      rw [cwF_19_5 hc, cwK_3 hc, if_pos (show ((1, 0) : Nat × Int).1 = 1 from rfl), h32, if_pos (by omega), cwF_19_0 hc, cwK_20 hc, if_pos (show ((101, 32) : Nat × Int).1 = 101 from rfl), if_pos (show 0 ≤ p ∧ p < 32 by omega), hop p p0 (by omega), if_neg (by omega), if_pos q3]
    | succ d ih =>
      intro f p hd hf p0
      obtain ⟨f, rfl⟩ : ∃ g, f = g + 1 := ⟨f - 1, by omega⟩
      have nx : gm_sm g (p + 1).toNat = gm_sm g p.toNat + g p := by rw [show (p + 1).toNat = p.toNat + 1 by omega, gm_sm_s, show ((p.toNat : Nat) : Int) = p by omega]
      have bd := gm_sm_b (g := g) (B := 1) (d := p.toNat) (fun i _ _ => by rcases h01 i with w | w <;> omega)
      have i' := ih f (p + 1) (by omega) (by omega) (by omega)
      rw [nx] at i'
      show X10_openAt_s4 N K F I 19 (X10_openAt_h4 N K F I 19 f) i _ p = _
      unfold X10_openAt_s4 X10_openAt_b34 am_lt
      dsimp only
      rw [cwF_19_5 hc, cwK_3 hc, if_pos (show ((1, 0) : Nat × Int).1 = 1 from rfl), h32, if_pos (by omega), cwF_19_0 hc, cwK_20 hc, if_pos (show ((101, 32) : Nat × Int).1 = 101 from rfl), if_pos (show 0 ≤ p ∧ p < 32 by omega), hop p p0 (by omega), if_pos (nb_in (by omega))]
      rcases h01 p with w | w
      · rw [if_pos w]; rw [w, Int.add_zero] at i'; exact i'
      · have st := gm_sm_str h01 (a := p.toNat) (b := q.toNat) (by omega) (by rw [show ((p.toNat : Nat) : Int) = p by omega]; exact w)
        rw [if_neg (by omega), if_neg (by omega), if_pos (nb_in (by omega)), if_pos (nb_in (by omega))]
        rw [w] at i'; exact i'
  exact key q.toNat N 0 (by omega) (by omega) (by omega)
theorem c_most (hc : cw K F) (hN : 100 < N) (hA : 2 ≤ A ∧ A ≤ 32) (h32 : I 3 2 = A) {g t : Int → Int} (h01 : ∀ p, g p = 0 ∨ g p = 1) (hop : ∀ p, 0 ≤ p → p < A → I 20 p = g p) (ht : ∀ p, 0 ≤ p → p < A → g p = 1 → I 21 p = t p) (hp : 0 < gm_sm g A.toNat) : ∃ q, X10_openTakingMost N K F I 19 = some q ∧ gm_mt A g t q := by
  obtain ⟨q0, q1, q2, q3⟩ := gm_sel_ok h01 A.toNat 0 (Int.le_refl _) hp
  have ho := c_openAt (N := N) (I := I) hc hN hA h32 h01 hop (Int.le_refl 0) hp
  generalize hq : gm_sel g A.toNat 0 = q at *
  have none : ∀ p, 0 ≤ p → p < q → g p ≠ 1 := fun p a b w => by
    have := gm_sm_str h01 (a := p.toNat) (b := q.toNat) (by omega) (by rw [show ((p.toNat : Nat) : Int) = p by omega]; exact w)
    have bd := gm_sm_b (g := g) (B := 1) (d := p.toNat) (fun i _ _ => by rcases h01 i with w | w <;> omega)
    omega
  have key : ∀ (d f : Nat) (p ch : Int), A - p = d → d < f → 0 ≤ p → (0 ≤ ch ∧ ch < A) → g ch = 1 → (∀ j, 0 ≤ j → j < p → g j = 1 → t j ≤ t ch) → (∀ j, 0 ≤ j → j < ch → g j = 1 → t j < t ch) → (ch < p ∨ ch = q) → ∃ r, X10_openTakingMost_h8 N K F I 19 f ch p = some r ∧ gm_mt A g t r := by
    intro d
    induction d with
    | zero =>
      intro f p ch hd hf p0 c0 c1 l1 l2 l3
      obtain ⟨f, rfl⟩ : ∃ g, f = g + 1 := ⟨f - 1, by omega⟩
      refine ⟨ch, ?_, c0, c1, fun j a b => l1 j a (by omega), l2⟩
      show X10_openTakingMost_s8 N K F I 19 (X10_openTakingMost_h8 N K F I 19 f) ch p = _
      unfold X10_openTakingMost_s8
      rw [cwF_19_5 hc, cwK_3 hc, if_pos (show ((1, 0) : Nat × Int).1 = 1 from rfl), h32, if_neg (by omega)]
    | succ d ih =>
      intro f p ch hd hf p0 c0 c1 l1 l2 l3
      obtain ⟨f, rfl⟩ : ∃ g, f = g + 1 := ⟨f - 1, by omega⟩
      have e0 : X10_openTakingMost_h8 N K F I 19 (f + 1) ch p = X10_openTakingMost_s8 N K F I 19 (X10_openTakingMost_h8 N K F I 19 f) ch p := rfl
      rw [e0]
      unfold X10_openTakingMost_s8 X10_openTakingMost_b45 am_lt
      dsimp only
      rw [cwF_19_5 hc, cwK_3 hc, if_pos (show ((1, 0) : Nat × Int).1 = 1 from rfl), h32, if_pos (by omega), cwF_19_0 hc, cwK_20 hc, if_pos (show ((101, 32) : Nat × Int).1 = 101 from rfl), if_pos (show 0 ≤ p ∧ p < 32 by omega), hop p p0 (by omega), if_pos (nb_in (by omega)), if_pos (nb_in (by omega))]
      rcases h01 p with w | w
      · rw [if_pos w]
        exact ih f (p + 1) ch (by omega) (by omega) (by omega) c0 c1 (fun j a b gj => by
          by_cases e : j = p
          · rw [e] at gj; omega
          · exact l1 j a (by omega) gj) l2 (by omega)
      · rw [if_neg (by omega), cwF_19_1 hc, cwK_21 hc, if_pos (show ((100, 32) : Nat × Int).1 = 100 from rfl), if_pos (show 0 ≤ p ∧ p < 32 by omega), if_pos (show 0 ≤ ch ∧ ch < 32 by omega), ht p p0 (by omega) w, ht ch c0.1 c0.2 c1]
        by_cases lt : t ch < t p
        · rw [if_pos lt]
          exact ih f (p + 1) p (by omega) (by omega) (by omega) (by omega) w (fun j a b gj => by
            by_cases e : j = p
            · rw [e]; exact Int.le_refl _
            · have := l1 j a (by omega) gj; omega) (fun j a b gj => by have := l1 j a (by omega) gj; omega) (by omega)
        · rw [if_neg lt]
          exact ih f (p + 1) ch (by omega) (by omega) (by omega) c0 c1 (fun j a b gj => by
            by_cases e : j = p
            · rw [e]; omega
            · exact l1 j a (by omega) gj) l2 (by omega)
  obtain ⟨r, k1, k2⟩ := key A.toNat N 0 q (by omega) (by omega) (by omega) (by omega) q2 (fun j a b => by omega) (fun j a b gj => absurd gj (none j a b)) (Or.inr rfl)
  refine ⟨r, ?_, k2⟩
  unfold X10_openTakingMost
  rw [ho, am_cq_s, k1]
/-- the model's way to the first that is open -/
theorem m_first (hm : mw K F) (hA : 2 ≤ A ∧ A ≤ 32) {g : Int → Int} (h01 : ∀ p, g p = 0 ∨ g p = 1) (hop : ∀ p, 0 ≤ p → p < A → I 103 p = g p) (hp : 0 < gm_sm g A.toNat) (x1 x2 : Int) : ∀ (d f : Nat) (p : Int), gm_sel g A.toNat 0 - p = d → d < f → 0 ≤ p → ∃ kk, X12_chosen_h29 N K F 85 f I x1 x2 p = X12_chosen_s29 N K F 85 kk I x1 x2 (gm_sel g A.toNat 0) := by
  obtain ⟨q0, q1, q2, q3⟩ := gm_sel_ok h01 A.toNat 0 (Int.le_refl _) hp
  generalize hq : gm_sel g A.toNat 0 = q at *
  have none : ∀ p, 0 ≤ p → p < q → g p = 0 := fun p a b => (h01 p).resolve_right (fun w => by
    have := gm_sm_str h01 (a := p.toNat) (b := q.toNat) (by omega) (by rw [show ((p.toNat : Nat) : Int) = p by omega]; exact w)
    have bd := gm_sm_b (g := g) (B := 1) (d := p.toNat) (fun i _ _ => by rcases h01 i with w | w <;> omega)
    omega)
  intro d
  induction d with
  | zero =>
    intro f p hd hf p0
    obtain ⟨f, rfl⟩ : ∃ g, f = g + 1 := ⟨f - 1, by omega⟩
    have e : p = q := by omega
    subst e
    exact ⟨X12_chosen_h29 N K F 85 f, rfl⟩
  | succ d ih =>
    intro f p hd hf p0
    obtain ⟨f, rfl⟩ : ∃ g, f = g + 1 := ⟨f - 1, by omega⟩
    obtain ⟨kk, e⟩ := ih f (p + 1) (by omega) (by omega) (by omega)
    refine ⟨kk, ?_⟩
    rw [← e]
    show X12_chosen_s29 N K F 85 (X12_chosen_h29 N K F 85 f) I x1 x2 p = _
    unfold X12_chosen_s29
    rw [mwF_85_35 hm, mwK_103 hm, if_pos (show ((101, 32) : Nat × Int).1 = 101 from rfl), if_pos (show 0 ≤ p ∧ p < 32 by omega), hop p p0 (by omega), if_pos (none p p0 (by omega)), if_pos (nb_in (by omega))]
    rfl
/-- the model's walk to the one with a number -/
theorem m_walk (hm : mw K F) (hA : 2 ≤ A ∧ A ≤ 32) {g : Int → Int} (h01 : ∀ p, g p = 0 ∨ g p = 1) (hop : ∀ p, 0 ≤ p → p < A → I 103 p = g p) {i : Int} (i0 : 0 ≤ i) (i1 : i < gm_sm g A.toNat) : ∀ (d f : Nat) (p : Int), gm_sel g A.toNat i - p = d → d < f → 0 ≤ p → X12_chosen_h242 N K F 85 f I (i + 1 - gm_sm g (p + 1).toNat) p = some (gm_sel g A.toNat i, I) := by
  obtain ⟨q0, q1, q2, q3⟩ := gm_sel_ok h01 A.toNat i i0 i1
  have qs : gm_sm g ((gm_sel g A.toNat i) + 1).toNat = i + 1 := by
    rw [show (gm_sel g A.toNat i + 1).toNat = (gm_sel g A.toNat i).toNat + 1 by omega, gm_sm_s, show (((gm_sel g A.toNat i).toNat : Nat) : Int) = gm_sel g A.toNat i by omega, q3, q2]
  generalize hq : gm_sel g A.toNat i = q at *
  have bdA := gm_sm_b (g := g) (B := 1) (d := A.toNat) (fun i _ _ => by rcases h01 i with w | w <;> omega)
  intro d
  induction d with
  | zero =>
    intro f p hd hf p0
    obtain ⟨f, rfl⟩ : ∃ g, f = g + 1 := ⟨f - 1, by omega⟩
    have e : p = q := by omega
    subst e
    show X12_chosen_s242 N K F 85 (X12_chosen_h242 N K F 85 f) I _ p = _
    unfold X12_chosen_s242
    rw [qs, if_neg (by omega)]
  | succ d ih =>
    intro f p hd hf p0
    obtain ⟨f, rfl⟩ : ∃ g, f = g + 1 := ⟨f - 1, by omega⟩
    have mo := gm_sm_mono h01 (p + 1).toNat (q.toNat - (p + 1).toNat)
    rw [show (p + 1).toNat + (q.toNat - (p + 1).toNat) = q.toNat by omega, q3] at mo
    have nx : gm_sm g (p + 1 + 1).toNat = gm_sm g (p + 1).toNat + g (p + 1) := by rw [show (p + 1 + 1).toNat = (p + 1).toNat + 1 by omega, gm_sm_s, show (((p + 1).toNat : Nat) : Int) = p + 1 by omega]
    have bd := gm_sm_b (g := g) (B := 1) (d := (p + 1).toNat) (fun i _ _ => by rcases h01 i with w | w <;> omega)
    have i' := ih f (p + 1) (by omega) (by omega) (by omega)
    rw [nx] at i'
    show X12_chosen_s242 N K F 85 (X12_chosen_h242 N K F 85 f) I _ p = _
    unfold X12_chosen_s242 X12_chosen_b267 am_lt
    dsimp only
    rw [if_pos (by omega), if_pos (nb_in (by omega)), mwF_85_35 hm, mwK_103 hm, if_pos (show ((101, 32) : Nat × Int).1 = 101 from rfl), if_pos (show 0 ≤ p + 1 ∧ p + 1 < 32 by omega), hop (p + 1) (by omega) (by omega)]
    rcases h01 (p + 1) with w | w
    · rw [if_pos w, if_pos (nb_in (by omega))]; rw [w] at i'; rw [← i']; congr 1; omega
    · rw [if_neg (by omega), if_pos (nb_in (by omega))]; rw [w] at i'; rw [← i']; congr 1; omega
/-- the model's way to the one that takes most -/
theorem m_most (hm : mw K F) (hR : mR I R C A lk U) (hN : 2000000 < N) {g t : Int → Int} (h01 : ∀ p, g p = 0 ∨ g p = 1) (hgd : ∀ p, 0 ≤ p → p < A → g p = gm_al A C lk U (I 87) (I 85 5) p) (htd : ∀ p, t p = gm_tot A (I 87) - gm_tot A (gm_mv A C lk (U 6) (U 7) (U 8) (U 9) (I 87) (I 85 5) p).1) (hp : 0 < gm_sm g A.toNat) :
    ∀ (d f : Nat) (J : am_I) (p best pit : Int), A - p = d → d < f → 0 ≤ p → ms I J → (∀ q, 0 ≤ q → q < A → J 103 q = g q) → ((best = -1 ∧ pit = gm_sel g A.toNat 0 ∧ p ≤ gm_sel g A.toNat 0) ∨ ((0 ≤ pit ∧ pit < A) ∧ g pit = 1 ∧ best = t pit ∧ 0 ≤ best ∧ (∀ j, 0 ≤ j → j < p → g j = 1 → t j ≤ best) ∧ (∀ j, 0 ≤ j → j < pit → g j = 1 → t j < best))) → ∃ q J', X12_chosen_h58 N K F 85 f J best pit p = some (q, J') ∧ gm_mt A g t q ∧ ms I J' := by
  have hA := hR.1.A
  have hg := hR.1.g
  obtain ⟨q0, q1, q2, q3⟩ := gm_sel_ok h01 A.toNat 0 (Int.le_refl _) hp
  generalize hq : gm_sel g A.toNat 0 = q at *
  have none : ∀ p, 0 ≤ p → p < q → g p ≠ 1 := fun p a b w => by
    have := gm_sm_str h01 (a := p.toNat) (b := q.toNat) (by omega) (by rw [show ((p.toNat : Nat) : Int) = p by omega]; exact w)
    have bd := gm_sm_b (g := g) (B := 1) (d := p.toNat) (fun i _ _ => by rcases h01 i with w | w <;> omega)
    omega
  intro d
  induction d with
  | zero =>
    intro f J p best pit hd hf p0 hs hop st
    obtain ⟨f, rfl⟩ : ∃ g, f = g + 1 := ⟨f - 1, by omega⟩
    rcases st with ⟨-, -, s3⟩ | ⟨s1, s2, s3, s4, s5, s6⟩
    · omega
    · refine ⟨pit, J, ?_, ⟨s1, s2, fun j a b gj => by rw [← s3]; exact s5 j a (by omega) gj, fun j a b gj => by rw [← s3]; exact s6 j a b gj⟩, hs⟩
      show X12_chosen_s58 N K F 85 (X12_chosen_h58 N K F 85 f) J best pit p = _
      unfold X12_chosen_s58
      rw [m_all (hR.1.ms hs), am_cq_s, if_neg (by omega)]
  | succ d ih =>
    intro f J p best pit hd hf p0 hs hop st
    obtain ⟨f, rfl⟩ : ∃ g, f = g + 1 := ⟨f - 1, by omega⟩
    have e0 : X12_chosen_h58 N K F 85 (f + 1) J best pit p = X12_chosen_s58 N K F 85 (X12_chosen_h58 N K F 85 f) J best pit p := rfl
    rw [e0]
    unfold X12_chosen_s58 X12_chosen_b116 am_lt
    dsimp only
    rw [m_all (hR.1.ms hs), am_cq_s, if_pos (by omega), mwF_85_35 hm, mwK_103 hm, if_pos (show ((101, 32) : Nat × Int).1 = 101 from rfl), if_pos (show 0 ≤ p ∧ p < 32 by omega), hop p p0 (by omega), if_pos (nb_in (by omega))]
    rcases h01 p with w | w
    · rw [if_pos w]
      refine ih f J (p + 1) best pit (by omega) (by omega) (by omega) hs hop ?_
      rcases st with ⟨s1, s2, s3⟩ | ⟨s1, s2, s3, s4, s5, s6⟩
      · refine Or.inl ⟨s1, s2, ?_⟩
        by_cases e : p = q
        · rw [e] at w; omega
        · omega
      · refine Or.inr ⟨s1, s2, s3, s4, fun j a b gj => ?_, s6⟩
        by_cases e : j = p
        · rw [e] at gj; omega
        · exact s5 j a (by omega) gj
    · have hal : gm_al A C lk U (I 87) (I 85 5) p ≠ 0 := by rw [← hgd p p0 (by omega), w]; decide
      obtain ⟨m1, m2, -, -⟩ := gm_fc_pos (gm_al_pos hal)
      have hu : gm_u (I 85) := mR.u hR
      obtain ⟨J', g1, g2, g3, -, -, g6⟩ := m_make_s (N := N) hm hR.1 hR.2.1 hN hu (Or.inl rfl) (who := I 85 5) (p := p) (by rw [hR.2.2.1]; exact hR.2.2.2.2.2.1) p0 (by omega) (by rw [hR.2.2.1]; exact m2) m1 hs
      have r5 : J 85 5 = I 85 5 := hs.fld (by omega)
      rw [hR.2.2.1, hR.2.2.2.1 6 (by decide) (by decide), hR.2.2.2.1 7 (by decide) (by decide), hR.2.2.2.1 8 (by decide) (by decide), hR.2.2.2.1 9 (by decide) (by decide), ← htd p] at g6
      have mst := gm_mv_st hg (kd := U 6) (mr := U 7) (lo := U 8) (hi := U 9) hR.2.2.2.2.2.1 p0 (by omega) m2 m1
      have tn : 0 ≤ t p := by rw [htd p]; have := mst.2.1; omega
      rw [if_neg (by omega), mwF_85_3 hm, r5, g1, am_cl_s, g6, if_pos (nb_in (by omega))]
      by_cases le : t p ≤ best
      · rw [if_pos le]
        refine ih f J' (p + 1) best pit (by omega) (by omega) (by omega) g2 (by rw [g3]; exact hop) ?_
        rcases st with ⟨s1, s2, s3⟩ | ⟨s1, s2, s3, s4, s5, s6⟩
        · omega
        · refine Or.inr ⟨s1, s2, s3, s4, fun j a b gj => ?_, s6⟩
          by_cases e : j = p
          · rw [e]; exact le
          · exact s5 j a (by omega) gj
      · rw [if_neg le, if_pos (nb_in (by omega))]
        refine ih f J' (p + 1) (t p) p (by omega) (by omega) (by omega) g2 (by rw [g3]; exact hop) (Or.inr ⟨by omega, w, rfl, tn, fun j a b gj => ?_, fun j a b gj => ?_⟩)
        · by_cases e : j = p
          · rw [e]; exact Int.le_refl _
          · rcases st with ⟨s1, s2, s3⟩ | ⟨s1, s2, s3, s4, s5, s6⟩
            · exact absurd gj (none j a (by omega))
            · have := s5 j a (by omega) gj; omega
        · rcases st with ⟨s1, s2, s3⟩ | ⟨s1, s2, s3, s4, s5, s6⟩
          · exact absurd gj (none j a (by omega))
          · have := s5 j a (by omega) gj; omega
end OPEN
