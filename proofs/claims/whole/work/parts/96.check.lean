-- CALLS: check
section CHECK
variable {N n : Nat} {K : am_K} {F : am_F} {I J J' : am_I} {R C A : Int} {lk U : Int → Int} {S x y z k p V t : Int}
theorem m_b176 (kk : am_I → Int → Int → Int → Int → Int → Int → Int → Option (Int × am_I)) (J : am_I) (k w v x4 x5 x6 p re s : Int) : X12_isRight_b176 N K F 85 kk J k w v x4 x5 x6 p re s = X12_isRight_b224 N K F 85 kk J k w v x4 (if x5 = 0 then (if re = v then (if s = 0 then 0 else 1) else 0) else 1) (if x6 = 0 then 0 else if re = v then (if s = 0 then 0 else 1) else 1) p := by
  unfold X12_isRight_b176 X12_isRight_b198 X12_isRight_b194 X12_isRight_b199 X12_isRight_b221 X12_isRight_b217 X12_isRight_b222
  by_cases h5 : x5 = 0
  · by_cases h8 : re = v
    · by_cases hs : s = 0
      · by_cases h6 : x6 = 0
        · simp only [if_pos h5, if_pos h8, if_pos hs, if_pos h6]
        · simp only [if_pos h5, if_pos h8, if_pos hs, if_neg h6]
      · by_cases h6 : x6 = 0
        · simp only [if_pos h5, if_pos h8, if_neg hs, if_pos h6]
        · simp only [if_pos h5, if_pos h8, if_neg hs, if_neg h6]
    · by_cases h6 : x6 = 0
      · simp only [if_pos h5, if_neg h8, if_pos h6]
      · simp only [if_pos h5, if_neg h8, if_neg h6]
  · by_cases h8 : re = v
    · by_cases hs : s = 0
      · by_cases h6 : x6 = 0
        · simp only [if_neg h5, if_pos h8, if_pos hs, if_pos h6]
        · simp only [if_neg h5, if_pos h8, if_pos hs, if_neg h6]
      · by_cases h6 : x6 = 0
        · simp only [if_neg h5, if_pos h8, if_neg hs, if_pos h6]
        · simp only [if_neg h5, if_pos h8, if_neg hs, if_neg h6]
    · by_cases h6 : x6 = 0
      · simp only [if_neg h5, if_neg h8, if_pos h6]
      · simp only [if_neg h5, if_neg h8, if_neg h6]
/-- the model's look at a claim -/
theorem m_right (h : mB K F I R C A lk U) (hN : 2000000 < N) (k0 : 0 ≤ k) (k1 : k < gp_top A lk t) (ht : t ≤ 12) (hV : gp_top A lk t ≤ 40000) (hb : ∀ j, 0 ≤ j → j < gp_top A lk t → -60 ≤ I 95 j ∧ I 95 j ≤ 60) :
    ∃ b J, X12_isRight N K F 85 I k = some (b, J) ∧ flg b (gp_rt A C lk U (I 95) (I 96) k) ∧ (∀ b, b ≠ 92 → b ≠ 91 → b ≠ 103 → b ≠ 85 → J b = I b) ∧ (∀ j, j < 17 ∨ 19 < j → J 85 j = I 85 j) := by
  have hA := h.g.A
  have hL := h.L
  have hm := h.m
  have hk12 : k < gp_top A lk 12 := by have := gp_top_mono (A := A) (lk := lk) (by omega) ht; omega
  have Nb := gp_N_b (A := A) (C := C) (lk := lk) (U := U) (by omega) k
  obtain ⟨J1, e1, e2, e3⟩ := m_lay (N := N) h (by omega) k0 hk12
  obtain ⟨J2, f1, f2, f3⟩ := e2.may hN
  have r95 : ∀ J, ms J1 J → J 95 = I 95 ∧ J 96 = I 96 := fun J hs => ⟨by rw [hs.row (by decide) (by decide) (by decide), e3 95 (by decide)], by rw [hs.row (by decide) (by decide) (by decide), e3 96 (by decide)]⟩
  have fr : ∀ J, ms J1 J → (∀ b, b ≠ 92 → b ≠ 91 → b ≠ 103 → b ≠ 85 → J b = I b) ∧ (∀ j, j < 17 ∨ 19 < j → J 85 j = I 85 j) := fun J hs => ⟨fun b b1 b2 b3 b4 => by rw [hs.row b2 b3 b4, e3 b b1], fun j q => by rw [hs.fld q, e3 85 (by decide)]⟩
  have j95 : J1 95 = I 95 := e3 95 (by decide)
  by_cases hp : 0 < gp_N A C lk U k
  · have key : ∀ (d f : Nat) (J : am_I) (p x4 x5 x6 : Int), A - p = d → d < f → 0 ≤ p → ms J1 J → (∀ q, 0 ≤ q → q < A → J 103 q = gp_al A C lk U k q) → (∀ q, gp_mo A C lk U k q → q < p → gp_re A C lk U (I 95) k q ≤ x4) → ((x4 = -2147483648 ∧ ∀ q, gp_mo A C lk U k q → ¬ q < p) ∨ ∃ q, gp_mo A C lk U k q ∧ q < p ∧ gp_re A C lk U (I 95) k q = x4) → flg x5 (∃ q, gp_mo A C lk U k q ∧ q < p ∧ gp_re A C lk U (I 95) k q = I 95 k ∧ gp_fw A C lk U (I 96) k q) → flg x6 (∀ q, gp_mo A C lk U k q → q < p → gp_re A C lk U (I 95) k q = I 95 k → gp_fw A C lk U (I 96) k q) →
        ∃ b J', X12_isRight_h85 N K F 85 f J k (k % 2) (I 95 k) x4 x5 x6 p = some (b, J') ∧ flg b (gp_rtm A C lk U (I 95) (I 96) k) ∧ ms J1 J' := by
      intro d
      induction d with
      | zero =>
        intro f J p x4 x5 x6 hd hf p0 hs hq l1 l2 l3 l4
        obtain ⟨f, rfl⟩ : ∃ g, f = g + 1 := ⟨f - 1, by omega⟩
        have e : p = A := by omega
        subst e
        have hex := gp_mo_i (A := p) (C := C) (lk := lk) (U := U) (k := k) (by omega) (Int.le_refl 0) hp
        have all : ∀ q, gp_mo p C lk U k q → q < p := fun q m => m.2.1
        have z5 : x5 = 0 ↔ ¬ ∃ q, gp_mo p C lk U k q ∧ gp_re p C lk U (I 95) k q = I 95 k ∧ gp_fw p C lk U (I 96) k q := (l3.iff ⟨fun ⟨q, m, _, e⟩ => ⟨q, m, e⟩, fun ⟨q, m, e⟩ => ⟨q, m, all q m, e⟩⟩).z
        have z6 : x6 = 0 ↔ ¬ ∀ q, gp_mo p C lk U k q → gp_re p C lk U (I 95) k q = I 95 k → gp_fw p C lk U (I 96) k q := (l4.iff ⟨fun g q m => g q m (all q m), fun g q m _ => g q m⟩).z
        have att : ∃ q, gp_mo p C lk U k q ∧ gp_re p C lk U (I 95) k q = x4 := by
          rcases l2 with ⟨_, g⟩ | ⟨q, m, _, e⟩
          · exact absurd (all _ hex) (g _ hex)
          · exact ⟨q, m, e⟩
        show ∃ b J', X12_isRight_s85 N K F 85 (X12_isRight_h85 N K F 85 f) J k (k % 2) (I 95 k) x4 x5 x6 p = some (b, J') ∧ _
        unfold X12_isRight_s85 X12_isRight_b245 X12_isRight_b258 X12_isRight_b254 X12_isRight_b259
        rw [m_all (e2.b.sm hs).g, am_cq_s, if_neg (by omega)]
        by_cases w4 : x4 = I 95 k
        · rw [if_pos w4]
          have g1 : ∃ q, gp_mo p C lk U k q ∧ gp_re p C lk U (I 95) k q = I 95 k := by obtain ⟨q, m, e⟩ := att; exact ⟨q, m, by rw [e, w4]⟩
          have g2 : ∀ q, gp_mo p C lk U k q → gp_re p C lk U (I 95) k q ≤ I 95 k := fun q m => by rw [← w4]; exact l1 q m (all q m)
          by_cases w2 : 0 < I 95 k
          · rw [if_pos w2]
            by_cases w5 : x5 = 0
            · rw [if_pos w5, if_pos (Or.inl rfl)]
              exact ⟨0, J, rfl, Or.inl ⟨rfl, fun g => g.2.2.1.elim (fun q => by omega) (z5.mp w5)⟩, hs⟩
            · rw [if_neg w5, if_neg (by omega), if_pos (Or.inr rfl)]
              exact ⟨1, J, rfl, Or.inr ⟨rfl, g1, g2, Or.inr (Classical.not_not.mp (fun g => w5 (z5.mpr g))), Or.inl (by omega)⟩, hs⟩
          · rw [if_neg w2]
            by_cases w3 : I 95 k < 0
            · rw [if_pos w3]
              by_cases w6 : x6 = 0
              · rw [if_pos w6, if_pos (Or.inl rfl)]
                exact ⟨0, J, rfl, Or.inl ⟨rfl, fun g => g.2.2.2.elim (fun q => by omega) (z6.mp w6)⟩, hs⟩
              · rw [if_neg w6, if_pos (Or.inr rfl)]
                exact ⟨1, J, rfl, Or.inr ⟨rfl, g1, g2, Or.inl (by omega), Or.inr (Classical.not_not.mp (fun g => w6 (z6.mpr g)))⟩, hs⟩
            · rw [if_neg w3, if_pos (Or.inr rfl)]
              exact ⟨1, J, rfl, Or.inr ⟨rfl, g1, g2, Or.inl (by omega), Or.inl (by omega)⟩, hs⟩
        · rw [if_neg w4, if_pos (Or.inl rfl)]
          refine ⟨0, J, rfl, Or.inl ⟨rfl, fun g => w4 ?_⟩, hs⟩
          obtain ⟨q, m, e⟩ := att
          obtain ⟨q', m', e'⟩ := g.1
          have a := g.2.1 q m
          have b := l1 q' m' (all q' m')
          omega
      | succ d ih =>
        intro f J p x4 x5 x6 hd hf p0 hs hq l1 l2 l3 l4
        obtain ⟨f, rfl⟩ : ∃ g, f = g + 1 := ⟨f - 1, by omega⟩
        have nxt : ∀ (J' : am_I) (a b c : Int), X12_isRight_b224 N K F 85 (X12_isRight_h85 N K F 85 f) J' k (k % 2) (I 95 k) a b c p = X12_isRight_h85 N K F 85 f J' k (k % 2) (I 95 k) a b c (p + 1) := fun J' a b c => by
          unfold X12_isRight_b224
          rw [if_pos (nb_in (by omega))]; rfl
        show ∃ b J', X12_isRight_s85 N K F 85 (X12_isRight_h85 N K F 85 f) J k (k % 2) (I 95 k) x4 x5 x6 p = some (b, J') ∧ _
        unfold X12_isRight_s85
        rw [m_all (e2.b.sm hs).g, am_cq_s, if_pos (by omega), mwF_85_35 hm, mwK_103 hm, if_pos (show ((101, 32) : Nat × Int).1 = 101 from rfl), if_pos (show (0 : Int) ≤ p ∧ p < 32 by omega), hq p p0 (by omega)]
        by_cases al : gp_al A C lk U k p = 1
        · have mo : gp_mo A C lk U k p := ⟨p0, by omega, al⟩
          obtain ⟨J', g1, g2, g3, g4, g5⟩ := e2.make hN hs p0 (by omega) al
          obtain ⟨v95, v96⟩ := r95 J' g2
          have o := gp_to_lt h.g.g (U := U) (by omega) k0 k1 ht p0 (by omega) al
          have ob := hb _ o.1 o.2
          have gr := e2.reached (N := N) (by omega) g2 p0 (by omega) al g4 g5 (by omega) (mwK_95 hm) (by rw [v95]; omega)
          have gp := e2.place (N := N) (by omega) g2 p0 (by omega) al g4
          rw [v95] at gr
          have gr' : X12_reached N K F J' 85 (k % 2) 95 = some (gp_re A C lk U (I 95) k p) := gr
          have tb := (gp_move h.g.g k0 hk12 p0 (by omega) al).t0
          have tb1 := (gp_move h.g.g k0 hk12 p0 (by omega) al).t1
          have lyb := gp_ly_b (A := A) (lk := lk) (by omega) k0 hk12
          have reb : -2147483648 < gp_re A C lk U (I 95) k p := by unfold gp_re; omega
          have em : ∀ s : Int, flg s (gp_fw A C lk U (I 96) k p) → ∃ b J'', X12_isRight_b176 N K F 85 (X12_isRight_h85 N K F 85 f) J' k (k % 2) (I 95 k) (am_max x4 (gp_re A C lk U (I 95) k p)) x5 x6 p (gp_re A C lk U (I 95) k p) s = some (b, J'') ∧ flg b (gp_rtm A C lk U (I 95) (I 96) k) ∧ ms J1 J'' := by
            intro s hs'
            rw [m_b176, nxt]
            refine ih f J' (p + 1) _ _ _ (by omega) (by omega) (by omega) g2 (by rw [g3]; exact hq) (fun q m hq' => ?_) ?_ ?_ ?_
            · rw [am_max_eq]
              by_cases w : q = p
              · rw [w]; split <;> omega
              · have := l1 q m (by omega); split <;> omega
            · rw [am_max_eq]
              split
              · exact Or.inr ⟨p, mo, by omega, rfl⟩
              · rcases l2 with ⟨a, b⟩ | ⟨q, m, a, b⟩
                · omega
                · exact Or.inr ⟨q, m, by omega, b⟩
            · by_cases w : gp_re A C lk U (I 95) k p = I 95 k ∧ gp_fw A C lk U (I 96) k p
              · have hsv : ¬ s = 0 := fun g => hs'.z.mp g w.2
                rw [if_pos w.1, if_neg hsv, ite_self]
                exact Or.inr ⟨rfl, p, mo, by omega, w⟩
              · have hz : (if gp_re A C lk U (I 95) k p = I 95 k then (if s = 0 then (0 : Int) else 1) else 0) = 0 := by
                  by_cases g : gp_re A C lk U (I 95) k p = I 95 k
                  · rw [if_pos g, if_pos (hs'.z.mpr (fun g2 => w ⟨g, g2⟩))]
                  · rw [if_neg g]
                rw [hz]
                have l3' : flg x5 (∃ q, gp_mo A C lk U k q ∧ q < p + 1 ∧ gp_re A C lk U (I 95) k q = I 95 k ∧ gp_fw A C lk U (I 96) k q) := l3.iff ⟨fun ⟨q, m, a, e⟩ => ⟨q, m, by omega, e⟩, fun ⟨q, m, a, e⟩ => by
                  by_cases v : q = p
                  · rw [v] at e; exact absurd e w
                  · exact ⟨q, m, by omega, e⟩⟩
                rcases l3' with ⟨a, b⟩ | ⟨a, b⟩
                · rw [if_pos a]; exact Or.inl ⟨rfl, b⟩
                · rw [if_neg (by omega)]; exact Or.inr ⟨rfl, b⟩
            · by_cases w : gp_re A C lk U (I 95) k p = I 95 k ∧ ¬ gp_fw A C lk U (I 96) k p
              · rw [if_pos w.1, if_pos (hs'.z.mpr w.2), ite_self]
                exact Or.inl ⟨rfl, fun g => w.2 (g p mo (by omega) w.1)⟩
              · have hz : (if gp_re A C lk U (I 95) k p = I 95 k then (if s = 0 then (0 : Int) else 1) else 1) = 1 := by
                  by_cases g : gp_re A C lk U (I 95) k p = I 95 k
                  · rw [if_pos g, if_neg (fun g2 => w ⟨g, hs'.z.mp g2⟩)]
                  · rw [if_neg g]
                rw [hz]
                have l4' : flg x6 (∀ q, gp_mo A C lk U k q → q < p + 1 → gp_re A C lk U (I 95) k q = I 95 k → gp_fw A C lk U (I 96) k q) := l4.iff ⟨fun g q m a e => by
                  by_cases v : q = p
                  · rw [v] at e ⊢; exact Classical.not_not.mp (fun g2 => w ⟨e, g2⟩)
                  · exact g q m (by omega) e, fun g q m a e => g q m (by omega) e⟩
                rcases l4' with ⟨a, b⟩ | ⟨a, b⟩
                · rw [if_pos a]; exact Or.inl ⟨rfl, b⟩
                · rw [if_neg (by omega)]; exact Or.inr ⟨rfl, b⟩
          rw [if_neg (by omega), mwF_85_20 hm, g1, am_cl_s, mwF_85_27 hm, gr', am_cq_s]
          unfold am_lt
          dsimp only
          rw [g5, mwF_85_16 hm, gp, am_cq_s, mwF_85_28 hm, mwK_96 hm, v96]
          by_cases w3 : gp_tk A C lk U k p ≤ 0
          · rw [if_pos w3, if_pos (nb_in (by omega)), if_pos (nb_in (by omega)), if_pos (show ((100, 40000) : Nat × Int).1 = 100 from rfl), if_pos (show 0 ≤ gp_to A C lk U k p ∧ gp_to A C lk U k p < 40000 by omega), if_pos (show 0 ≤ k ∧ k < 40000 by omega)]
            by_cases w4 : I 96 (gp_to A C lk U k p) < I 96 k
            · rw [if_pos w4]; exact em 1 (Or.inr ⟨rfl, Or.inr w4⟩)
            · rw [if_neg w4]; exact em 0 (Or.inl ⟨rfl, fun g => g.elim (fun a => by omega) w4⟩)
          · rw [if_neg w3]; exact em 1 (Or.inr ⟨rfl, Or.inl (by omega)⟩)
        · have al0 : gp_al A C lk U k p = 0 := (gp_al_01 A C lk U k p).resolve_right al
          have nm : ∀ q, gp_mo A C lk U k q → q ≠ p := fun q m v => al (by rw [← v]; exact m.2.2)
          rw [if_pos al0, nxt]
          exact ih f J (p + 1) x4 x5 x6 (by omega) (by omega) (by omega) hs hq (fun q m a => l1 q m (by have := nm q m; omega)) (l2.imp (fun ⟨a, b⟩ => ⟨a, fun q m g => b q m (by have := nm q m; omega)⟩) (fun ⟨q, m, a, b⟩ => ⟨q, m, by omega, b⟩)) (l3.iff ⟨fun ⟨q, m, a, e⟩ => ⟨q, m, by omega, e⟩, fun ⟨q, m, a, e⟩ => ⟨q, m, by have := nm q m; omega, e⟩⟩) (l4.iff ⟨fun g q m a => g q m (by have := nm q m; omega), fun g q m a => g q m (by omega)⟩)
    obtain ⟨b, J3, g1, g2, g3⟩ := key A.toNat N J2 0 (-2147483648) 0 1 (by omega) (by omega) (by omega) f2 f3 (fun q m a => by have := m.1; omega) (Or.inl ⟨rfl, fun q m => by have := m.1; omega⟩) (Or.inl ⟨rfl, fun ⟨q, m, a, _⟩ => by have := m.1; omega⟩) (Or.inr ⟨rfl, fun q m a => by have := m.1; omega⟩)
    refine ⟨b, J3, ?_, g2.iff ⟨fun g => ⟨fun w => absurd hp w, fun _ => g⟩, fun g => g.2 hp⟩, fr J3 g3⟩
    unfold X12_isRight am_lt
    dsimp only
    rw [e1, am_cl_s, mwF_85_27 hm, mwK_95 hm, if_pos (show ((100, 40000) : Nat × Int).1 = 100 from rfl), if_pos (show 0 ≤ k ∧ k < 40000 by omega), mwF_85_20 hm, mwF_85_35 hm, f1, am_cl_s, if_neg (by omega), j95, g1]
  · obtain ⟨v95, v96⟩ := r95 J2 f2
    have c1 := e2.counts (N := N) (by omega) f2 (k % 2)
    have c2 := e2.counts (N := N) (by omega) f2 (1 - k % 2)
    have bo := gp_b_ok (A := A) (lk := lk) (by omega) k0 hk12
    have b1 := gm_ct_b (A := A) (e := U 12) (m := k % 2) (s := k % 2) bo.1.1
    have b2 := gm_ct_b (A := A) (e := U 12) (m := k % 2) (s := 1 - k % 2) bo.1.1
    have lyb := gp_ly_b (A := A) (lk := lk) (by omega) k0 hk12
    have e0 : X12_isRight N K F 85 I k = if I 95 k = gp_en A lk U k then (if I 96 k = 0 then some (1, J2) else some (0, J2)) else some (0, J2) := by
      unfold X12_isRight X12_isRight_b70 X12_isRight_b71 am_lt
      dsimp only
      rw [e1, am_cl_s, mwF_85_27 hm, mwK_95 hm, if_pos (show ((100, 40000) : Nat × Int).1 = 100 from rfl), if_pos (show 0 ≤ k ∧ k < 40000 by omega), mwF_85_20 hm, mwF_85_35 hm, f1, am_cl_s, if_pos (by omega), c1, am_cq_s, if_pos (nb_in (by omega)), c2, am_cq_s, if_pos (nb_in (by omega)), mwF_85_28 hm, mwK_96 hm, if_pos (show ((100, 40000) : Nat × Int).1 = 100 from rfl), if_pos (show 0 ≤ k ∧ k < 40000 by omega), if_pos (Or.inr rfl), if_pos (Or.inl rfl), j95, v96]
      rfl
    rw [e0]
    by_cases w1 : I 95 k = gp_en A lk U k
    · by_cases w2 : I 96 k = 0
      · rw [if_pos w1, if_pos w2]; exact ⟨1, J2, rfl, Or.inr ⟨rfl, fun _ => ⟨w1, w2⟩, fun g => absurd g hp⟩, fr J2 f2⟩
      · rw [if_pos w1, if_neg w2]; exact ⟨0, J2, rfl, Or.inl ⟨rfl, fun g => w2 (g.1 hp).2⟩, fr J2 f2⟩
    · rw [if_neg w1]; exact ⟨0, J2, rfl, Or.inl ⟨rfl, fun g => w1 (g.1 hp).1⟩, fr J2 f2⟩
/-- the first place of which the claims aren't right -/
def gp_fst (A C : Int) (lk U v r : Int → Int) (T m : Int) : Prop := (0 ≤ m ∧ m ≤ T) ∧ (∀ j, 0 ≤ j → j < m → gp_rt A C lk U v r j) ∧ (m < T → ¬ gp_rt A C lk U v r m)
theorem gp_fst.uniq {v r : Int → Int} {T m m' : Int} (h : gp_fst A C lk U v r T m) (h' : gp_fst A C lk U v r T m') : m = m' := by
  obtain ⟨a1, a2, a3⟩ := h
  obtain ⟨b1, b2, b3⟩ := h'
  rcases Int.lt_trichotomy m m' with w | w | w
  · exact absurd (b2 m (by omega) w) (a3 (by omega))
  · exact w
  · exact absurd (a2 m' (by omega) w) (b3 (by omega))
theorem m_check (h : rel n K F I R C A lk U S) (hN : 2000000 < N) (w : I 85 21 ≠ 0) : ∀ (d f : Nat) (J : am_I) (k : Int), gp_top A lk (I 85 22) - k = d → d < f → 0 ≤ k → sc I J → J 2 9 = I 2 9 → J 85 15 = I 85 15 → (∀ j, 0 ≤ j → j < k → gp_rt A C lk U (I 95) (I 96) j) → ∃ m J', X12_check_h26 N K F 85 f J (gp_top A lk (I 85 22)) k = some (m, am_u2 J' 85 15 0) ∧ gp_fst A C lk U (I 95) (I 96) (gp_top A lk (I 85 22)) m ∧ sc I J' ∧ J' 2 9 = I 2 9 := by
  have q := h.on w
  have v := h.V q
  have hL := h.g.n
  have qm := q.m
  intro d
  induction d with
  | zero =>
    intro f J k hd hf k0 hs h29 h15 hr
    obtain ⟨f, rfl⟩ : ∃ g, f = g + 1 := ⟨f - 1, by omega⟩
    refine ⟨k, J, ?_, ⟨by omega, hr, fun g => by omega⟩, hs, h29⟩
    show X12_check_s26 N K F 85 (X12_check_h26 N K F 85 f) J _ k = _
    unfold X12_check_s26 X12_check_b45
    rw [if_neg (by omega), m_okk, am_cl_s]
  | succ d ih =>
    intro f J k hd hf k0 hs h29 h15 hr
    obtain ⟨f, rfl⟩ : ∃ g, f = g + 1 := ⟨f - 1, by omega⟩
    have e95 : J 95 = I 95 := hs.row (by decide)
    have e96 : J 96 = I 96 := hs.row (by decide)
    obtain ⟨b, J1, g1, g2, g3, g4⟩ := m_right (N := N) (t := I 85 22) (k := k) (h.sc hs).mB hN k0 (by omega) (by omega) (by omega) (fun j a c => by rw [e95]; exact (q.cl j a c).2.2.1)
    rw [e95, e96] at g2
    have hs1 := hs.trans (sc_of g3 g4)
    have j29 : J1 2 9 = I 2 9 := by rw [g3 2 (by decide) (by decide) (by decide) (by decide)]; exact h29
    have e0 : X12_check_h26 N K F 85 (f + 1) J (gp_top A lk (I 85 22)) k = if b = 0 then (X12_check_b45 N K F 85 J1 k) else X12_check_h26 N K F 85 f J1 (gp_top A lk (I 85 22)) (k + 1) := by
      show X12_check_s26 N K F 85 (X12_check_h26 N K F 85 f) J _ k = _
      unfold X12_check_s26
      rw [if_pos (by omega), g1, am_cl_s, if_pos (nb_in (by omega))]; rfl
    rw [e0]
    by_cases wb : b = 0
    · rw [if_pos wb]
      unfold X12_check_b45
      rw [m_okk, am_cl_s]
      exact ⟨k, J1, rfl, ⟨by omega, hr, fun _ => g2.z.mp wb⟩, hs1, j29⟩
    · rw [if_neg wb]
      exact ih f J1 (k + 1) (by omega) (by omega) (by omega) hs1 j29 (by rw [g4 15 (by omega)]; exact h15) (fun j a c => by
        by_cases e : j = k
        · rw [e]; exact Classical.not_not.mp (fun g => wb (g2.z.mpr g))
        · exact hr j a (by omega))
end CHECK
