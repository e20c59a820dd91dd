-- CLAIMS THAT ARE RIGHT
def gp_mo (A C : Int) (lk U : Int → Int) (k p : Int) : Prop := 0 ≤ p ∧ p < A ∧ gp_al A C lk U k p = 1
def gp_re (A C : Int) (lk U v : Int → Int) (k p : Int) : Int := gp_tk A C lk U k p - v (gp_to A C lk U k p)
def gp_fw (A C : Int) (lk U r : Int → Int) (k p : Int) : Prop := 0 < gp_tk A C lk U k p ∨ r (gp_to A C lk U k p) < r k
def gp_rtm (A C : Int) (lk U v r : Int → Int) (k : Int) : Prop := (∃ p, gp_mo A C lk U k p ∧ gp_re A C lk U v k p = v k) ∧ (∀ p, gp_mo A C lk U k p → gp_re A C lk U v k p ≤ v k) ∧ (v k ≤ 0 ∨ ∃ p, gp_mo A C lk U k p ∧ gp_re A C lk U v k p = v k ∧ gp_fw A C lk U r k p) ∧ (0 ≤ v k ∨ ∀ p, gp_mo A C lk U k p → gp_re A C lk U v k p = v k → gp_fw A C lk U r k p)
def gp_rt (A C : Int) (lk U v r : Int → Int) (k : Int) : Prop := (¬ 0 < gp_N A C lk U k → v k = gp_en A lk U k ∧ r k = 0) ∧ (0 < gp_N A C lk U k → gp_rtm A C lk U v r k)
/-- a flag -/
def flg (x : Int) (P : Prop) : Prop := (x = 0 ∧ ¬ P) ∨ (x = 1 ∧ P)
theorem flg.iff {x : Int} {P Q : Prop} (h : flg x P) (e : P ↔ Q) : flg x Q := by
  rcases h with ⟨a, b⟩ | ⟨a, b⟩
  · exact Or.inl ⟨a, fun q => b (e.mpr q)⟩
  · exact Or.inr ⟨a, e.mp b⟩
theorem flg.z {x : Int} {P : Prop} (h : flg x P) : x = 0 ↔ ¬ P := by
  rcases h with ⟨a, b⟩ | ⟨a, b⟩
  · exact ⟨fun _ => b, fun _ => a⟩
  · exact ⟨fun q => by omega, fun q => absurd b q⟩
section RIGHT
variable {N n : Nat} {K : am_K} {F : am_F} {I J J' : am_I} {R C A : Int} {lk U : Int → Int} {S x y z k p V t : Int}
theorem gp_rt_congr {v r v' r' : Int → Int} (hg : gm_g R C A) (hL : 0 ≤ gm_L A lk) (k0 : 0 ≤ k) (k1 : k < gp_top A lk t) (ht : t ≤ 12) (hv : ∀ j, 0 ≤ j → j < gp_top A lk t → v j = v' j ∧ r j = r' j) : gp_rt A C lk U v r k ↔ gp_rt A C lk U v' r' k := by
  obtain ⟨a1, a2⟩ := hv k k0 k1
  have key : ∀ p, gp_mo A C lk U k p → gp_re A C lk U v k p = gp_re A C lk U v' k p ∧ (gp_fw A C lk U r k p ↔ gp_fw A C lk U r' k p) := fun p m => by
    have o := gp_to_lt hg (U := U) hL k0 k1 ht m.1 m.2.1 m.2.2
    obtain ⟨b1, b2⟩ := hv _ o.1 o.2
    unfold gp_re gp_fw
    rw [b1, b2, a2]
    exact ⟨rfl, Iff.rfl⟩
  have em : gp_rtm A C lk U v r k ↔ gp_rtm A C lk U v' r' k := by
    unfold gp_rtm
    rw [a1]
    refine and_congr ?_ (and_congr ?_ (and_congr (or_congr Iff.rfl ?_) (or_congr Iff.rfl ?_)))
    · exact ⟨fun ⟨p, m, e⟩ => ⟨p, m, by rw [← (key p m).1]; exact e⟩, fun ⟨p, m, e⟩ => ⟨p, m, by rw [(key p m).1]; exact e⟩⟩
    · exact ⟨fun h p m => by rw [← (key p m).1]; exact h p m, fun h p m => by rw [(key p m).1]; exact h p m⟩
    · exact ⟨fun ⟨p, m, e, f⟩ => ⟨p, m, by rw [← (key p m).1]; exact e, (key p m).2.mp f⟩, fun ⟨p, m, e, f⟩ => ⟨p, m, by rw [(key p m).1]; exact e, (key p m).2.mpr f⟩⟩
    · exact ⟨fun h p m e => (key p m).2.mp (h p m (by rw [(key p m).1]; exact e)), fun h p m e => (key p m).2.mpr (h p m (by rw [← (key p m).1]; exact e))⟩
  unfold gp_rt
  rw [a1, a2, em]
theorem gp_mo_i (hA : 0 ≤ A) {i : Int} (i0 : 0 ≤ i) (i1 : i < gp_N A C lk U k) : gp_mo A C lk U k (gp_p A C lk U k i) := by
  obtain ⟨a, b, c, -⟩ := gp_p_ok (C := C) (lk := lk) (U := U) hA i0 i1
  exact ⟨a, b, c⟩
theorem gp_mo_p (m : gp_mo A C lk U k p) : ∃ i, 0 ≤ i ∧ i < gp_N A C lk U k ∧ gp_p A C lk U k i = p := by
  obtain ⟨a, b, c⟩ := m
  obtain ⟨x1, x2, x3⟩ := gp_p_of (A := A) (C := C) (lk := lk) (U := U) (k := k) (p := p.toNat) (by omega) (by rw [show ((p.toNat : Nat) : Int) = p by omega]; exact c)
  exact ⟨_, x2, x3, by rw [x1]; omega⟩
/-- the class's look at a claim -/
theorem c_right (h : gR K F I R C A lk U V t) (hN : 100 < N) (hk6 : K (F 62 6) = (100, V)) (hk7 : K (F 62 7) = (100, V)) (k0 : 0 ≤ k) (k1 : k < gp_top A lk t) (hb : ∀ j, 0 ≤ j → j < gp_top A lk (gp_ly A lk k) → -60 ≤ I (F 62 6) j ∧ I (F 62 6) j ≤ 60) :
    ∃ b, X9_isClaimRight N K F I 62 k = some b ∧ flg b (gp_rt A C lk U (I (F 62 6)) (I (F 62 7)) k) := by
  have hc := h.c
  have hA := h.g.A
  have hL := h.L
  have nb := h.nb k0 k1
  have v0 := h.V0
  have v1 := h.V1
  have hm := c_hasMove (N := N) h k0 k1
  by_cases hp : 0 < gp_N A C lk U k
  · have key : ∀ (d f : Nat) (i x3 x4 x5 : Int), gp_N A C lk U k - i = d → d < f → 0 ≤ i → (∀ j, 0 ≤ j → j < i → gp_re A C lk U (I (F 62 6)) k (gp_p A C lk U k j) ≤ I (F 62 6) k) → flg x3 (∃ j, (0 ≤ j ∧ j < i) ∧ gp_re A C lk U (I (F 62 6)) k (gp_p A C lk U k j) = I (F 62 6) k) → flg x4 (∃ j, (0 ≤ j ∧ j < i) ∧ gp_re A C lk U (I (F 62 6)) k (gp_p A C lk U k j) = I (F 62 6) k ∧ gp_fw A C lk U (I (F 62 7)) k (gp_p A C lk U k j)) → flg x5 (∀ j, 0 ≤ j → j < i → gp_re A C lk U (I (F 62 6)) k (gp_p A C lk U k j) = I (F 62 6) k → gp_fw A C lk U (I (F 62 7)) k (gp_p A C lk U k j)) →
        ∃ b, X9_isClaimRight_h70 N K F I 62 f k (I (F 62 6) k) x3 x4 x5 (gp_cnt A C lk U k.toNat + i) = some b ∧ flg b (gp_rtm A C lk U (I (F 62 6)) (I (F 62 7)) k) := by
      intro d
      induction d with
      | zero =>
        intro f i x3 x4 x5 hd hf i0 l1 l2 l3 l4
        obtain ⟨f, rfl⟩ : ∃ g, f = g + 1 := ⟨f - 1, by omega⟩
        have e : i = gp_N A C lk U k := by omega
        subst e
        have m1 : (∃ p, gp_mo A C lk U k p ∧ gp_re A C lk U (I (F 62 6)) k p = I (F 62 6) k) ↔ ∃ j, (0 ≤ j ∧ j < gp_N A C lk U k) ∧ gp_re A C lk U (I (F 62 6)) k (gp_p A C lk U k j) = I (F 62 6) k :=
          ⟨fun ⟨p, m, e⟩ => by obtain ⟨i, a, b, c⟩ := gp_mo_p m; exact ⟨i, ⟨a, b⟩, by rw [c]; exact e⟩, fun ⟨j, a, e⟩ => ⟨_, gp_mo_i (by omega) a.1 a.2, e⟩⟩
        have m2 : (∃ p, gp_mo A C lk U k p ∧ gp_re A C lk U (I (F 62 6)) k p = I (F 62 6) k ∧ gp_fw A C lk U (I (F 62 7)) k p) ↔ ∃ j, (0 ≤ j ∧ j < gp_N A C lk U k) ∧ gp_re A C lk U (I (F 62 6)) k (gp_p A C lk U k j) = I (F 62 6) k ∧ gp_fw A C lk U (I (F 62 7)) k (gp_p A C lk U k j) :=
          ⟨fun ⟨p, m, e⟩ => by obtain ⟨i, a, b, c⟩ := gp_mo_p m; exact ⟨i, ⟨a, b⟩, by rw [c]; exact e⟩, fun ⟨j, a, e⟩ => ⟨_, gp_mo_i (by omega) a.1 a.2, e⟩⟩
        have m3 : (∀ p, gp_mo A C lk U k p → gp_re A C lk U (I (F 62 6)) k p = I (F 62 6) k → gp_fw A C lk U (I (F 62 7)) k p) ↔ ∀ j, 0 ≤ j → j < gp_N A C lk U k → gp_re A C lk U (I (F 62 6)) k (gp_p A C lk U k j) = I (F 62 6) k → gp_fw A C lk U (I (F 62 7)) k (gp_p A C lk U k j) :=
          ⟨fun h j a b => h _ (gp_mo_i (by omega) a b), fun h p m => by obtain ⟨i, a, b, c⟩ := gp_mo_p m; rw [← c]; exact h i a b⟩
        have m4 : ∀ p, gp_mo A C lk U k p → gp_re A C lk U (I (F 62 6)) k p ≤ I (F 62 6) k := fun p m => by obtain ⟨i, a, b, c⟩ := gp_mo_p m; rw [← c]; exact l1 i a b
        have z3 := (l2.iff m1.symm).z
        have z4 := (l3.iff m2.symm).z
        have z5 := (l4.iff m3.symm).z
        show ∃ b, X9_isClaimRight_s70 N K F I 62 (X9_isClaimRight_h70 N K F I 62 f) k (I (F 62 6) k) x3 x4 x5 _ = some b ∧ _
        unfold X9_isClaimRight_s70 X9_isClaimRight_b197 X9_isClaimRight_b210 X9_isClaimRight_b206 X9_isClaimRight_b211
        rw [cwF_62_0 hc, cwK_63 hc, if_pos (show ((0, 0) : Nat × Int).1 = 0 from rfl), if_pos (nb_in (by omega)), h.k1, if_pos (show ((100, V + 1) : Nat × Int).1 = 100 from rfl), if_pos (show 0 ≤ k + 1 ∧ k + 1 < V + 1 by omega), h.nx k0 k1, if_neg (by omega)]
        by_cases w3 : x3 = 0
        · rw [if_pos w3, if_pos (Or.inl rfl)]
          exact ⟨0, rfl, Or.inl ⟨rfl, fun g => z3.mp w3 g.1⟩⟩
        · rw [if_neg w3]
          have g1 := Classical.not_not.mp (fun g => w3 (z3.mpr g))
          by_cases w2 : 0 < I (F 62 6) k
          · rw [if_pos w2]
            by_cases w4 : x4 = 0
            · rw [if_pos w4, if_pos (Or.inl rfl)]
              exact ⟨0, rfl, Or.inl ⟨rfl, fun g => g.2.2.1.elim (fun q => by omega) (z4.mp w4)⟩⟩
            · rw [if_neg w4, if_neg (by omega), if_pos (Or.inr rfl)]
              exact ⟨1, rfl, Or.inr ⟨rfl, g1, m4, Or.inr (Classical.not_not.mp (fun g => w4 (z4.mpr g))), Or.inl (by omega)⟩⟩
          · rw [if_neg w2]
            by_cases w6 : I (F 62 6) k < 0
            · rw [if_pos w6]
              by_cases w5 : x5 = 0
              · rw [if_pos w5, if_pos (Or.inl rfl)]
                exact ⟨0, rfl, Or.inl ⟨rfl, fun g => g.2.2.2.elim (fun q => by omega) (z5.mp w5)⟩⟩
              · rw [if_neg w5, if_pos (Or.inr rfl)]
                exact ⟨1, rfl, Or.inr ⟨rfl, g1, m4, Or.inl (by omega), Or.inr (Classical.not_not.mp (fun g => w5 (z5.mpr g)))⟩⟩
            · rw [if_neg w6, if_pos (Or.inr rfl)]
              exact ⟨1, rfl, Or.inr ⟨rfl, g1, m4, Or.inl (by omega), Or.inl (by omega)⟩⟩
      | succ d ih =>
        intro f i x3 x4 x5 hd hf i0 l1 l2 l3 l4
        obtain ⟨f, rfl⟩ : ∃ g, f = g + 1 := ⟨f - 1, by omega⟩
        have cd := h.ci (N := N) (k := k) (i := i) k0 k1 i0 (by omega)
        have m := gp_i h.g (lk := lk) (U := U) (k := k) (i := i) k0 (h.lt k1) i0 (by omega)
        have ml := m.ly (by omega) k0 (h.lt k1)
        have rb := hb _ cd.o0.1 ml.2.2.1
        have t0 := cd.t0
        have o0 := cd.o0
        have fw := c_forward (a2 := F 62 7) h hk7 k0 k1 cd
        show ∃ b, X9_isClaimRight_s70 N K F I 62 (X9_isClaimRight_h70 N K F I 62 f) k (I (F 62 6) k) x3 x4 x5 _ = some b ∧ _
        have ihh := ih f (i + 1)
        rw [← Int.add_assoc] at ihh
        have e0 : X9_isClaimRight_s70 N K F I 62 (X9_isClaimRight_h70 N K F I 62 f) k (I (F 62 6) k) x3 x4 x5 (gp_cnt A C lk U k.toNat + i) = if I (F 62 6) k < gp_re A C lk U (I (F 62 6)) k (gp_p A C lk U k i) then some 0 else if gp_re A C lk U (I (F 62 6)) k (gp_p A C lk U k i) = I (F 62 6) k then (am_cq (X9_goesForward N K F I (gp_cd A C lk U k (gp_p A C lk U k i)) k (F 62 7)) (fun v_14 => if x4 = 0 then (if v_14 = 0 then (X9_isClaimRight_b159 N K F I 62 (X9_isClaimRight_h70 N K F I 62 f) k (I (F 62 6) k) 1 x5 (gp_cnt A C lk U k.toNat + i) v_14 0) else (X9_isClaimRight_b154 N K F I 62 (X9_isClaimRight_h70 N K F I 62 f) k (I (F 62 6) k) 1 x5 (gp_cnt A C lk U k.toNat + i) v_14)) else (X9_isClaimRight_b154 N K F I 62 (X9_isClaimRight_h70 N K F I 62 f) k (I (F 62 6) k) 1 x5 (gp_cnt A C lk U k.toNat + i) v_14))) else X9_isClaimRight_b178 N K F I 62 (X9_isClaimRight_h70 N K F I 62 f) k (I (F 62 6) k) x3 x4 x5 (gp_cnt A C lk U k.toNat + i) := by
          unfold X9_isClaimRight_s70 am_lt
          dsimp only
          rw [cwF_62_0 hc, cwK_63 hc, if_pos (show ((0, 0) : Nat × Int).1 = 0 from rfl), if_pos (nb_in (by omega)), h.k1, if_pos (show ((100, V + 1) : Nat × Int).1 = 100 from rfl), if_pos (show 0 ≤ k + 1 ∧ k + 1 < V + 1 by omega), h.nx k0 k1, if_pos (by omega), if_pos h.k2, if_pos (by omega), h.ed k0 k1 i0 (by omega), cd.t, am_cq_s, cd.o, am_cq_s, hk6, if_pos (show ((100, V) : Nat × Int).1 = 100 from rfl), if_pos (show 0 ≤ gp_to A C lk U k (gp_p A C lk U k i) ∧ gp_to A C lk U k (gp_p A C lk U k i) < V by omega), if_pos (nb_in (by omega))]
          rfl
        rw [e0]
        have nxt : ∀ a b c : Int, X9_isClaimRight_b178 N K F I 62 (X9_isClaimRight_h70 N K F I 62 f) k (I (F 62 6) k) a b c (gp_cnt A C lk U k.toNat + i) = X9_isClaimRight_h70 N K F I 62 f k (I (F 62 6) k) a b c (gp_cnt A C lk U k.toNat + i + 1) := fun a b c => by
          unfold X9_isClaimRight_b178
          rw [if_pos (nb_in (by omega))]; rfl
        by_cases w1 : I (F 62 6) k < gp_re A C lk U (I (F 62 6)) k (gp_p A C lk U k i)
        · rw [if_pos w1]
          exact ⟨0, rfl, Or.inl ⟨rfl, fun g => by have := g.2.1 _ (gp_mo_i (by omega) i0 (by omega)); omega⟩⟩
        · rw [if_neg w1]
          have l1' : ∀ j, 0 ≤ j → j < i + 1 → gp_re A C lk U (I (F 62 6)) k (gp_p A C lk U k j) ≤ I (F 62 6) k := fun j a b => by
            by_cases w : j = i
            · rw [w]; omega
            · exact l1 j a (by omega)
          by_cases w2 : gp_re A C lk U (I (F 62 6)) k (gp_p A C lk U k i) = I (F 62 6) k
          · rw [if_pos w2, fw, am_cq_s]
            have l2' : flg 1 (∃ j, (0 ≤ j ∧ j < i + 1) ∧ gp_re A C lk U (I (F 62 6)) k (gp_p A C lk U k j) = I (F 62 6) k) := Or.inr ⟨rfl, i, by omega, w2⟩
            have z4 := l3.z
            have z5 := l4.z
            by_cases wf : gp_fw A C lk U (I (F 62 7)) k (gp_p A C lk U k i)
            · have l3' : flg 1 (∃ j, (0 ≤ j ∧ j < i + 1) ∧ gp_re A C lk U (I (F 62 6)) k (gp_p A C lk U k j) = I (F 62 6) k ∧ gp_fw A C lk U (I (F 62 7)) k (gp_p A C lk U k j)) := Or.inr ⟨rfl, i, by omega, w2, wf⟩
              have l4' : flg x5 (∀ j, 0 ≤ j → j < i + 1 → gp_re A C lk U (I (F 62 6)) k (gp_p A C lk U k j) = I (F 62 6) k → gp_fw A C lk U (I (F 62 7)) k (gp_p A C lk U k j)) := l4.iff ⟨fun g j a b e => by
                by_cases w : j = i
                · rw [w]; exact wf
                · exact g j a (by omega) e, fun g j a b => g j a (by omega)⟩
              obtain ⟨b, g1, g2⟩ := ihh 1 1 x5 (by omega) (by omega) (by omega) l1' l2' l3' l4'
              refine ⟨b, ?_, g2⟩
              have wf' : 0 < gp_tk A C lk U k (gp_p A C lk U k i) ∨ I (F 62 7) (gp_to A C lk U k (gp_p A C lk U k i)) < I (F 62 7) k := wf
              rw [if_pos wf', if_neg (show ¬ (1 : Int) = 0 by decide), ite_self]
              unfold X9_isClaimRight_b154 X9_isClaimRight_b159 X9_isClaimRight_b175 X9_isClaimRight_b176
              rw [if_neg (show ¬ (1 : Int) = 0 by decide), nxt, nxt]
              rcases l4' with ⟨q, -⟩ | ⟨q, -⟩
              · rw [q] at g1; rw [if_pos q]; exact g1
              · rw [q] at g1; rw [if_neg (by omega)]; exact g1
            · have wf' : ¬ (0 < gp_tk A C lk U k (gp_p A C lk U k i) ∨ I (F 62 7) (gp_to A C lk U k (gp_p A C lk U k i)) < I (F 62 7) k) := wf
              have l3' : flg x4 (∃ j, (0 ≤ j ∧ j < i + 1) ∧ gp_re A C lk U (I (F 62 6)) k (gp_p A C lk U k j) = I (F 62 6) k ∧ gp_fw A C lk U (I (F 62 7)) k (gp_p A C lk U k j)) := l3.iff ⟨fun ⟨j, a, e⟩ => ⟨j, by omega, e⟩, fun ⟨j, a, e⟩ => by
                by_cases w : j = i
                · rw [w] at e; exact absurd e.2 wf
                · exact ⟨j, by omega, e⟩⟩
              have l4' : flg 0 (∀ j, 0 ≤ j → j < i + 1 → gp_re A C lk U (I (F 62 6)) k (gp_p A C lk U k j) = I (F 62 6) k → gp_fw A C lk U (I (F 62 7)) k (gp_p A C lk U k j)) := Or.inl ⟨rfl, fun g => wf (g i i0 (by omega) w2)⟩
              obtain ⟨b, g1, g2⟩ := ihh 1 x4 0 (by omega) (by omega) (by omega) l1' l2' l3' l4'
              refine ⟨b, ?_, g2⟩
              rw [if_neg wf']
              rcases l3' with ⟨q, -⟩ | ⟨q, -⟩
              · rw [q] at g1
                rw [if_pos q, if_pos rfl]
                unfold X9_isClaimRight_b159 X9_isClaimRight_b175 X9_isClaimRight_b176
                rw [nxt]
                by_cases w5 : x5 = 0
                · rw [if_pos w5]; exact g1
                · rw [if_neg w5, if_pos rfl]; exact g1
              · rw [q] at g1
                rw [if_neg (show ¬ x4 = 0 by omega)]
                unfold X9_isClaimRight_b154 X9_isClaimRight_b159 X9_isClaimRight_b175 X9_isClaimRight_b176
                rw [nxt]
                by_cases w5 : x5 = 0
                · rw [if_pos w5]; exact g1
                · rw [if_neg w5, if_pos rfl]; exact g1
          · rw [if_neg w2, nxt]
            exact ihh x3 x4 x5 (by omega) (by omega) (by omega) l1' (l2.iff ⟨fun ⟨j, a, e⟩ => ⟨j, by omega, e⟩, fun ⟨j, a, e⟩ => by
                by_cases w : j = i
                · rw [w] at e; exact absurd e w2
                · exact ⟨j, by omega, e⟩⟩) (l3.iff ⟨fun ⟨j, a, e⟩ => ⟨j, by omega, e⟩, fun ⟨j, a, e⟩ => by
                by_cases w : j = i
                · rw [w] at e; exact absurd e.1 w2
                · exact ⟨j, by omega, e⟩⟩) (l4.iff ⟨fun g j a b e => by
                by_cases w : j = i
                · rw [w] at e; exact absurd e w2
                · exact g j a (by omega) e, fun g j a b => g j a (by omega)⟩)
    obtain ⟨b, g1, g2⟩ := key (gp_N A C lk U k).toNat N 0 0 0 1 (by omega) (by omega) (by omega) (fun j a b => by omega) (Or.inl ⟨rfl, fun ⟨j, a, _⟩ => by omega⟩) (Or.inl ⟨rfl, fun ⟨j, a, _⟩ => by omega⟩) (Or.inr ⟨rfl, fun j a b => by omega⟩)
    rw [Int.add_zero] at g1
    refine ⟨b, ?_, g2.iff ⟨fun g => ⟨fun w => absurd hp w, fun _ => g⟩, fun g => g.2 hp⟩⟩
    unfold X9_isClaimRight am_lt
    dsimp only
    rw [cwF_62_0 hc, cwK_63 hc, if_pos (show ((0, 0) : Nat × Int).1 = 0 from rfl), hm, if_pos hp, am_cq_s, if_neg (by decide), hk6, if_pos (show ((100, V) : Nat × Int).1 = 100 from rfl), if_pos (show 0 ≤ k ∧ k < V by omega), h.k1, if_pos (show ((100, V + 1) : Nat × Int).1 = 100 from rfl), if_pos (show 0 ≤ k ∧ k < V + 1 by omega), h.st k0 (by omega), g1]
  · have en := h.G.d k k0 k1
    have e0 : X9_isClaimRight N K F I 62 k = if I (F 62 6) k = gp_en A lk U k then (if I (F 62 7) k = 0 then some 1 else some 0) else some 0 := by
      unfold X9_isClaimRight X9_isClaimRight_b42 X9_isClaimRight_b43
      rw [cwF_62_0 hc, cwK_63 hc, if_pos (show ((0, 0) : Nat × Int).1 = 0 from rfl), hm, if_neg hp, am_cq_s, if_pos rfl, hk6, if_pos (show ((100, V) : Nat × Int).1 = 100 from rfl), if_pos (show 0 ≤ k ∧ k < V by omega), h.k0, if_pos (show ((100, V) : Nat × Int).1 = 100 from rfl), if_pos (show 0 ≤ k ∧ k < V by omega), hk7, if_pos (show ((100, V) : Nat × Int).1 = 100 from rfl), if_pos (show 0 ≤ k ∧ k < V by omega), if_pos (Or.inr rfl), if_pos (Or.inl rfl), en]
    rw [e0]
    by_cases w1 : I (F 62 6) k = gp_en A lk U k
    · by_cases w2 : I (F 62 7) k = 0
      · rw [if_pos w1, if_pos w2]; exact ⟨1, rfl, Or.inr ⟨rfl, fun _ => ⟨w1, w2⟩, fun g => absurd g hp⟩⟩
      · rw [if_pos w1, if_neg w2]; exact ⟨0, rfl, Or.inl ⟨rfl, fun g => w2 (g.1 hp).2⟩⟩
    · rw [if_neg w1]; exact ⟨0, rfl, Or.inl ⟨rfl, fun g => w1 (g.1 hp).1⟩⟩
end RIGHT
