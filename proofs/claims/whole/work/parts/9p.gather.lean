-- SOLVING A LAYER, the model: gathering
/-- what gathering may change -/
def gf (J J' : am_I) : Prop := ∀ b j, b ≠ 91 → b ≠ 92 → (b < 97 ∨ 100 < b) → b ≠ 103 → (b ≠ 85 ∨ j < 17 ∨ 19 < j) → J' b j = J b j
theorem gf_refl {J : am_I} : gf J J := fun _ _ _ _ _ _ _ => rfl
theorem gf_tr {J J' J'' : am_I} (h : gf J J') (h' : gf J' J'') : gf J J'' := fun b j a1 a2 a3 a4 a5 => (h' b j a1 a2 a3 a4 a5).trans (h b j a1 a2 a3 a4 a5)
/-- what was gathered of the places s .. e - 1 -/
def wG (J : am_I) (A C : Int) (lk U : Int → Int) (s e : Int) : Prop := (∀ a, s ≤ a → a < e → J 97 (a - s) = gp_cnt A C lk U a.toNat - gp_cnt A C lk U s.toNat) ∧ (∀ a i, s ≤ a → a < e → 0 ≤ i → i < gp_N A C lk U a → J 98 (gp_cnt A C lk U a.toNat - gp_cnt A C lk U s.toNat + i) = gp_O A C lk U a i ∧ J 99 (gp_cnt A C lk U a.toNat - gp_cnt A C lk U s.toNat + i) = gp_T A C lk U a i) ∧ (∀ a, s ≤ a → a < e → J 100 (a - s) = if 0 < gp_N A C lk U a then 0 else gp_en A lk U a)
theorem wG.w {J : am_I} {A C : Int} {lk U : Int → Int} {s e : Int} (h : wG J A C lk U s e) : ∀ a, s ≤ a → a < e → J 97 (a - s) = gp_cnt A C lk U a.toNat - gp_cnt A C lk U s.toNat := h.1
theorem wG.t {J : am_I} {A C : Int} {lk U : Int → Int} {s e : Int} (h : wG J A C lk U s e) : ∀ a i, s ≤ a → a < e → 0 ≤ i → i < gp_N A C lk U a → J 98 (gp_cnt A C lk U a.toNat - gp_cnt A C lk U s.toNat + i) = gp_O A C lk U a i ∧ J 99 (gp_cnt A C lk U a.toNat - gp_cnt A C lk U s.toNat + i) = gp_T A C lk U a i := h.2.1
theorem wG.e {J : am_I} {A C : Int} {lk U : Int → Int} {s e : Int} (h : wG J A C lk U s e) : ∀ a, s ≤ a → a < e → J 100 (a - s) = if 0 < gp_N A C lk U a then 0 else gp_en A lk U a := h.2.2
section GATHER
variable {N n n0 : Nat} {K : am_K} {F F' F'' : am_F} {I J J' J'' : am_I} {R C A : Int} {lk U : Int → Int} {S x y z k p V t s e i m mx nx x1 x2 : Int} {D r : Nat} {v0 v v' rk rk' : Int → Int}
theorem mP_kept (h : mP K F I R C A lk U k) (hb : ∀ b, b = 86 ∨ b = 89 ∨ b = 90 ∨ b = 92 → J b = I b) (h85 : ∀ j, j < 13 → J 85 j = I 85 j) : mP K F J R C A lk U k := ⟨h.b.kept (fun b q => hb b (by omega)) h85, by rw [hb 92 (by omega)]; exact h.e, h.k0, h.k1⟩
theorem gp_n_s (p0 : 0 ≤ p) : gp_n A C lk U k (p + 1).toNat = gp_n A C lk U k p.toNat + gp_al A C lk U k p := by
  rw [show (p + 1).toNat = p.toNat + 1 by omega]
  unfold gp_n
  rw [gm_sm_s, show ((p.toNat : Nat) : Int) = p by omega]
/-- the moves of one place -/
theorem m_gath1 (hN : 2000000 < N) {b0 : Int} (hb : 0 ≤ b0 ∧ b0 + gp_N A C lk U k ≤ 200000) (hk : k ≤ 40000) (ht : t ≤ 12) (hT : gp_top A lk t ≤ 40000) (k1 : k < gp_top A lk t) (k5 : am_I → Int → Int → Int → Int → Option (Int × am_I)) : ∀ (d f : Nat) (J : am_I) (p : Int), A - p = d → d < f → 0 ≤ p → mP K F J R C A lk U k → (∀ q, 0 ≤ q → q < A → J 103 q = gp_al A C lk U k q) → (∀ i, 0 ≤ i → i < gp_n A C lk U k p.toNat → J 98 (b0 + i) = gp_O A C lk U k i ∧ J 99 (b0 + i) = gp_T A C lk U k i) →
    ∃ J', X12_gather_h96 N K F 85 k5 f J x1 x2 (b0 + gp_n A C lk U k p.toNat) k (k % 2) p = k5 J' x1 x2 (b0 + gp_N A C lk U k) (k + 1) ∧ (∀ b j, b ≠ 91 → b ≠ 103 → b ≠ 98 → b ≠ 99 → (b ≠ 85 ∨ j < 17 ∨ 19 < j) → J' b j = J b j) ∧ (∀ j, j < b0 → J' 98 j = J 98 j ∧ J' 99 j = J 99 j) ∧ (∀ i, 0 ≤ i → i < gp_N A C lk U k → J' 98 (b0 + i) = gp_O A C lk U k i ∧ J' 99 (b0 + i) = gp_T A C lk U k i) := by
  intro d
  induction d with
  | zero =>
    intro f J p hd hf p0 h hq hw
    obtain ⟨f, rfl⟩ : ∃ g, f = g + 1 := ⟨f - 1, by omega⟩
    have e : gp_n A C lk U k p.toNat = gp_N A C lk U k := by rw [show p = A by omega]; rfl
    have k0 := h.k0
    rw [e] at hw ⊢
    refine ⟨J, ?_, fun _ _ _ _ _ _ _ => rfl, fun _ _ => ⟨rfl, rfl⟩, hw⟩
    show X12_gather_s96 N K F 85 k5 (X12_gather_h96 N K F 85 k5 f) J x1 x2 _ k (k % 2) p = _
    unfold X12_gather_s96 am_lt
    dsimp only
    rw [m_all h.b.g, am_cq_s, if_neg (by omega), if_pos (nb_in (by omega))]
  | succ d ih =>
    intro f J p hd hf p0 h hq hw
    obtain ⟨f, rfl⟩ : ∃ g, f = g + 1 := ⟨f - 1, by omega⟩
    have hm := h.b.m
    have hA := h.b.g.A
    have hL := h.b.L
    have es := gp_n_s (A := A) (C := C) (lk := lk) (U := U) (k := k) p0
    have nx : ∀ J x3, X12_gather_b162 N K F 85 k5 (X12_gather_h96 N K F 85 k5 f) J x1 x2 x3 k (k % 2) p = X12_gather_h96 N K F 85 k5 f J x1 x2 x3 k (k % 2) (p + 1) := fun J x3 => by
      unfold X12_gather_b162 am_lt
      rw [if_pos (nb_in (by omega))]
    by_cases al : gp_al A C lk U k p = 1
    · obtain ⟨J1, g1, g2, g3, g4, g5⟩ := h.make (N := N) hN ms.rfl p0 (by omega) al
      have gp := h.place (N := N) (by omega) g2 p0 (by omega) al g4
      have o := gp_to_lt h.b.g.g (U := U) (by omega) h.k0 k1 ht p0 (by omega) al
      obtain ⟨y1, y2, y3⟩ := gp_p_of (A := A) (C := C) (lk := lk) (U := U) (k := k) (p := p.toNat) (by omega) (by rw [show ((p.toNat : Nat) : Int) = p by omega]; exact al)
      rw [show ((p.toNat : Nat) : Int) = p by omega] at y1
      have eO : gp_O A C lk U k (gp_n A C lk U k p.toNat) = gp_to A C lk U k p := by unfold gp_O; rw [y1]
      have eT : gp_T A C lk U k (gp_n A C lk U k p.toNat) = gp_tk A C lk U k p := by unfold gp_T; rw [y1]
      generalize hc : gp_n A C lk U k p.toNat = c at *
      generalize hJ2 : am_u2 (am_u2 J1 98 (b0 + c) (gp_to A C lk U k p)) 99 (b0 + c) (gp_tk A C lk U k p) = J2
      have j2 : ∀ b, b ≠ 98 → b ≠ 99 → J2 b = J1 b := fun b q1 q2 => by rw [← hJ2, am_u2_row_b q2, am_u2_row_b q1]
      have j8 : ∀ j, J2 98 j = if j = b0 + c then gp_to A C lk U k p else J1 98 j := fun j => by
        rw [← hJ2, am_u2_a (by decide)]
        by_cases q : j = b0 + c
        · rw [q, am_u2_s, if_pos rfl]
        · rw [am_u2_k q, if_neg q]
      have j9 : ∀ j, J2 99 j = if j = b0 + c then gp_tk A C lk U k p else J1 99 j := fun j => by
        rw [← hJ2]
        by_cases q : j = b0 + c
        · rw [q, am_u2_s, if_pos rfl]
        · rw [am_u2_k q, am_u2_a (by decide), if_neg q]
      have r8 : J1 98 = J 98 := g2.row (by decide) (by decide) (by decide)
      have r9 : J1 99 = J 99 := g2.row (by decide) (by decide) (by decide)
      have h2 : mP K F J2 R C A lk U k := mP_kept h (fun b q => by rw [j2 b (by omega) (by omega)]; exact g2.row (by omega) (by omega) (by omega)) (fun j q => by rw [j2 85 (by decide) (by decide)]; exact g2.fld (by omega))
      rw [al] at es
      obtain ⟨J', f1, f2, f3, f4⟩ := ih f J2 (p + 1) (by omega) (by omega) (by omega) h2 (fun q a b => by rw [j2 103 (by decide) (by decide), g3]; exact hq q a b) (fun i a b => by
        rw [es] at b
        rw [j8, j9]
        by_cases q : i = c
        · rw [q, if_pos rfl, if_pos rfl, eO, eT]; exact ⟨rfl, rfl⟩
        · rw [if_neg (by omega), if_neg (by omega), r8, r9]; exact hw i a (by omega))
      rw [es] at f1
      refine ⟨J', ?_, fun b j a1 a2 a3 a4 a5 => ?_, fun j q => ?_, f4⟩
      · rw [← f1]
        show X12_gather_s96 N K F 85 k5 (X12_gather_h96 N K F 85 k5 f) J x1 x2 _ k (k % 2) p = _
        unfold X12_gather_s96 am_lt
        dsimp only
        rw [m_all h.b.g, am_cq_s, if_pos (by omega), mwF_85_35 hm, mwK_103 hm, if_pos (show ((101, 32) : Nat × Int).1 = 101 from rfl), if_pos (show (0 : Int) ≤ p ∧ p < 32 by omega), hq p p0 (by omega), if_neg (by omega), mwF_85_20 hm, g1, am_cl_s, if_pos (nb_in (by omega)), mwF_85_16 hm, gp, am_cq_s, if_pos (nb_in (by omega)), mwF_85_30 hm, mwK_98 hm, if_pos (show ((100, 200064) : Nat × Int).1 = 100 from rfl), if_pos (show (98 : Nat) ≠ 1 by decide), if_pos (show 0 ≤ b0 + c ∧ b0 + c < 200064 by omega), mwF_85_31 hm, mwK_99 hm, if_pos (show ((100, 200064) : Nat × Int).1 = 100 from rfl), if_pos (show (99 : Nat) ≠ 1 by decide), if_pos (show 0 ≤ b0 + c ∧ b0 + c < 200064 by omega), am_u2_a (show (85 : Nat) ≠ 98 by decide), g5, if_pos (nb_in (by omega)), hJ2, nx, Int.add_assoc]
      · rw [f2 b j a1 a2 a3 a4 a5, j2 b a3 a4]; exact g2 b j a1 a2 a5
      · rw [(f3 j q).1, (f3 j q).2, j8, j9, if_neg (by omega), if_neg (by omega), r8, r9]; exact ⟨rfl, rfl⟩
    · have al0 : gp_al A C lk U k p = 0 := (gp_al_01 A C lk U k p).resolve_right al
      rw [al0, Int.add_zero] at es
      obtain ⟨J', f1, f2⟩ := ih f J (p + 1) (by omega) (by omega) (by omega) h hq (by rw [es]; exact hw)
      rw [es] at f1
      refine ⟨J', ?_, f2⟩
      rw [← f1]
      show X12_gather_s96 N K F 85 k5 (X12_gather_h96 N K F 85 k5 f) J x1 x2 _ k (k % 2) p = _
      unfold X12_gather_s96
      rw [m_all h.b.g, am_cq_s, if_pos (by omega), mwF_85_35 hm, mwK_103 hm, if_pos (show ((101, 32) : Nat × Int).1 = 101 from rfl), if_pos (show (0 : Int) ≤ p ∧ p < 32 by omega), hq p p0 (by omega), if_pos al0, nx]
/-- all places of a layer -/
theorem m_gath2 (hN : 2000000 < N) (ht : t ≤ 12) (hT : gp_top A lk t ≤ 40000) (s0 : 0 ≤ s) (hcnt : ∀ a : Int, s ≤ a → a ≤ gp_top A lk t → gp_cnt A C lk U a.toNat - gp_cnt A C lk U s.toNat ≤ 200000) : ∀ (d f : Nat) (J : am_I) (k : Int), gp_top A lk t - k = d → d < f → s ≤ k → mB K F J R C A lk U → wG J A C lk U s k →
    ∃ J', X12_gather_h5 N K F 85 f J s (gp_top A lk t) (gp_cnt A C lk U k.toNat - gp_cnt A C lk U s.toNat) k = some (0, J') ∧ gf J J' ∧ wG J' A C lk U s (gp_top A lk t) ∧ J' 97 (gp_top A lk t - s) = gp_cnt A C lk U (gp_top A lk t).toNat - gp_cnt A C lk U s.toNat := by
  intro d
  induction d with
  | zero =>
    intro f J k hd hf sk h w
    obtain ⟨f, rfl⟩ : ∃ g, f = g + 1 := ⟨f - 1, by omega⟩
    have hm := h.m
    have ek : gp_top A lk t = k := by omega
    refine ⟨am_u2 J 97 (k - s) (gp_cnt A C lk U k.toNat - gp_cnt A C lk U s.toNat), ?_, fun b j _ _ a3 _ _ => by rw [am_u2_a (by omega)], ⟨fun a q1 q2 => ?_, fun a i q1 q2 i0 i1 => ?_, fun a q1 q2 => ?_⟩, by rw [ek, am_u2_s]⟩
    · show X12_gather_s5 N K F 85 (X12_gather_h5 N K F 85 f) J s (gp_top A lk t) _ k = _
      unfold X12_gather_s5 am_lt
      dsimp only
      rw [if_neg (by omega), if_pos (nb_in (by omega)), mwF_85_29 hm, mwK_97 hm, if_pos (show ((100, 40001) : Nat × Int).1 = 100 from rfl), if_pos (show (97 : Nat) ≠ 1 by decide), if_pos (show 0 ≤ gp_top A lk t - s ∧ gp_top A lk t - s < 40001 by omega), ek]
    · rw [am_u2_k (by omega)]; exact w.w a q1 (by omega)
    · rw [am_u2_a (by decide), am_u2_a (by decide)]; exact w.t a i q1 (by omega) i0 i1
    · rw [am_u2_a (by decide)]; exact w.e a q1 (by omega)
  | succ d ih =>
    intro f J k hd hf sk h w
    obtain ⟨f, rfl⟩ : ∃ g, f = g + 1 := ⟨f - 1, by omega⟩
    have hm := h.m
    have hA := h.g.A
    have hL := h.L
    have m12 := gp_top_mono (A := A) (lk := lk) (by omega) ht
    have c0 := gp_cnt_le (A := A) (C := C) (lk := lk) (U := U) (by omega) (a := s.toNat) (b := k.toNat) (by omega)
    have c1 := hcnt (k + 1) (by omega) (by omega)
    have cs := gR.cs (A := A) (C := C) (lk := lk) (U := U) (by omega) (show 0 ≤ k by omega)
    have nb := gp_N_b (C := C) (lk := lk) (U := U) (A := A) (by omega) k
    have eb := gp_en_b (lk := lk) (U := U) (A := A) (by omega) (k := k) (by omega) (by omega)
    have ly := gp_ly_b (A := A) (lk := lk) (by omega) (show 0 ≤ k by omega) (show k < gp_top A lk 12 by omega)
    generalize hx : gp_cnt A C lk U k.toNat - gp_cnt A C lk U s.toNat = x3 at *
    generalize hJa : am_u2 J 97 (k - s) x3 = Ja
    have ja : ∀ b, b ≠ 97 → Ja b = J b := fun b q => by rw [← hJa, am_u2_row_b q]
    have hBa : mB K F Ja R C A lk U := h.kept (fun b q => ja b (by omega)) (fun j _ => by rw [ja 85 (by decide)])
    obtain ⟨Jb, b1, b2, b3⟩ := m_lay (N := N) hBa (by omega) (show 0 ≤ k by omega) (show k < gp_top A lk 12 by omega)
    generalize hJc : am_u2 Jb 100 (k - s) 0 = Jc
    have jc : ∀ b, b ≠ 100 → Jc b = Jb b := fun b q => by rw [← hJc, am_u2_row_b q]
    have hPc : mP K F Jc R C A lk U k := mP_kept b2 (fun b q => jc b (by omega)) (fun j _ => by rw [jc 85 (by decide)])
    obtain ⟨Jd, d1, d2, d3⟩ := hPc.may hN
    have hc1 := hPc.counts (N := N) (by omega) d2 (k % 2)
    have hc2 := hPc.counts (N := N) (by omega) d2 (1 - k % 2)
    generalize hJe : (if gp_N A C lk U k = 0 then am_u2 Jd 100 (k - s) (gp_en A lk U k) else Jd) = Je
    have je : ∀ b, b ≠ 100 → Je b = Jd b := fun b q => by
      rw [← hJe]; split
      · rw [am_u2_row_b q]
      · rfl
    have hPe : mP K F Je R C A lk U k := mP_kept (hPc.sm d2) (fun b q => je b (by omega)) (fun j _ => by rw [je 85 (by decide)])
    obtain ⟨Jf, f1, f2, f3, f4⟩ := m_gath1 (N := N) (x1 := s) (x2 := gp_top A lk t) (b0 := x3) (k := k) (t := t) hN (by omega) (by omega) ht hT (by omega) (X12_gather_h5 N K F 85 f) A.toNat N Je 0 (by omega) (by omega) (by omega) hPe (fun q a b => by rw [je 103 (by decide)]; exact d3 q a b) (fun i a b => by
      have e0 : gp_n A C lk U k (0 : Int).toNat = 0 := rfl
      rw [e0] at b; omega)
    have e0 : gp_n A C lk U k (0 : Int).toNat = 0 := rfl
    rw [e0, Int.add_zero] at f1
    have gfJ : gf J Jf := fun b j a1 a2 a3 a4 a5 => by
      rw [f2 b j a1 a4 (by omega) (by omega) a5, je b (by omega), d2 b j a1 a4 a5, jc b (by omega), b3 b a2, ja b (by omega)]
    have rw97 : Jf 97 = Ja 97 := by
      funext j
      rw [f2 97 j (by decide) (by decide) (by decide) (by decide) (Or.inl (by decide)), je 97 (by decide), d2 97 j (by decide) (by decide) (Or.inl (by decide)), jc 97 (by decide), b3 97 (by decide)]
    have rw98 : ∀ j, j < x3 → Jf 98 j = J 98 j ∧ Jf 99 j = J 99 j := fun j q => by
      rw [(f3 j q).1, (f3 j q).2, je 98 (by decide), je 99 (by decide), d2.row (b := 98) (by decide) (by decide) (by decide), d2.row (b := 99) (by decide) (by decide) (by decide), jc 98 (by decide), jc 99 (by decide), b3 98 (by decide), b3 99 (by decide), ja 98 (by decide), ja 99 (by decide)]
      exact ⟨rfl, rfl⟩
    have rd : Jd 100 = Jc 100 := d2.row (by decide) (by decide) (by decide)
    have rw100 : ∀ j, Jf 100 j = if j = k - s then (if 0 < gp_N A C lk U k then 0 else gp_en A lk U k) else J 100 j := fun j => by
      rw [f2 100 j (by decide) (by decide) (by decide) (by decide) (Or.inl (by decide)), ← hJe]
      by_cases q : gp_N A C lk U k = 0
      · rw [if_pos q, if_neg (show ¬ 0 < gp_N A C lk U k by omega)]
        by_cases u : j = k - s
        · rw [u, am_u2_s, if_pos rfl]
        · rw [am_u2_k u, if_neg u, rd, ← hJc, am_u2_k u, b3 100 (by decide), ja 100 (by decide)]
      · rw [if_neg q, if_pos (show 0 < gp_N A C lk U k by omega), rd, ← hJc]
        by_cases u : j = k - s
        · rw [u, am_u2_s, if_pos rfl]
        · rw [am_u2_k u, if_neg u, b3 100 (by decide), ja 100 (by decide)]
    have wf : wG Jf A C lk U s (k + 1) := by
      refine ⟨fun a q1 q2 => ?_, fun a i q1 q2 i0 i1 => ?_, fun a q1 q2 => ?_⟩
      · rw [rw97, ← hJa]
        by_cases u : a = k
        · rw [u, am_u2_s]; exact hx.symm
        · rw [am_u2_k (by omega)]; exact w.w a q1 (by omega)
      · by_cases u : a = k
        · subst u; rw [hx]; exact f4 i i0 i1
        · have cc := gp_cnt_le (A := A) (C := C) (lk := lk) (U := U) (by omega) (a := (a + 1).toNat) (b := k.toNat) (by omega)
          rw [gR.cs (by omega) (by omega)] at cc
          have r := rw98 (gp_cnt A C lk U a.toNat - gp_cnt A C lk U s.toNat + i) (by omega)
          rw [r.1, r.2]; exact w.t a i q1 (by omega) i0 i1
      · rw [rw100]
        by_cases u : a = k
        · rw [u, if_pos rfl]
        · rw [if_neg (by omega)]; exact w.e a q1 (by omega)
    have hBf : mB K F Jf R C A lk U := h.kept (fun b q => funext fun j => gfJ b j (by omega) (by omega) (by omega) (by omega) (Or.inl (by omega))) (fun j q => gfJ 85 j (by decide) (by decide) (by decide) (by decide) (by omega))
    obtain ⟨J', g1, g2, g3⟩ := ih f Jf (k + 1) (by omega) (by omega) (by omega) hBf wf
    rw [show gp_cnt A C lk U (k + 1).toNat - gp_cnt A C lk U s.toNat = x3 + gp_N A C lk U k by omega] at g1
    refine ⟨J', ?_, gf_tr gfJ g2, g3⟩
    rw [← g1, ← f1]
    show X12_gather_s5 N K F 85 (X12_gather_h5 N K F 85 f) J s (gp_top A lk t) x3 k = _
    unfold X12_gather_s5 X12_gather_b93 am_lt
    dsimp only
    rw [if_pos (by omega), if_pos (nb_in (by omega)), mwF_85_29 hm, mwK_97 hm, if_pos (show ((100, 40001) : Nat × Int).1 = 100 from rfl), if_pos (show (97 : Nat) ≠ 1 by decide), if_pos (show 0 ≤ k - s ∧ k - s < 40001 by omega), hJa, b1, am_cl_s, mwF_85_32 hm, mwK_100 hm, if_pos (show ((100, 40000) : Nat × Int).1 = 100 from rfl), if_pos (show (100 : Nat) ≠ 1 by decide), if_pos (show 0 ≤ k - s ∧ k - s < 40000 by omega), hJc, mwF_85_20 hm, mwF_85_35 hm, d1, am_cl_s]
    by_cases q : gp_N A C lk U k = 0
    · rw [if_pos q] at hJe ⊢
      rw [hc1, am_cq_s, if_pos (nb_in (by omega)), hc2, am_cq_s, if_pos (nb_in (by unfold gp_en at eb; omega))]
      rw [show am_u2 Jd 100 (k - s) (gm_sm (gm_ct A (U 12) (gp_b A lk k) (k % 2) (k % 2)) A.toNat - gm_sm (gm_ct A (U 12) (gp_b A lk k) (k % 2) (1 - k % 2)) A.toNat) = Je from hJe]
    · rw [if_neg q] at hJe ⊢
      rw [hJe]
theorem m_gather (h : mB K F J R C A lk U) (hN : 2000000 < N) (ht : 0 ≤ t ∧ t ≤ mx) (hmx : mx ≤ 12) (hT : gp_top A lk mx ≤ 40000) (hw : 2 * gW (gm_L A lk) mx * am_max (gm_Ls A lk 0) (gm_Ls A lk 1) ≤ 200000) : ∃ J', X12_gather N K F 85 J (gp_top A lk (t - 1)) (gp_top A lk t) = some (0, J') ∧ gf J J' ∧ wG J' A C lk U (gp_top A lk (t - 1)) (gp_top A lk t) ∧ (∀ a, gp_top A lk (t - 1) ≤ a → a ≤ gp_top A lk t → J' 97 (a - gp_top A lk (t - 1)) = gp_cnt A C lk U a.toNat - gp_cnt A C lk U (gp_top A lk (t - 1)).toNat) := by
  have hL := h.L
  have nn := gp_top_nn (A := A) (lk := lk) (t - 1)
  have m1 := gp_top_mono (A := A) (lk := lk) (by omega) ht.2
  have m2 := gp_top_mono (A := A) (lk := lk) (by omega) (show t - 1 ≤ t by omega)
  obtain ⟨J', e1, e2, e3, e4⟩ := m_gath2 (N := N) (K := K) (F := F) (R := R) (C := C) (U := U) (t := t) (s := gp_top A lk (t - 1)) hN (by omega) (by omega) nn (fun a q1 q2 => gp_cnt_one h.g.g hL (n := t) (m := mx) ht hmx hw (a := a.toNat) (by omega) (by omega)) (gp_top A lk t - gp_top A lk (t - 1)).toNat N J (gp_top A lk (t - 1)) (by omega) (by omega) (Int.le_refl _) h ⟨fun a q1 q2 => by omega, fun a i q1 q2 => by omega, fun a q1 q2 => by omega⟩
  rw [Int.sub_self] at e1
  refine ⟨J', e1, e2, e3, fun a q1 q2 => ?_⟩
  by_cases u : a = gp_top A lk t
  · rw [u]; exact e4
  · exact e3.w a q1 (by omega)
end GATHER
