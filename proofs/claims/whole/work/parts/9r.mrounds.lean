-- SOLVING A LAYER, the model: rounds
section MROUNDS
variable {N n n0 : Nat} {K : am_K} {F F' F'' : am_F} {I J J' J'' : am_I} {R C A : Int} {lk U : Int → Int} {S x y z k p V t i m mx nx x1 x2 x3 x4 : Int} {D r : Nat} {v0 v v' rk rk' : Int → Int}
theorem lgv_out (h : ¬ (gp_top A lk (t - 1) ≤ k ∧ k < gp_top A lk t)) : lgv A C lk U t v0 r k = v0 k := gv_out h
theorem mL.rd (h : mL K F J A C lk U t v0) (hv : ∀ x, 0 ≤ x → x < gp_top A lk t - gp_top A lk (t - 1) → J (F 85 33) x = lgv A C lk U t v0 r (gp_top A lk (t - 1) + x)) (k0 : 0 ≤ k) (k1 : k < gp_top A lk t) : mrd J (F 85 33) (gp_top A lk (t - 1)) k = lgv A C lk U t v0 r k ∧ -12 ≤ lgv A C lk U t v0 r k ∧ lgv A C lk U t v0 r k ≤ 12 := by
  have hB := h.H.B
  unfold mrd
  by_cases q : gp_top A lk (t - 1) ≤ k
  · have b : -t ≤ lgv A C lk U t v0 r k ∧ lgv A C lk U t v0 r k ≤ t := h.H.bd r k q k1
    have e := hv (k - gp_top A lk (t - 1)) (by omega) (by omega)
    rw [show gp_top A lk (t - 1) + (k - gp_top A lk (t - 1)) = k by omega] at e
    rw [if_pos q, e]
    exact ⟨rfl, by omega, by omega⟩
  · have e := lgv_out (A := A) (C := C) (lk := lk) (U := U) (t := t) (v0 := v0) (r := r) (k := k) (by omega)
    have b := h.v k k0 (by omega)
    rw [if_neg q, e]
    exact ⟨b.1, b.2.1, b.2.2⟩
theorem m_round (h : mL K F I A C lk U t v0) (hN : 2000000 < N) (hv : ∀ x, 0 ≤ x → x < gp_top A lk t - gp_top A lk (t - 1) → I (F 85 33) x = lgv A C lk U t v0 r (gp_top A lk (t - 1) + x)) :
    ∃ J' fl, X12_round N 85 n0 K I F (gp_top A lk (t - 1)) (gp_top A lk t) = some (fl, n0, K, J', swm F, 0, 0) ∧ (∀ b, b ≠ F 85 34 → J' b = I b) ∧ (∀ x, 0 ≤ x → x < gp_top A lk t - gp_top A lk (t - 1) → J' (F 85 34) x = lgv A C lk U t v0 (r + 1) (gp_top A lk (t - 1) + x)) ∧ (fl = 0 ∨ fl = 1) ∧ (fl = 0 → lgS A C lk U t v0 r) ∧ (fl = 1 → ∃ p, lgv A C lk U t v0 (r + 1) p ≠ lgv A C lk U t v0 r p) := by
  have nn := h.H.l
  have kk := h.mm.kd h.m
  have ne := h.mm.ne
  have hm := h.m
  have key : ∀ (d f : Nat) (J : am_I) (x x3 : Int), gp_top A lk t - gp_top A lk (t - 1) - x = d → d < f → 0 ≤ x → (∀ b, b ≠ F 85 34 → J b = I b) → (∀ y, 0 ≤ y → y < x → J (F 85 34) y = lgv A C lk U t v0 (r + 1) (gp_top A lk (t - 1) + y)) → (x3 = 0 ∨ x3 = 1) → (x3 = 0 → ∀ y, 0 ≤ y → y < x → lgv A C lk U t v0 (r + 1) (gp_top A lk (t - 1) + y) = lgv A C lk U t v0 r (gp_top A lk (t - 1) + y)) → (x3 = 1 → ∃ p, lgv A C lk U t v0 (r + 1) p ≠ lgv A C lk U t v0 r p) →
      ∃ J' fl, X12_round_h5 N 85 f n0 K J F 0 0 (gp_top A lk (t - 1)) (gp_top A lk t) x3 x = some (fl, n0, K, J', swm F, 0, 0) ∧ (∀ b, b ≠ F 85 34 → J' b = I b) ∧ (∀ x, 0 ≤ x → x < gp_top A lk t - gp_top A lk (t - 1) → J' (F 85 34) x = lgv A C lk U t v0 (r + 1) (gp_top A lk (t - 1) + x)) ∧ (fl = 0 ∨ fl = 1) ∧ (fl = 0 → ∀ y, 0 ≤ y → y < gp_top A lk t - gp_top A lk (t - 1) → lgv A C lk U t v0 (r + 1) (gp_top A lk (t - 1) + y) = lgv A C lk U t v0 r (gp_top A lk (t - 1) + y)) ∧ (fl = 1 → ∃ p, lgv A C lk U t v0 (r + 1) p ≠ lgv A C lk U t v0 r p) := by
    intro d
    induction d with
    | zero =>
      intro f J x x3 hd hf x0 hJ hw h3 h0 h1
      obtain ⟨f, rfl⟩ : ∃ g, f = g + 1 := ⟨f - 1, by omega⟩
      refine ⟨J, x3, ?_, hJ, fun y a b => hw y a (by omega), h3, fun q y a b => h0 q y a (by omega), h1⟩
      show X12_round_s5 N 85 (X12_round_h5 N 85 f) n0 K J F 0 0 _ _ x3 x = _
      unfold X12_round_s5 am_lt
      dsimp only
      rw [am_mo_0, if_pos (nb_in (by omega)), if_neg (by omega), mwK_85 hm, if_pos (show ((12, 0) : Nat × Int).1 = 12 from rfl), if_pos h3]
      rfl
    | succ d ih =>
      intro f J x x3 hd hf x0 hJ hw h3 h0 h1
      obtain ⟨f, rfl⟩ : ∃ g, f = g + 1 := ⟨f - 1, by omega⟩
      generalize hJ1 : am_u2 J (F 85 34) x (J (F 85 33) x) = J1
      have j1 : ∀ b, b ≠ F 85 34 → J1 b = I b := fun b q => by rw [← hJ1, am_u2_row_b q]; exact hJ b q
      have ja : J (F 85 33) x = lgv A C lk U t v0 r (gp_top A lk (t - 1) + x) := by rw [hJ _ ne.1]; exact hv x x0 (by omega)
      have h1' : mL K F J1 A C lk U t v0 := h.kept (fun _ _ _ => rfl) h.mm (fun b b1 _ _ _ => j1 b (by omega)) (fun k _ _ => by rw [j1 93 (by omega)])
      have hv1 : ∀ x, 0 ≤ x → x < gp_top A lk t - gp_top A lk (t - 1) → J1 (F 85 33) x = lgv A C lk U t v0 r (gp_top A lk (t - 1) + x) := fun y a b => by rw [j1 _ ne.1]; exact hv y a b
      have ie := m_isEnd (N := N) h1' (x := x) x0 (by omega)
      have e0 : X12_round_h5 N 85 (f + 1) n0 K J F 0 0 (gp_top A lk (t - 1)) (gp_top A lk t) x3 x = (if 0 < gp_N A C lk U (gp_top A lk (t - 1) + x) then X12_round_h52 N 85 (X12_round_h5 N 85 f) N n0 K J1 F 0 0 (gp_top A lk (t - 1)) (gp_top A lk t) x3 x (-2147483648) (J1 97 x) else X12_round_h5 N 85 f n0 K J1 F 0 0 (gp_top A lk (t - 1)) (gp_top A lk t) x3 (x + 1)) := by
        show X12_round_s5 N 85 (X12_round_h5 N 85 f) n0 K J F 0 0 _ _ x3 x = _
        unfold X12_round_s5 X12_round_b158 am_lt
        dsimp only
        rw [am_mo_0, if_pos (nb_in (by omega)), if_pos (by omega), mwK_85 hm, if_pos (show ((12, 0) : Nat × Int).1 = 12 from rfl), kk.1, if_pos (show ((100, 40000) : Nat × Int).1 = 100 from rfl), if_pos (show 0 ≤ x ∧ x < 40000 by omega), kk.2, if_pos (show ((100, 40000) : Nat × Int).1 = 100 from rfl), if_pos (show F 85 34 ≠ 1 by omega), if_pos (show 0 ≤ x ∧ x < 40000 by omega), hJ1, ie, am_cq_s]
        by_cases q : 0 < gp_N A C lk U (gp_top A lk (t - 1) + x)
        · rw [if_pos q, if_pos rfl, if_pos q, mwF_85_29 hm, mwK_97 hm, if_pos (show ((100, 40001) : Nat × Int).1 = 100 from rfl), if_pos (show 0 ≤ x ∧ x < 40001 by omega)]
        · rw [if_neg q, if_neg (by decide), if_neg q, am_mo_0, if_pos (nb_in (by omega))]
      rw [e0]
      by_cases q : 0 < gp_N A C lk U (gp_top A lk (t - 1) + x)
      · rw [if_pos q]
        have bb := h1'.b (k := gp_top A lk (t - 1) + x) (by omega) (by omega)
        rw [show gp_top A lk (t - 1) + x - gp_top A lk (t - 1) = x by omega] at bb
        have rd := fun k a b => h1'.rd (k := k) hv1 a b
        have nr : gp_N A C lk U (gp_top A lk (t - 1) + x) ≤ 200000 := by omega
        have e1 := m_rnd1 (N := N) (n0 := n0) (k := gp_top A lk (t - 1) + x) (x3 := x3) h1' (fun k a b => by have := rd k a b; rw [this.1]; omega) (by omega) (by omega) (X12_round_h5 N 85 f) h3 (gp_N A C lk U (gp_top A lk (t - 1) + x)).toNat N 0 (by omega) (by omega) (by omega)
        have eX : gr_mx (gp_T A C lk U) (gp_O A C lk U) (mrd J1 (F 85 33) (gp_top A lk (t - 1))) (gp_top A lk (t - 1) + x) (-2147483648) (gp_N A C lk U (gp_top A lk (t - 1) + x)).toNat = lgv A C lk U t v0 (r + 1) (gp_top A lk (t - 1) + x) := by
          have g1 : lgv A C lk U t v0 (r + 1) (gp_top A lk (t - 1) + x) = gr_mx (gp_T A C lk U) (gp_O A C lk U) (lgv A C lk U t v0 r) (gp_top A lk (t - 1) + x) (-60) (gp_N A C lk U (gp_top A lk (t - 1) + x)).toNat := gv_s (by omega) q
          rw [g1, gr_mx_congr (g := lgv A C lk U t v0 r) _ (fun i i0 i1 => by
            have := h.H.o (gp_top A lk (t - 1) + x) i (by omega) (by omega) i0 (by omega)
            exact (rd _ this.1 this.2).1)]
          have bd : ∀ i : Int, 0 ≤ i → i < (gp_N A C lk U (gp_top A lk (t - 1) + x)).toNat → -60 ≤ gp_T A C lk U (gp_top A lk (t - 1) + x) i - lgv A C lk U t v0 r (gp_O A C lk U (gp_top A lk (t - 1) + x) i) := fun i i0 i1 => by
            have o := h.H.o (gp_top A lk (t - 1) + x) i (by omega) (by omega) i0 (by omega)
            have tt := h.H.t (gp_top A lk (t - 1) + x) i (by omega) (by omega) i0 (by omega)
            have := rd _ o.1 o.2
            omega
          exact gr_mx_any _ (by omega) (fun i i0 i1 => by have := bd i i0 i1; omega) bd
        rw [eX, show gp_top A lk (t - 1) + x - gp_top A lk (t - 1) = x by omega, show gp_cnt A C lk U (gp_top A lk (t - 1) + x).toNat - gp_cnt A C lk U (gp_top A lk (t - 1)).toNat + ((0 : Nat) : Int) = gp_cnt A C lk U (gp_top A lk (t - 1) + x).toNat - gp_cnt A C lk U (gp_top A lk (t - 1)).toNat by omega, ← bb.2.2.2.1] at e1
        have e2 : gr_mx (gp_T A C lk U) (gp_O A C lk U) (mrd J1 (F 85 33) (gp_top A lk (t - 1))) (gp_top A lk (t - 1) + x) (-2147483648) 0 = -2147483648 := rfl
        rw [e2] at e1
        rw [e1, hv1 x x0 (by omega)]
        refine ih f _ (x + 1) _ (by omega) (by omega) (by omega) (fun b w => by rw [am_u2_row_b w]; exact j1 b w) (fun y a b => ?_) (by split; exact Or.inl rfl; exact Or.inr rfl) (fun w y a b => ?_) (fun w => ?_)
        · by_cases u : y = x
          · rw [u, am_u2_s]
          · rw [am_u2_k u, ← hJ1, am_u2_k u]; exact hw y a (by omega)
        · by_cases u : x3 = 0 ∧ lgv A C lk U t v0 (r + 1) (gp_top A lk (t - 1) + x) = lgv A C lk U t v0 r (gp_top A lk (t - 1) + x)
          · by_cases uu : y = x
            · rw [uu]; exact u.2
            · exact h0 u.1 y a (by omega)
          · rw [if_neg u] at w; omega
        · by_cases u : lgv A C lk U t v0 (r + 1) (gp_top A lk (t - 1) + x) = lgv A C lk U t v0 r (gp_top A lk (t - 1) + x)
          · rcases h3 with u3 | u3
            · rw [if_pos ⟨u3, u⟩] at w; omega
            · exact h1 u3
          · exact ⟨_, u⟩
      · rw [if_neg q]
        have g1 : lgv A C lk U t v0 (r + 1) (gp_top A lk (t - 1) + x) = gp_en A lk U (gp_top A lk (t - 1) + x) := gv_end (by omega) q
        have g2 : lgv A C lk U t v0 r (gp_top A lk (t - 1) + x) = gp_en A lk U (gp_top A lk (t - 1) + x) := gv_end (by omega) q
        refine ih f _ (x + 1) _ (by omega) (by omega) (by omega) j1 (fun y a b => ?_) h3 (fun w y a b => ?_) h1
        · rw [← hJ1]
          by_cases u : y = x
          · rw [u, am_u2_s, ja, g1, g2]
          · rw [am_u2_k u]; exact hw y a (by omega)
        · by_cases u : y = x
          · rw [u, g1, g2]
          · exact h0 w y a (by omega)
  obtain ⟨J', fl, e1, e2, e3, e4, e5, e6⟩ := key (gp_top A lk t - gp_top A lk (t - 1)).toNat N I 0 0 (by omega) (by omega) (by omega) (fun _ _ => rfl) (fun y a b => by omega) (Or.inl rfl) (fun _ y a b => by omega) (fun w => by omega)
  refine ⟨J', fl, e1, e2, e3, e4, fun w k => ?_, e6⟩
  show lgv A C lk U t v0 (r + 1) k = lgv A C lk U t v0 r k
  by_cases q : gp_top A lk (t - 1) ≤ k ∧ k < gp_top A lk t
  · have := e5 w (k - gp_top A lk (t - 1)) (by omega) (by omega)
    rw [show gp_top A lk (t - 1) + (k - gp_top A lk (t - 1)) = k by omega] at this
    exact this
  · rw [lgv_out q, lgv_out q]
theorem sm_refl : sm F F := fun _ _ _ => rfl
theorem sm_swm : sm F (swm F) := fun _ _ h => swm_n h
theorem sm_tr (h : sm F F') (h' : sm F' F'') : sm F F'' := fun a j w => (h' a j w).trans (h a j w)
/-- all rounds -/
theorem m_rounds (hN : 2000000 < N) : ∀ (d f r : Nat) (J : am_I) (F : am_F) (fl : Int), 480003 - r = d → d < f → r ≤ 480002 → mL K F J A C lk U t v0 → (∀ x, 0 ≤ x → x < gp_top A lk t - gp_top A lk (t - 1) → J (F 85 33) x = lgv A C lk U t v0 r (gp_top A lk (t - 1) + x)) → ((fl = 1 ∧ (r = 0 ∨ ∃ p, lgv A C lk U t v0 r p ≠ lgv A C lk U t v0 (r - 1) p)) ∨ (fl = 0 ∧ lgv A C lk U t v0 r = lgl A C lk U t v0)) →
    ∃ J' F', X12_solveLayer_h48 N 85 f n0 K J F 0 0 (gp_top A lk (t - 1)) (gp_top A lk t) fl = X12_solveLayer_h65 N 85 N n0 K J' F' 0 0 (gp_top A lk (t - 1)) (gp_top A lk t) 0 ∧ sm F F' ∧ mmp F' ∧ (∀ b, b ≠ 101 → b ≠ 102 → J' b = J b) ∧ (∀ x, 0 ≤ x → x < gp_top A lk t - gp_top A lk (t - 1) → J' (F' 85 33) x = lgl A C lk U t v0 (gp_top A lk (t - 1) + x)) := by
  intro d
  induction d with
  | zero => intro f r J F fl hd hf hr; omega
  | succ d ih =>
    intro f r J F fl hd hf hr h hv
    obtain ⟨f, rfl⟩ : ∃ g, f = g + 1 := ⟨f - 1, by omega⟩
    have o1 : 480003 - (r + 1) = d := by omega
    have o2 : d < f := by omega
    intro hfl
    rcases hfl with ⟨q1, q2⟩ | ⟨q1, q2⟩
    · have hr2 : r ≤ 480000 := by
        refine Nat.not_lt.mp fun w => ?_
        rcases q2 with u | ⟨p, hp⟩
        · omega
        · obtain ⟨r0, a1, a2⟩ := h.H.ends
          have b1 := gS_add a2 (r - r0)
          have b2 := gS_add a2 (r - 1 - r0)
          rw [show r0 + (r - r0) = r by omega] at b1
          rw [show r0 + (r - 1 - r0) = r - 1 by omega] at b2
          exact hp (congrFun (b1.trans b2.symm) p)
      obtain ⟨J1, fl', e1, e2, e3, e4, e5, e6⟩ := m_round (N := N) (n0 := n0) h hN hv
      have ne := h.mm.ne
      have c3 := (swm_34 F).1
      have h1 : mL K (swm F) J1 A C lk U t v0 := h.kept sm_swm h.mm.s (fun b b1 _ _ _ => e2 b (by omega)) (fun k _ _ => by rw [e2 93 (by omega)])
      obtain ⟨J', F', f1, f2, f3, f4, f5⟩ := ih f (r + 1) J1 (swm F) fl' o1 o2 (Nat.le_trans (Nat.succ_le_succ hr2) (by decide)) h1 (by rw [c3]; exact e3) (by
        rcases e4 with u | u
        · have s := e5 u
          have l1 : lgv A C lk U t v0 r = lgl A C lk U t v0 := h.H.lim s
          exact Or.inr ⟨u, by rw [← l1]; exact funext s⟩
        · exact Or.inl ⟨u, Or.inr (e6 u)⟩)
      refine ⟨J', F', ?_, sm_tr sm_swm f2, f3, fun b b1 b2 => by rw [f4 b b1 b2]; exact e2 b (by omega), f5⟩
      rw [← f1]
      show X12_solveLayer_s48 N 85 (X12_solveLayer_h48 N 85 f) n0 K J F 0 0 _ _ fl = _
      unfold X12_solveLayer_s48
      rw [am_mo_0, if_neg (by omega), mwK_85 h.m, if_pos (show ((12, 0) : Nat × Int).1 = 12 from rfl), e1, am_ca_s, Nat.add_zero, am_mo_0]
    · refine ⟨J, F, ?_, sm_refl, h.mm, fun _ _ _ => rfl, fun x a b => by rw [hv x a b, q2]⟩
      show X12_solveLayer_s48 N 85 (X12_solveLayer_h48 N 85 f) n0 K J F 0 0 _ _ fl = _
      unfold X12_solveLayer_s48
      rw [am_mo_0, if_pos q1]
end MROUNDS
