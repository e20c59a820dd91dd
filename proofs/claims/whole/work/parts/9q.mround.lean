-- SOLVING A LAYER, the model: a round
def mmp (F : am_F) : Prop := (F 85 33 = 101 ∧ F 85 34 = 102) ∨ (F 85 33 = 102 ∧ F 85 34 = 101)
def swm (F : am_F) : am_F := am_u2 (am_u2 F 85 33 (F 85 34)) 85 34 (F 85 33)
/-- all but the two rows' places -/
def sm (F F' : am_F) : Prop := ∀ a j, a ≠ 85 ∨ (j ≠ 33 ∧ j ≠ 34) → F' a j = F a j
/-- the model amid a layer: s .. e - 1, what was gathered, and lower values -/
def mL (K : am_K) (F : am_F) (J : am_I) (A C : Int) (lk U : Int → Int) (t : Int) (v0 : Int → Int) : Prop := (mw K F) ∧ (mmp F) ∧ (lgH A C lk U t v0) ∧ (wG J A C lk U (gp_top A lk (t - 1)) (gp_top A lk t)) ∧ (∀ a, gp_top A lk (t - 1) ≤ a → a ≤ gp_top A lk t → J 97 (a - gp_top A lk (t - 1)) = gp_cnt A C lk U a.toNat - gp_cnt A C lk U (gp_top A lk (t - 1)).toNat) ∧ (gp_cnt A C lk U (gp_top A lk t).toNat - gp_cnt A C lk U (gp_top A lk (t - 1)).toNat ≤ 200000) ∧ (0 ≤ A) ∧ (∀ k, 0 ≤ k → k < gp_top A lk (t - 1) → J 93 k = v0 k ∧ -12 ≤ v0 k ∧ v0 k ≤ 12)
theorem mL.m {K : am_K} {F : am_F} {J : am_I} {A C : Int} {lk U : Int → Int} {t : Int} {v0 : Int → Int} (h : mL K F J A C lk U t v0) : mw K F := h.1
theorem mL.mm {K : am_K} {F : am_F} {J : am_I} {A C : Int} {lk U : Int → Int} {t : Int} {v0 : Int → Int} (h : mL K F J A C lk U t v0) : mmp F := h.2.1
theorem mL.H {K : am_K} {F : am_F} {J : am_I} {A C : Int} {lk U : Int → Int} {t : Int} {v0 : Int → Int} (h : mL K F J A C lk U t v0) : lgH A C lk U t v0 := h.2.2.1
theorem mL.G {K : am_K} {F : am_F} {J : am_I} {A C : Int} {lk U : Int → Int} {t : Int} {v0 : Int → Int} (h : mL K F J A C lk U t v0) : wG J A C lk U (gp_top A lk (t - 1)) (gp_top A lk t) := h.2.2.2.1
theorem mL.w {K : am_K} {F : am_F} {J : am_I} {A C : Int} {lk U : Int → Int} {t : Int} {v0 : Int → Int} (h : mL K F J A C lk U t v0) : ∀ a, gp_top A lk (t - 1) ≤ a → a ≤ gp_top A lk t → J 97 (a - gp_top A lk (t - 1)) = gp_cnt A C lk U a.toNat - gp_cnt A C lk U (gp_top A lk (t - 1)).toNat := h.2.2.2.2.1
theorem mL.c {K : am_K} {F : am_F} {J : am_I} {A C : Int} {lk U : Int → Int} {t : Int} {v0 : Int → Int} (h : mL K F J A C lk U t v0) : gp_cnt A C lk U (gp_top A lk t).toNat - gp_cnt A C lk U (gp_top A lk (t - 1)).toNat ≤ 200000 := h.2.2.2.2.2.1
theorem mL.A {K : am_K} {F : am_F} {J : am_I} {A C : Int} {lk U : Int → Int} {t : Int} {v0 : Int → Int} (h : mL K F J A C lk U t v0) : 0 ≤ A := h.2.2.2.2.2.2.1
theorem mL.v {K : am_K} {F : am_F} {J : am_I} {A C : Int} {lk U : Int → Int} {t : Int} {v0 : Int → Int} (h : mL K F J A C lk U t v0) : ∀ k, 0 ≤ k → k < gp_top A lk (t - 1) → J 93 k = v0 k ∧ -12 ≤ v0 k ∧ v0 k ≤ 12 := h.2.2.2.2.2.2.2
section MROUND
variable {N n n0 : Nat} {K : am_K} {F F' F'' : am_F} {I J J' J'' : am_I} {R C A : Int} {lk U : Int → Int} {S x y z k p V t i m mx nx x1 x2 x3 x4 : Int} {D r : Nat} {v0 v v' rk rk' : Int → Int}
theorem swm_34 (F : am_F) : swm F 85 33 = F 85 34 ∧ swm F 85 34 = F 85 33 := ⟨by unfold swm; rw [am_u2_k (by decide), am_u2_s], by unfold swm; rw [am_u2_s]⟩
theorem swm_n {a : Nat} {j : Int} (h : a ≠ 85 ∨ (j ≠ 33 ∧ j ≠ 34)) : swm F a j = F a j := by
  unfold swm
  rcases h with h | h
  · rw [am_u2_a h, am_u2_a h]
  · rw [am_u2_k h.2, am_u2_k h.1]
theorem fixd_m {b : Nat} {i : Int} (h : fixd b i = true) : b ≠ 85 ∨ (i ≠ 33 ∧ i ≠ 34) := by
  refine Classical.byContradiction fun q => ?_
  have q1 : b = 85 := Classical.byContradiction fun u => q (Or.inl u)
  have q2 : i = 33 ∨ i = 34 := by
    refine Classical.byContradiction fun u => q (Or.inr ⟨fun v => u (Or.inl v), fun v => u (Or.inr v)⟩)
  rw [q1] at h
  rcases q2 with u | u <;> · rw [u] at h; revert h; decide
theorem sm_mw (h : mw K F) (hs : sm F F') : mw K F' := h.kept (fun _ _ => rfl) (fun a j _ q => hs a j (fixd_m q))
theorem mmp.s (h : mmp F) : mmp (swm F) := by
  unfold mmp at *
  rw [(swm_34 F).1, (swm_34 F).2]
  rcases h with h | h
  · exact Or.inr ⟨h.2, h.1⟩
  · exact Or.inl ⟨h.2, h.1⟩
theorem mmp.kd (h : mmp F) (hm : mw K F) : K (F 85 33) = (100, 40000) ∧ K (F 85 34) = (100, 40000) := by
  rcases h with h | h
  · rw [h.1, h.2]; exact ⟨mwK_101 hm, mwK_102 hm⟩
  · rw [h.1, h.2]; exact ⟨mwK_102 hm, mwK_101 hm⟩
theorem mmp.ne (h : mmp F) : F 85 33 ≠ F 85 34 ∧ (101 ≤ F 85 33 ∧ F 85 33 ≤ 102) ∧ (101 ≤ F 85 34 ∧ F 85 34 ≤ 102) := by
  rcases h with h | h
  · rw [h.1, h.2]; exact ⟨by decide, by decide, by decide⟩
  · rw [h.1, h.2]; exact ⟨by decide, by decide, by decide⟩
theorem mL.kept (h : mL K F J A C lk U t v0) (hs : sm F F') (hm : mmp F') (hJ : ∀ b, b < 101 → 93 ≤ b → b ≠ 93 → b ≠ 94 → J' b = J b) (h93 : ∀ k, 0 ≤ k → k < gp_top A lk (t - 1) → J' 93 k = J 93 k) : mL K F' J' A C lk U t v0 := by
  have e7 := hJ 97 (by decide) (by decide) (by decide) (by decide)
  have e8 := hJ 98 (by decide) (by decide) (by decide) (by decide)
  have e9 := hJ 99 (by decide) (by decide) (by decide) (by decide)
  have e0 := hJ 100 (by decide) (by decide) (by decide) (by decide)
  exact ⟨sm_mw h.m hs, hm, h.H, ⟨by rw [e7]; exact h.G.w, by rw [e8, e9]; exact h.G.t, by rw [e0]; exact h.G.e⟩, by rw [e7]; exact h.w, h.c, h.A, fun k a b => by rw [h93 k a b]; exact h.v k a b⟩
theorem mL.b (h : mL K F J A C lk U t v0) (k0 : gp_top A lk (t - 1) ≤ k) (k1 : k < gp_top A lk t) : 0 ≤ gp_cnt A C lk U k.toNat - gp_cnt A C lk U (gp_top A lk (t - 1)).toNat ∧ gp_cnt A C lk U k.toNat - gp_cnt A C lk U (gp_top A lk (t - 1)).toNat + gp_N A C lk U k ≤ 200000 ∧ 0 ≤ gp_N A C lk U k ∧ J 97 (k - gp_top A lk (t - 1)) = gp_cnt A C lk U k.toNat - gp_cnt A C lk U (gp_top A lk (t - 1)).toNat ∧ J 97 (k - gp_top A lk (t - 1) + 1) = gp_cnt A C lk U k.toNat - gp_cnt A C lk U (gp_top A lk (t - 1)).toNat + gp_N A C lk U k := by
  have nn := h.H.l
  have cs := gR.cs (A := A) (C := C) (lk := lk) (U := U) h.A (show 0 ≤ k by omega)
  have c0 := gp_cnt_le (A := A) (C := C) (lk := lk) (U := U) h.A (a := (gp_top A lk (t - 1)).toNat) (b := k.toNat) (by omega)
  have c1 := gp_cnt_le (A := A) (C := C) (lk := lk) (U := U) h.A (a := (k + 1).toNat) (b := (gp_top A lk t).toNat) (by omega)
  have cc := h.c
  have w1 := h.w k k0 (by omega)
  have w2 := h.w (k + 1) (by omega) (by omega)
  rw [show k + 1 - gp_top A lk (t - 1) = k - gp_top A lk (t - 1) + 1 by omega] at w2
  have nb := (gp_N_b (C := C) (lk := lk) (U := U) (A := A) h.A k).1
  exact ⟨by omega, by omega, nb, w1, by omega⟩
theorem m_isEnd (h : mL K F J A C lk U t v0) (x0 : 0 ≤ x) (x1 : x < gp_top A lk t - gp_top A lk (t - 1)) : X12_isEnd N K F J 85 x = some (if 0 < gp_N A C lk U (gp_top A lk (t - 1) + x) then 0 else 1) := by
  have nn := h.H.l
  have b := h.b (k := gp_top A lk (t - 1) + x) (by omega) (by omega)
  rw [show gp_top A lk (t - 1) + x - gp_top A lk (t - 1) = x by omega] at b
  unfold X12_isEnd X12_isEnd_b22
  rw [mwF_85_29 h.m, mwK_97 h.m, if_pos (show ((100, 40001) : Nat × Int).1 = 100 from rfl), if_pos (show 0 ≤ x ∧ x < 40001 by omega), if_pos (nb_in (by omega)), if_pos (show 0 ≤ x + 1 ∧ x + 1 < 40001 by omega)]
  by_cases q : 0 < gp_N A C lk U (gp_top A lk (t - 1) + x)
  · rw [if_neg (by omega), if_pos q, if_pos (Or.inl rfl)]
  · rw [if_pos (by omega), if_neg q, if_pos (Or.inr rfl)]
theorem m_start (h : mL K F I A C lk U t v0) (hN : 2000000 < N) : ∃ J', X12_start N K F 85 I (gp_top A lk t - gp_top A lk (t - 1)) = some (0, J') ∧ (∀ b, b ≠ F 85 33 → J' b = I b) ∧ (∀ x, 0 ≤ x → x < gp_top A lk t - gp_top A lk (t - 1) → J' (F 85 33) x = lgv A C lk U t v0 0 (gp_top A lk (t - 1) + x)) := by
  have nn := h.H.l
  have kk := h.mm.kd h.m
  have ne := h.mm.ne
  have hm := h.m
  have key : ∀ (d f : Nat) (J : am_I) (x : Int), gp_top A lk t - gp_top A lk (t - 1) - x = d → d < f → 0 ≤ x → (∀ b, b ≠ F 85 33 → J b = I b) → (∀ y, 0 ≤ y → y < x → J (F 85 33) y = lgv A C lk U t v0 0 (gp_top A lk (t - 1) + y)) → ∃ J', X12_start_h2 N K F 85 f J (gp_top A lk t - gp_top A lk (t - 1)) x = some (0, J') ∧ (∀ b, b ≠ F 85 33 → J' b = I b) ∧ (∀ x, 0 ≤ x → x < gp_top A lk t - gp_top A lk (t - 1) → J' (F 85 33) x = lgv A C lk U t v0 0 (gp_top A lk (t - 1) + x)) := by
    intro d
    induction d with
    | zero =>
      intro f J x hd hf x0 hJ hv
      obtain ⟨f, rfl⟩ : ∃ g, f = g + 1 := ⟨f - 1, by omega⟩
      refine ⟨J, ?_, hJ, fun y a b => hv y a (by omega)⟩
      show X12_start_s2 N K F 85 (X12_start_h2 N K F 85 f) J _ x = _
      unfold X12_start_s2
      rw [if_neg (by omega)]
    | succ d ih =>
      intro f J x hd hf x0 hJ hv
      obtain ⟨f, rfl⟩ : ∃ g, f = g + 1 := ⟨f - 1, by omega⟩
      have hk := h.kept (F' := F) (J' := J) (fun _ _ _ => rfl) h.mm (fun b b1 _ _ _ => hJ b (by omega)) (fun k _ _ => by rw [hJ 93 (by omega)])
      have ie := m_isEnd (N := N) hk (x := x) x0 (by omega)
      have ge := h.G.e (gp_top A lk (t - 1) + x) (by omega) (by omega)
      rw [show gp_top A lk (t - 1) + x - gp_top A lk (t - 1) = x by omega] at ge
      obtain ⟨J', e1, e2, e3⟩ := ih f (am_u2 J (F 85 33) x (lgv A C lk U t v0 0 (gp_top A lk (t - 1) + x))) (x + 1) (by omega) (by omega) (by omega) (fun b q => by rw [am_u2_row_b q]; exact hJ b q) (fun y a b => by
        by_cases q : y = x
        · rw [q, am_u2_s]
        · rw [am_u2_k q]; exact hv y a (by omega))
      refine ⟨J', ?_, e2, e3⟩
      rw [← e1]
      show X12_start_s2 N K F 85 (X12_start_h2 N K F 85 f) J _ x = _
      unfold X12_start_s2 X12_start_b30 am_lt
      dsimp only
      rw [if_pos (by omega), ie, am_cq_s]
      by_cases q : 0 < gp_N A C lk U (gp_top A lk (t - 1) + x)
      · have e : lgv A C lk U t v0 0 (gp_top A lk (t - 1) + x) = 0 := gv_0 (by omega) q
        rw [if_pos q, if_pos rfl, kk.1, if_pos (show ((100, 40000) : Nat × Int).1 = 100 from rfl), if_pos (show F 85 33 ≠ 1 by omega), if_pos (show 0 ≤ x ∧ x < 40000 by omega), if_pos (nb_in (by omega)), e]
      · have e : lgv A C lk U t v0 0 (gp_top A lk (t - 1) + x) = gp_en A lk U (gp_top A lk (t - 1) + x) := gv_end (by omega) q
        rw [if_neg q] at ge
        rw [if_neg q, if_neg (by decide), mwF_85_32 hm, mwK_100 hm, if_pos (show ((100, 40000) : Nat × Int).1 = 100 from rfl), if_pos (show 0 ≤ x ∧ x < 40000 by omega), kk.1, if_pos (show ((100, 40000) : Nat × Int).1 = 100 from rfl), if_pos (show F 85 33 ≠ 1 by omega), if_pos (show 0 ≤ x ∧ x < 40000 by omega), if_pos (nb_in (by omega)), hJ 100 (by omega), ge, e]
  exact key (gp_top A lk t - gp_top A lk (t - 1)).toNat N I 0 (by omega) (by omega) (by omega) (fun _ _ => rfl) (fun y a b => by omega)
/-- what a round reads -/
def mrd (J : am_I) (a : Nat) (s : Int) : Int → Int := fun k => if s ≤ k then J a (k - s) else J 93 k
/-- the moves of one place -/
theorem m_rnd1 (h : mL K F J A C lk U t v0) (hb : ∀ k, 0 ≤ k → k < gp_top A lk t → -1000 ≤ mrd J (F 85 33) (gp_top A lk (t - 1)) k ∧ mrd J (F 85 33) (gp_top A lk (t - 1)) k ≤ 1000) (k0 : gp_top A lk (t - 1) ≤ k) (k1 : k < gp_top A lk t) (kk : Nat → am_K → am_I → am_F → Nat → Nat → Int → Int → Int → Int → Option am_A) (x30 : x3 = 0 ∨ x3 = 1) : ∀ (d f i : Nat), (gp_N A C lk U k).toNat - i = d → d < f → i ≤ (gp_N A C lk U k).toNat →
    X12_round_h52 N 85 kk f n0 K J F 0 0 (gp_top A lk (t - 1)) (gp_top A lk t) x3 (k - gp_top A lk (t - 1)) (gr_mx (gp_T A C lk U) (gp_O A C lk U) (mrd J (F 85 33) (gp_top A lk (t - 1))) k (-2147483648) i) (gp_cnt A C lk U k.toNat - gp_cnt A C lk U (gp_top A lk (t - 1)).toNat + i) = kk n0 K (am_u2 J (F 85 34) (k - gp_top A lk (t - 1)) (gr_mx (gp_T A C lk U) (gp_O A C lk U) (mrd J (F 85 33) (gp_top A lk (t - 1))) k (-2147483648) (gp_N A C lk U k).toNat)) F 0 0 (gp_top A lk (t - 1)) (gp_top A lk t) (if x3 = 0 ∧ gr_mx (gp_T A C lk U) (gp_O A C lk U) (mrd J (F 85 33) (gp_top A lk (t - 1))) k (-2147483648) (gp_N A C lk U k).toNat = J (F 85 33) (k - gp_top A lk (t - 1)) then 0 else 1) (k - gp_top A lk (t - 1) + 1) := by
  have nn := h.H.l
  have hB := h.H.B
  have kn := h.mm.kd h.m
  have ne := h.mm.ne
  have hm := h.m
  have b := h.b k0 k1
  intro d
  induction d with
  | zero =>
    intro f i hd hf hi
    obtain ⟨f, rfl⟩ : ∃ g, f = g + 1 := ⟨f - 1, by omega⟩
    have : i = (gp_N A C lk U k).toNat := by omega
    subst this
    generalize gr_mx (gp_T A C lk U) (gp_O A C lk U) (mrd J (F 85 33) (gp_top A lk (t - 1))) k (-2147483648) (gp_N A C lk U k).toNat = X
    show X12_round_s52 N 85 kk (X12_round_h52 N 85 kk f) n0 K J F 0 0 _ _ x3 _ X _ = _
    unfold X12_round_s52 X12_round_b157 X12_round_b152 X12_round_b157 X12_round_b158 am_lt
    dsimp only
    rw [am_mo_0, mwK_85 hm, if_pos (show ((12, 0) : Nat × Int).1 = 12 from rfl), if_pos (nb_in (by omega)), mwF_85_29 hm, mwK_97 hm, if_pos (show ((100, 40001) : Nat × Int).1 = 100 from rfl), if_pos (show 0 ≤ k - gp_top A lk (t - 1) + 1 ∧ k - gp_top A lk (t - 1) + 1 < 40001 by omega), if_neg (by omega), kn.2, if_pos (show ((100, 40000) : Nat × Int).1 = 100 from rfl), if_pos (show F 85 34 ≠ 1 by omega), if_pos (show 0 ≤ k - gp_top A lk (t - 1) ∧ k - gp_top A lk (t - 1) < 40000 by omega)]
    simp only [am_mo_0]
    rcases x30 with q | q
    · rw [if_pos q, kn.1, if_pos (show ((100, 40000) : Nat × Int).1 = 100 from rfl), if_pos (show 0 ≤ k - gp_top A lk (t - 1) ∧ k - gp_top A lk (t - 1) < 40000 by omega), am_u2_a ne.1]
      by_cases w : X = J (F 85 33) (k - gp_top A lk (t - 1))
      · rw [if_pos w, if_pos (nb_in (by omega)), if_pos ⟨q, w⟩]
      · rw [if_neg w, if_pos (nb_in (by omega)), if_neg (fun u => w u.2)]
    · rw [if_neg (by omega), if_pos (nb_in (by omega)), if_neg (fun u => by omega)]
  | succ d ih =>
    intro f i hd hf hi
    obtain ⟨f, rfl⟩ : ∃ g, f = g + 1 := ⟨f - 1, by omega⟩
    have tt := h.G.t k (i : Int) k0 k1 (by omega) (by omega)
    have ob := h.H.o k (i : Int) k0 k1 (by omega) (by omega)
    have tb := h.H.t k (i : Int) k0 k1 (by omega) (by omega)
    have bb := hb _ ob.1 ob.2
    rw [← ih f (i + 1) (by omega) (by omega) (by omega)]
    show X12_round_s52 N 85 kk (X12_round_h52 N 85 kk f) n0 K J F 0 0 _ _ x3 _ _ _ = _
    unfold X12_round_s52 X12_round_b115 am_lt
    dsimp only
    rw [am_mo_0, mwK_85 hm, if_pos (show ((12, 0) : Nat × Int).1 = 12 from rfl), if_pos (nb_in (by omega)), mwF_85_29 hm, mwK_97 hm, if_pos (show ((100, 40001) : Nat × Int).1 = 100 from rfl), if_pos (show 0 ≤ k - gp_top A lk (t - 1) + 1 ∧ k - gp_top A lk (t - 1) + 1 < 40001 by omega), if_pos (by omega), mwF_85_31 hm, mwK_99 hm, if_pos (show ((100, 200064) : Nat × Int).1 = 100 from rfl), if_pos (show 0 ≤ gp_cnt A C lk U k.toNat - gp_cnt A C lk U (gp_top A lk (t - 1)).toNat + (i : Int) ∧ gp_cnt A C lk U k.toNat - gp_cnt A C lk U (gp_top A lk (t - 1)).toNat + (i : Int) < 200064 by omega), mwF_85_30 hm, mwK_98 hm, if_pos (show ((100, 200064) : Nat × Int).1 = 100 from rfl), if_pos (show 0 ≤ gp_cnt A C lk U k.toNat - gp_cnt A C lk U (gp_top A lk (t - 1)).toNat + (i : Int) ∧ gp_cnt A C lk U k.toNat - gp_cnt A C lk U (gp_top A lk (t - 1)).toNat + (i : Int) < 200064 by omega), tt.1, tt.2]
    simp only [am_mo_0]
    have eg : gr_mx (gp_T A C lk U) (gp_O A C lk U) (mrd J (F 85 33) (gp_top A lk (t - 1))) k (-2147483648) (i + 1) = am_max (gr_mx (gp_T A C lk U) (gp_O A C lk U) (mrd J (F 85 33) (gp_top A lk (t - 1))) k (-2147483648) i) (gp_T A C lk U k (i : Int) - mrd J (F 85 33) (gp_top A lk (t - 1)) (gp_O A C lk U k (i : Int))) := rfl
    rw [eg, show gp_cnt A C lk U k.toNat - gp_cnt A C lk U (gp_top A lk (t - 1)).toNat + ((i + 1 : Nat) : Int) = gp_cnt A C lk U k.toNat - gp_cnt A C lk U (gp_top A lk (t - 1)).toNat + (i : Int) + 1 by omega]
    unfold mrd at bb ⊢
    by_cases q : gp_top A lk (t - 1) ≤ gp_O A C lk U k (i : Int)
    · rw [if_pos q] at bb
      rw [if_pos q, if_pos (nb_in (by omega)), kn.1, if_pos (show ((100, 40000) : Nat × Int).1 = 100 from rfl), if_pos (show 0 ≤ gp_O A C lk U k (i : Int) - gp_top A lk (t - 1) ∧ gp_O A C lk U k (i : Int) - gp_top A lk (t - 1) < 40000 by omega), if_pos (nb_in (by omega)), if_pos (nb_in (by omega)), if_pos q]
    · rw [if_neg q] at bb
      rw [if_neg q, mwF_85_25 hm, mwK_93 hm, if_pos (show ((100, 40000) : Nat × Int).1 = 100 from rfl), if_pos (show 0 ≤ gp_O A C lk U k (i : Int) ∧ gp_O A C lk U k (i : Int) < 40000 by omega), if_pos (nb_in (by omega)), if_pos (nb_in (by omega)), if_neg q]
end MROUND
