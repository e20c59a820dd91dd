-- BOARDS OF NUMBERS: the class's fill
section FILL
variable {N : Nat} {K : am_K} {F : am_F} {I : am_I} {R C A : Int} {lk : Int → Int}
theorem c_fill (hc : cw K F) (hw : cW I) (hg : cg I R C A lk) (hL : gm_isL A lk (I 5)) (hN : 100 < N) {a1 : Nat} (ha : a1 = 58 ∨ a1 = 67) {b : Int} (hb : 0 ≤ b) (hb2 : b < gW (gm_L A lk + 1) 12) :
    X3_fill N K F 56 I a1 b = some (0, am_row I a1 (gm_ld 32 (gm_bd2 A lk b) (I a1))) := by
  have hA := hg.A
  have hLb := gm_L_b (A := A) (by omega) lk
  have hk : K a1 = (100, 32) := by rcases ha with rfl | rfl; exact cwK_58 hc; exact cwK_67 hc
  have hcg : ∀ c, cg (am_row I a1 c) R C A lk := fun c => hg.kept (fun x _ _ => by funext j; exact am_row_n (by omega))
  have hcW : ∀ c, cW (am_row I a1 c) := fun c m k h1 h2 h3 h4 => by rw [am_row_n (by omega)]; exact hw m k h1 h2 h3 h4
  have h33 : ∀ c, am_row I a1 c 3 3 = gm_L A lk := fun c => by rw [am_row_n (by omega)]; exact hg.2.1.2.2.2
  have h5 : ∀ c j, am_row I a1 c 5 j = I 5 j := fun c j => am_row_n (by omega)
  have hB := gW_le (m := gm_L A lk + 1) (k := 12) (by omega) (by omega)
  obtain ⟨l1, l2, l3, l4⟩ := gm_lay_b (L := gm_L A lk) (by omega) hb hb2
  -- the loop over the live pits
  have loop : ∀ (d f p : Nat) (n v : Int) (c : Int → Int), p + d = A.toNat → d < f → 0 ≤ n → n ≤ 12 → 0 ≤ v → v < gW (gm_L A lk - gm_sm (gm_lv lk) p) n → (∀ j, (p : Int) ≤ j → j < (p : Int) + d → c j = 0) →
      X3_fill_h47 N K F 56 f (am_row I a1 c) a1 n v (gm_sm (gm_lv lk) p) = some (0, am_row I a1 (fun j => if (p : Int) ≤ j ∧ j < (p : Int) + d then gm_de lk d (p : Int) (gm_L A lk - gm_sm (gm_lv lk) p) n v j else c j)) := by
    intro d
    induction d with
    | zero =>
      intro f p n v c hp hf n0 n12 v0 v1 hz
      obtain ⟨f, rfl⟩ : ∃ g, f = g + 1 := ⟨f - 1, by omega⟩
      have e : gm_sm (gm_lv lk) p = gm_L A lk := by rw [show p = A.toNat by omega]; rfl
      show X3_fill_s47 N K F 56 (X3_fill_h47 N K F 56 f) _ a1 n v _ = _
      unfold X3_fill_s47
      simp only [cwF_56_0 hc, cwK_3 hc, h33, e]
      rw [if_pos trivial, if_neg (by omega)]
      congr 3
      funext j
      rw [if_neg (by omega)]
    | succ d ih =>
      intro f p n v c hp hf n0 n12 v0 v1 hz
      have hpA : (p : Int) < A := by omega
      have hlsum : gm_sl (gm_lv lk) (d + 1) (p : Int) = gm_L A lk - gm_sm (gm_lv lk) p := by
        have := gm_sl_sm (gm_lv lk) (d + 1) p
        rw [hp] at this
        have e : gm_sm (gm_lv lk) A.toNat = gm_L A lk := rfl
        omega
      have hlb := gm_sm_b (g := gm_lv lk) (B := 1) (d := p) (fun i _ _ => gm_lv_01 _ _)
      have hsl1 : gm_sl (gm_lv lk) (d + 1) (p : Int) = gm_lv lk (p : Int) + gm_sl (gm_lv lk) d ((p : Int) + 1) := rfl
      have hsn := gm_sl_nn (g := gm_lv lk) d ((p : Int) + 1) (fun j _ _ => (gm_lv_01 lk j).1)
      have ep : ((p + 1 : Nat) : Int) = (p : Int) + 1 := by omega
      by_cases hlv : lk (p : Int) = 0
      · have e1 : gm_lv lk (p : Int) = 1 := by unfold gm_lv; rw [if_pos hlv]
        have e2 : gm_sm (gm_lv lk) (p + 1) = gm_sm (gm_lv lk) p + 1 := by rw [gm_sm_s, e1]
        obtain ⟨f, rfl⟩ : ∃ g, f = g + 1 := ⟨f - 1, by omega⟩
        generalize hmm : gm_L A lk - gm_sm (gm_lv lk) p - 1 = m at *
        have hmm2 : gm_L A lk - gm_sm (gm_lv lk) p = m + 1 := by omega
        rw [hmm2] at v1 ⊢
        obtain ⟨bb, ev, b1, b2, b3, b4⟩ := gm_dh_ex (m := m) (by omega) n.toNat v v0 (by rw [show ((n.toNat : Nat) : Int) = n by omega]; exact v1)
        have hdh := gm_dh_eq (m := m) (by omega) bb n.toNat ev b1 b2 b3
        rw [← b4] at hdh
        have hin := c_fill_in (N := N) (K := K) (F := F) hc (m := m) (by omega) (X3_fill_h47 N K F 56 f) (a1 := a1) (i := gm_sm (gm_lv lk) p) (hcW c) bb n.toNat N 0 ev b1 (by omega) (by omega) (by omega) b2 b3
        rw [← b4, show (0 : Int) + ((n.toNat : Nat) : Int) = n by omega, show (0 : Int) + (bb : Int) = (bb : Int) by omega] at hin
        rw [show ((n.toNat - bb : Nat) : Int) = n - (bb : Int) by omega] at b3
        have hr := ih f (p + 1) (n - (bb : Int)) ev (gm_up c (p : Int) (bb : Int)) (by omega) (by omega) (by omega) (by omega) b2 (by rw [e2, show gm_L A lk - (gm_sm (gm_lv lk) p + 1) = m by omega]; exact b3) (fun j a b => by rw [gm_up_n (by omega)]; exact hz j (by omega) (by omega))
        rw [ep, e2, show gm_L A lk - (gm_sm (gm_lv lk) p + 1) = m by omega] at hr
        have hst : X3_fill_h47 N K F 56 (f + 1) (am_row I a1 c) a1 n v (gm_sm (gm_lv lk) p) = X3_fill_h47 N K F 56 f (am_row I a1 (gm_up c (p : Int) (bb : Int))) a1 (n - (bb : Int)) ev (gm_sm (gm_lv lk) p + 1) := by
          show X3_fill_s47 N K F 56 (X3_fill_h47 N K F 56 f) _ a1 n v _ = _
          unfold X3_fill_s47
          rw [cwF_56_0 hc, cwK_3 hc, h33, if_pos (show ((1, 0) : Nat × Int).1 = 1 from rfl), if_pos (by omega), if_pos (nb_in (by omega)), if_pos (nb_in (by omega))]
          unfold am_lt
          dsimp only
          rw [show gm_L A lk - 1 - gm_sm (gm_lv lk) p = m by omega, hin]
          generalize X3_fill_h47 N K F 56 f = kk
          unfold X3_fill_b122
          rw [cwF_56_0 hc, cwK_3 hc, cwF_3_5 hc, cwK_5 hc, hk, h5, hL p hpA hlv]
          rw [if_pos (show ((1, 0) : Nat × Int).1 = 1 from rfl), if_pos (show ((100, 32) : Nat × Int).1 = 100 from rfl), if_pos (show 0 ≤ gm_sm (gm_lv lk) p ∧ gm_sm (gm_lv lk) p < 32 by omega), if_pos (show ((100, 32) : Nat × Int).1 = 100 from rfl), if_pos (by omega), if_pos (show (0 : Int) ≤ (p : Int) ∧ (p : Int) < 32 by omega)]
          unfold am_lt
          dsimp only
          rw [if_pos (nb_in (by omega)), if_pos (nb_in (by omega)), am_row_u]
        rw [hst, hr]
        congr 3
        funext j
        have hde : gm_de lk (d + 1) (p : Int) (m + 1) n v = gm_up (gm_de lk d ((p : Int) + 1) m (n - (bb : Int)) ev) (p : Int) (bb : Int) := by
          conv => lhs; unfold gm_de
          rw [if_pos hlv, show m + 1 - 1 = m by omega, hdh]
        rw [hde]
        unfold gm_up
        by_cases g : j = (p : Int)
        · rw [if_neg (by omega), if_pos g, if_pos (by omega), if_pos g]
        · rw [if_neg g, if_neg g]
          by_cases g2 : (p : Int) + 1 ≤ j ∧ j < (p : Int) + 1 + d
          · rw [if_pos g2, if_pos (by omega)]
          · rw [if_neg g2, if_neg (by omega)]
      · have e1 : gm_lv lk (p : Int) = 0 := by unfold gm_lv; rw [if_neg hlv]
        have e2 : gm_sm (gm_lv lk) (p + 1) = gm_sm (gm_lv lk) p := by rw [gm_sm_s, e1]; omega
        have hr := ih f (p + 1) n v c (by omega) (by omega) n0 n12 v0 (by rw [e2]; exact v1) (fun j a b => hz j (by omega) (by omega))
        rw [ep, e2] at hr
        rw [hr]
        congr 3
        funext j
        have hde : gm_de lk (d + 1) (p : Int) (gm_L A lk - gm_sm (gm_lv lk) p) n v = gm_de lk d ((p : Int) + 1) (gm_L A lk - gm_sm (gm_lv lk) p) n v := by
          conv => lhs; unfold gm_de
          rw [if_neg hlv]
        rw [hde]
        by_cases g : j = (p : Int)
        · rw [if_neg (by omega), if_pos (by omega), hz j (by omega) (by omega), gm_de_out _ _ _ _ _ _ (by omega)]
        · by_cases g2 : (p : Int) + 1 ≤ j ∧ j < (p : Int) + 1 + d
          · rw [if_pos g2, if_pos (by omega)]
          · rw [if_neg g2, if_neg (by omega)]
  -- the end
  have hfin : X3_fill_b27 N K F 56 I a1 b (gm_lay (gm_L A lk) b) = some (0, am_row I a1 (gm_ld 32 (gm_bd2 A lk b) (I a1))) := by
    have hsw := gW_s (m := gm_L A lk) (k := gm_lay (gm_L A lk) b) (by omega) l1
    have h0 := gW_nn (gm_L A lk + 1) (gm_lay (gm_L A lk) b - 1)
    have hl := loop A.toNat N 0 (gm_lay (gm_L A lk) b) (b - gW (gm_L A lk + 1) (gm_lay (gm_L A lk) b - 1)) (gm_ld 32 (fun _ => 0) (I a1)) (by omega) (by omega) l1 l2 (by omega) (by rw [gm_sm_0, Int.sub_zero]; omega) (fun j x y => by unfold gm_ld; rw [if_pos (by omega)])
    rw [gm_sm_0, Int.sub_zero] at hl
    unfold X3_fill_b27
    rw [if_pos (nb_in (by omega)), c_boardsUpTo hc hw hg (by omega), am_cq_s]
    unfold am_lt
    dsimp only
    rw [nb_wL (by omega), c_fillA (by omega) hk (by omega) (by omega), am_cl_s, hl]
    congr 3
    funext j
    unfold gm_ld gm_bd2
    by_cases g : 0 ≤ j ∧ j < A
    · rw [if_pos (show ((0 : Nat) : Int) ≤ j ∧ j < ((0 : Nat) : Int) + ((A.toNat : Nat) : Int) by omega), if_pos (show 0 ≤ j ∧ j < 32 by omega)]
      rfl
    · rw [if_neg (show ¬ (((0 : Nat) : Int) ≤ j ∧ j < ((0 : Nat) : Int) + ((A.toNat : Nat) : Int)) by omega)]
      by_cases g2 : 0 ≤ j ∧ j < 32
      · rw [if_pos g2, if_pos g2, gm_de_out _ _ _ _ _ _ (by omega)]
      · rw [if_neg g2, if_neg g2]
  -- the layer
  have hlay : ∀ (d f : Nat) (n : Int), 12 - n = d → d < f → 0 ≤ n → gm_ln (gm_L A lk) b d n = gm_lay (gm_L A lk) b → X3_fill_h3 N K F 56 f I a1 b n = X3_fill_b27 N K F 56 I a1 b (gm_lay (gm_L A lk) b) := by
    intro d
    induction d with
    | zero =>
      intro f n hd hf n0 he
      obtain ⟨f, rfl⟩ : ∃ g, f = g + 1 := ⟨f - 1, by omega⟩
      show X3_fill_s3 N K F 56 (X3_fill_h3 N K F 56 f) I a1 b n = _
      unfold X3_fill_s3
      rw [if_neg (by omega), ← he]; rfl
    | succ d ih =>
      intro f n hd hf n0 he
      obtain ⟨f, rfl⟩ : ∃ g, f = g + 1 := ⟨f - 1, by omega⟩
      unfold gm_ln at he
      show X3_fill_s3 N K F 56 (X3_fill_h3 N K F 56 f) I a1 b n = _
      unfold X3_fill_s3
      rw [if_pos (by omega), c_boardsUpTo hc hw hg (by omega), am_cq_s]
      unfold am_lt
      by_cases g : gW (gm_L A lk + 1) n ≤ b
      · rw [if_pos g] at he
        rw [if_pos (by rw [nb_cle]; exact g), if_pos (nb_in (by omega))]
        exact ih f (n + 1) (by omega) (by omega) (by omega) he
      · rw [if_neg g] at he
        rw [if_neg (by rw [nb_cle]; exact g), ← he]
  unfold X3_fill
  rw [hlay 12 N 0 (by omega) (by omega) (by omega) rfl, hfin]
end FILL
