-- ARRAYS OF ARRAYS, made at once
def am_kb (K : am_K) (n : Nat) (x y : Int) : am_K := fun b => if b = n then (103, x) else if n < b ∧ b ≤ n + x.toNat then (100, y) else K b
def am_zb (I : am_I) (n : Nat) (x : Int) : am_I := fun b j => if n ≤ b ∧ b ≤ n + x.toNat then 0 else I b j
def am_fb (F : am_F) (n : Nat) (x : Int) : am_F := fun b j => if b = n then (if 0 ≤ j ∧ j < x then n + 1 + j.toNat else 0) else if n < b ∧ b ≤ n + x.toNat then 0 else F b j
def am_nm {ρ : Type} (n : Nat) (x y : Int) (K : am_K) (I : am_I) (F : am_F) (t : Nat → am_K → am_I → am_F → Option ρ) : Option ρ := t (n + 1 + x.toNat) (am_kb K n x y) (am_zb I n x) (am_fb F n x)
section MULTI
variable {η : am_E} {s : State} {n : Nat} {K : am_K} {I : am_I} {F : am_F} {H H' : Heap} {x y : Int}
theorem am_zb_o {b : Nat} (h : b < n ∨ n + x.toNat < b) (j : Int) : am_zb I n x b j = I b j := if_neg (by omega)
theorem am_zb_i {b : Nat} (h : n ≤ b ∧ b ≤ n + x.toNat) (j : Int) : am_zb I n x b j = 0 := if_pos h
theorem am_fb_o {b : Nat} (h : b < n ∨ n + x.toNat < b) (j : Int) : am_fb F n x b j = F b j := by unfold am_fb; rw [if_neg (by omega), if_neg (by omega)]
theorem am_kb_o {b : Nat} (h : b < n ∨ n + x.toNat < b) : am_kb K n x y b = K b := by unfold am_kb; rw [if_neg (by omega), if_neg (by omega)]
theorem am_kb_i {b : Nat} (h : n < b ∧ b ≤ n + x.toNat) : am_kb K n x y b = (100, y) := by unfold am_kb; rw [if_neg (by omega), if_pos h]
theorem am_kb_s : am_kb K n x y n = (103, x) := if_pos rfl
theorem am_arrV {cI : ClassId} {N : Nat} {f g : Nat → Value} (h : ∀ j, j < N → f j = g j) : arrV cI N f = arrV cI N g := by
  unfold arrV
  congr 2
  funext j
  exact h j.1 j.2
theorem am_R_mna (hR : am_R η s n K I F H) (hx : 0 ≤ x) (hy : 0 ≤ y) (hz : H'.size = H.size + 1 + x.toNat) (ho : ∀ q, q < H.size → H'[q]? = H[q]?) (h0 : H'[H.size]? = some (arrV (η.2.1 3) x.toNat (fun j => .ref (H.size + 1 + j)))) (h1 : ∀ j, j < x.toNat → H'[H.size + 1 + j]? = some (arrV (η.2.1 0) y.toNat (fun _ => .int 0))) : am_R η s (n + 1 + x.toNat) (am_kb K n x y) (am_zb I n x) (am_fb F n x) H' := by
  obtain ⟨⟨e1, e2, e3⟩, g2, g3, g4, g5, g6, g7, g8⟩ := hR
  refine ⟨⟨by rw [hz, e1]; omega, by omega, e3⟩, fun b hb => ?_, fun b hb => ?_, ?_, ?_, ?_, ?_, fun j hj => ?_⟩
  · by_cases hbn : b = n
    · subst hbn
      rw [am_kb_s]
      refine ⟨fun h => absurd h (by dsimp only; omega), fun _ _ => ⟨hx, ?_, fun j hj => ⟨fun h => absurd h (show ¬ (2 : Nat) = 0 by decide), fun h => absurd h (show ¬ (2 : Nat) = 1 by decide)⟩⟩⟩
      rw [am_ad_n e2, ← e1, h0]
      dsimp only
      refine congrArg some (am_arrV (fun j hj => ?_))
      have f1 : am_fb F b x b (j : Int) = b + 1 + j := by unfold am_fb; rw [if_pos rfl, if_pos (by omega), Int.toNat_natCast]
      show Value.ref (H.size + 1 + j) = am_cv η (qr (am_fb F b x b (j : Int)))
      have e5 : H.size + 1 + j = η.2.2.1 + (b + 1 + j) - 1 := by rw [e1]; clear f1; omega
      rw [f1, am_cv_r η (by omega), am_ad_n (by omega), e5]
    · by_cases hi : n < b ∧ b ≤ n + x.toNat
      · rw [am_kb_i hi]
        refine ⟨fun h => absurd h (by dsimp only; omega), fun _ _ => ⟨hy, ?_, fun j hj => ?_⟩⟩
        · have q1 := h1 (b - n - 1) (by omega)
          rw [show H.size + 1 + (b - n - 1) = am_ad η b by rw [am_ad_n (by omega), e1]; omega] at q1
          rw [q1]
          refine congrArg some (am_arrV (fun j hj => ?_))
          show Value.int 0 = am_cv η (qi (am_zb I n x b (j : Int)))
          rw [am_zb_i (by omega)]
          rfl
        · rw [am_zb_i (by omega)]; exact am_sok0 _
      · rw [am_kb_o (by omega)]
        by_cases hlt : b < n
        · refine am_at_kept (g2 b hb) (ho _ ?_) (fun j => am_zb_o (by omega) j) (fun j => am_fb_o (by omega) j)
          unfold am_ad; rw [if_neg (by omega), e1]; omega
        · rw [g3 b (by omega)]
          exact ⟨fun h => absurd h (by decide), fun _ h => absurd h (by decide)⟩
  · rw [am_kb_o (by omega)]; exact g3 b (by omega)
  · rw [am_kb_o (by omega)]; exact g4
  · rw [am_kb_o (by omega)]; exact g5
  · rw [am_kb_o (by omega)]; exact g6
  · rw [am_kb_o (by omega)]
    have e4 : (fun j : Nat => Int32.ofInt (am_zb I n x 1 (j : Int))) = (fun j : Nat => Int32.ofInt (I 1 (j : Int))) := by funext j; rw [am_zb_o (by omega)]
    rw [e4]; exact g7.kept (ho _ (by rw [e1]; omega))
  · rw [am_kb_o (by omega)] at hj
    rw [am_zb_o (by omega)]; exact g8 j hj
end MULTI
