-- CELLS THAT ARE MADE, in the functions' form
def am_nw {ρ : Type} (n : Nat) (kd : Nat × Int) (K : am_K) (I : am_I) (F : am_F) (t : Nat → am_K → am_I → am_F → Option ρ) : Option ρ := t (n + 1) (am_u1 K n kd) (am_zr I n 0) (am_zr F n 0)
section OKD
variable {η : am_E} {l : Launch} {M : am_M} {Q : am_QM} {pc q : Nat} {ls : am_L} {st : List am_V} {n : Nat} {K : am_K} {I : am_I} {F : am_F} {c z : Nat} {rA : am_A} {f : Nat → am_K → am_I → am_F → Option am_A}
theorem fi_new {idx ci N p1 p2 p3 : Nat} (hd : decode M.2.1 pc = .ok (.new idx, 3)) (hq : pc + 3 = q) (hf : am_nok M.1 idx ci N p1 p2 p3 = true) (hcM : am_ac1 rA ≤ M.2.2.2.2.1.cells) (hzM : am_az1 rA ≤ M.2.2.2.2.1.slots) (kk : ∀ n' K' I' F', c + 1 ≤ am_ac1 rA → z + N ≤ am_az1 rA → K' n = (ci, 0) → f n' K' I' F' = some rA → Ok η l M Q q ls (qr n :: st) n' K' I' F' (c + 1) (z + N)) : am_nw n (ci, 0) K I F (fun n' K' I' F' => am_mo (c + 1) (z + N) (f n' K' I' F')) = some rA → Ok η l M Q pc ls st n K I F c z := by
  intro g
  refine fi_mo (fun h1 h2 g => ?_) g
  exact ok_new (f := fun I' F' => f (n + 1) (am_u1 K n (ci, 0)) I' F') hd hq hf (Nat.le_trans h1 hcM) (Nat.le_trans h2 hzM) (fun I' F' h => kk _ _ I' F' h1 h2 (am_u1_s _ _ _) h) g
theorem fi_newi {x : Int} {p1 : Nat} (hd : decode M.2.1 pc = .ok (.newarray .int, 2)) (hq : pc + 2 = q) (hx : 0 ≤ x ∧ x ≤ 60000000) (hw : am_pl p1 (Cond.arrayClass .int) = true) (hcM : am_ac1 rA ≤ M.2.2.2.2.1.cells) (hzM : am_az1 rA ≤ M.2.2.2.2.1.slots) (kk : ∀ n' K' I' F', c + 1 ≤ am_ac1 rA → z + x.toNat ≤ am_az1 rA → K' n = (100, x) → f n' K' I' F' = some rA → Ok η l M Q q ls (qr n :: st) n' K' I' F' (c + 1) (z + x.toNat)) : am_nw n (100, x) K I F (fun n' K' I' F' => am_mo (c + 1) (z + x.toNat) (f n' K' I' F')) = some rA → Ok η l M Q pc ls (qi x :: st) n K I F c z := by
  intro g
  refine fi_mo (fun h1 h2 g => ?_) g
  exact ok_newi (f := fun I' F' => f (n + 1) (am_u1 K n (100, x)) I' F') hd hq hx.1 hx.2 (am_pl_in hw) (Nat.le_trans h1 hcM) (Nat.le_trans h2 hzM) (fun I' F' h => kk _ _ I' F' h1 h2 (am_u1_s _ _ _) h) g
theorem fi_newz {x : Int} {p1 : Nat} (hd : decode M.2.1 pc = .ok (.newarray .boolean, 2)) (hq : pc + 2 = q) (hx : 0 ≤ x ∧ x ≤ 60000000) (hw : am_pl p1 (Cond.arrayClass .boolean) = true) (hcM : am_ac1 rA ≤ M.2.2.2.2.1.cells) (hzM : am_az1 rA ≤ M.2.2.2.2.1.slots) (kk : ∀ n' K' I' F', c + 1 ≤ am_ac1 rA → z + x.toNat ≤ am_az1 rA → K' n = (101, x) → f n' K' I' F' = some rA → Ok η l M Q q ls (qr n :: st) n' K' I' F' (c + 1) (z + x.toNat)) : am_nw n (101, x) K I F (fun n' K' I' F' => am_mo (c + 1) (z + x.toNat) (f n' K' I' F')) = some rA → Ok η l M Q pc ls (qi x :: st) n K I F c z := by
  intro g
  refine fi_mo (fun h1 h2 g => ?_) g
  exact ok_newz (f := fun I' F' => f (n + 1) (am_u1 K n (101, x)) I' F') hd hq hx.1 hx.2 (am_pl_in hw) (Nat.le_trans h1 hcM) (Nat.le_trans h2 hzM) (fun I' F' h => kk _ _ I' F' h1 h2 (am_u1_s _ _ _) h) g
theorem fi_newl {x : Int} {p1 : Nat} (hd : decode M.2.1 pc = .ok (.newarray .long, 2)) (hq : pc + 2 = q) (hx : 0 ≤ x ∧ x ≤ 60000000) (hw : am_pl p1 (Cond.arrayClass .long) = true) (hcM : am_ac1 rA ≤ M.2.2.2.2.1.cells) (hzM : am_az1 rA ≤ M.2.2.2.2.1.slots) (kk : ∀ n' K' I' F', c + 1 ≤ am_ac1 rA → z + x.toNat ≤ am_az1 rA → K' n = (102, x) → f n' K' I' F' = some rA → Ok η l M Q q ls (qr n :: st) n' K' I' F' (c + 1) (z + x.toNat)) : am_nw n (102, x) K I F (fun n' K' I' F' => am_mo (c + 1) (z + x.toNat) (f n' K' I' F')) = some rA → Ok η l M Q pc ls (qi x :: st) n K I F c z := by
  intro g
  refine fi_mo (fun h1 h2 g => ?_) g
  exact ok_newl (f := fun I' F' => f (n + 1) (am_u1 K n (102, x)) I' F') hd hq hx.1 hx.2 (am_pl_in hw) (Nat.le_trans h1 hcM) (Nat.le_trans h2 hzM) (fun I' F' h => kk _ _ I' F' h1 h2 (am_u1_s _ _ _) h) g
end OKD
