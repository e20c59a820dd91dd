-- ARRAYS OF REFERENCES: of players
section OKR
variable {ρ : Type} {r0 : ρ} {η : am_E} {l : Launch} {M : am_M} {Q : am_QM} {pc q : Nat} {ls : am_L} {st : List am_V} {n : Nat} {K : am_K} {I : am_I} {F : am_F} {c z : Nat} {rA : am_A}
theorem am_pl5 : (vwCl[5]?).map (fun r => r.1) = some "SowingHouse$Player" := rfl
theorem ok_anew {x : Int} {idx p1 : Nat} {f : am_I → am_F → Option ρ} (hd : decode M.2.1 pc = .ok (.anewarray idx, 3)) (hq : pc + 3 = q) (hx0 : 0 ≤ x) (hN : x ≤ 60000000) (hw : am_pl p1 (Cond.classLink M.1 idx "SowingHouse$Player") = true) (hc : c + 1 ≤ M.2.2.2.2.1.cells) (hs : z + x.toNat ≤ M.2.2.2.2.1.slots) (kk : ∀ I' F', f I' F' = some r0 → Ok η l M Q q ls (qr n :: st) (n + 1) (am_u1 K n (104, x)) I' F' (c + 1) (z + x.toNat)) : am_lt (am_zr I n 0) (fun I' => am_lt (am_zr F n 0) (fun F' => f I' F')) = some r0 → Ok η l M Q pc ls (qi x :: st) n K I F c z := by
  subst hq
  intro g p e s m args below meth cd H locs la hC hR hlo hl okl oks
  have hxi : am_inI x := am_okh oks
  have hsz := hR.1.1
  have hn2 := hR.1.2.1
  obtain ⟨kB, compB, -, -, -, b4⟩ := (hC.2.2.2.2.2.2.2.2.1.2 4 (η.2.1 4, .object "SowingHouse$Player") (am_tys_at η rfl)).2
  refine W.anew (C := "SowingHouse$Player") hC.1 hC.2.1 hC.2.2.2.2.1 (hC.2.2.2.2.2.1 _ (am_pl_in hw)) (va_AO.use hC.2.2.2.2.2.2.2.2.2.1) rfl hd rfl (by have e0 : (0 : Int32) = Int32.ofInt 0 := rfl; rw [e0, am_ltI hxi (by decide)]; omega) (by rw [am_clamp hxi]; omega) hc (by rw [am_clamp hxi]; exact hs) fun cA kA comp f1 f2 f3 f4 => ?_
  have hcA : cA = η.2.1 4 := Option.some.inj (f1.symm.trans b4)
  have w := kk _ _ g p e s m args below meth cd (H.push { cls := cA, slots := Array.replicate (Int32.ofInt x).toNatClampNeg Value.null }) locs la hC (am_R_new (kd := (104, x)) hR (by simp) (fun q hq => by rw [Array.getElem?_push, if_neg (Nat.ne_of_lt hq)]) ⟨fun h => absurd h (by dsimp only; omega), fun _ _ => ⟨hx0, ?_, fun j hj => ?_⟩⟩) hlo hl okl (am_okc (v := qr n) trivial (am_okt oks))
  · rw [List.map_cons, am_cv_r η (by omega), am_ad_n hn2, ← hsz] at w
    rw [am_clamp hxi] at w ⊢
    exact w
  · rw [am_ad_n hn2, ← hsz, Array.getElem?_push_size, arrV_new, am_clamp hxi, hcA]
    congr 2
    funext j
    unfold am_av am_sv
    rw [am_zr_s, am_zr_s]
    rfl
  · rw [am_zr_s]; exact am_sok0 _
theorem ok_aast {a v : Nat} {x : Int} {f : am_F → Option ρ} (hd : decode M.2.1 pc = .ok (.aastore, 1)) (hq : pc + 1 = q) (hk : (K a).1 = 104) (hkv : (K v).1 = 5) (h0 : 0 ≤ x) (h1 : x < (K a).2) (kk : ∀ F', f F' = some r0 → Ok η l M Q q ls st n K I F' c z) : am_lt (am_u2 F a x v) f = some r0 → Ok η l M Q pc ls (qr v :: qi x :: qr a :: st) n K I F c z := by
  subst hq
  intro g p e s m args below meth cd H locs la hC hR hlo hl okl oks
  obtain ⟨ha0, han⟩ := hR.lt (a := a) (by omega)
  obtain ⟨hv0, hvn⟩ := hR.lt (a := v) (by omega)
  have hx : am_inI x := am_okh (am_okt oks)
  have hxt := am_tn h0
  have ha1 : a ≠ 1 := fun h => by have := hR.2.2.2.2.1; rw [h] at hk; omega
  have hv1 : v ≠ 1 := fun h => by have := hR.2.2.2.2.1; rw [h] at hkv; omega
  show W _ _ _ _ _ _ _ _ _ _ _ _ _ _ _ (F0 m pc la (am_cv η (qr v) :: am_cv η (qi x) :: am_cv η (qr a) :: st.map (am_cv η)))
  rw [am_cv_r η ha0, am_cv_r η hv0]
  obtain ⟨hz0, hc2, hs2⟩ := (hR.2.1 a (by omega)).2 (by omega) (by omega)
  rw [hk] at hc2 hs2
  obtain ⟨r, hr, ⟨cell, q1, q2, q3, q4⟩, -⟩ := (hR.2.1 v (by omega)).1 (by omega)
  rw [hkv] at hr q2
  have hr1 : r.1 = "SowingHouse$Player" := by
    have := am_pl5
    rw [hr] at this
    exact Option.some.inj this
  have hcls := (hC.2.2.2.2.2.2.2.2.1.1 5 r hr).2
  obtain ⟨kA, comp, k1, k2, k3, -⟩ := (hC.2.2.2.2.2.2.2.2.1.2 4 (η.2.1 4, .object "SowingHouse$Player") (am_tys_at η rfl)).2
  have hcomp : comp = η.1.1 5 := Option.some.inj (k3.symm.trans (by rw [← hr1]; exact hcls.1))
  subst hcomp
  obtain ⟨kC, hkC, -⟩ := hcls.2
  refine W.aast (j := Int32.ofInt x) hC.1 hC.2.1 hc2 (fun q h => by cases h) (fun h => by cases h) k1 k2 rfl hkC ⟨fun h => ?_, by rw [am_clamp hx]; show _ < (arrV _ _ _).slots.size; rw [arrV_size]; omega⟩ q1 (fun q h => by rw [q3] at h; cases h) (by rw [q2]; exact hkC) (by rw [q2]; exact va_assign hcls) rfl rfl hd fun H' e1 e2 e3 => ?_
  · have e0 : (0 : Int32) = Int32.ofInt 0 := rfl
    rw [e0, am_ltI hx (by decide)] at h
    omega
  rw [arrV_store, am_clamp hx] at e1
  refine kk _ g p e s m args below meth cd H' _ la hC (am_R_put hR (by omega) han e2 e3 (fun _ _ _ => rfl) (fun b hb j => am_u2_a hb) ⟨fun h => absurd h (by omega), fun _ _ => ⟨hz0, ?_, fun j hjl => ?_⟩⟩) (fun y hy => ?_) hl okl (am_okt (am_okt (am_okt oks)))
  · rw [e1, hk]
    congr 2
    funext j
    unfold updV
    by_cases hj : j = x.toNat
    · subst hj
      rw [if_pos rfl]; unfold am_av am_sv am_ac; simp only [hxt, am_u2_s]
      exact (am_cv_r η hv0).symm
    · rw [if_neg hj]; unfold am_av am_sv; simp only [am_u2_k (show (j : Int) ≠ x by omega)]
  · rw [hk]; exact hs2 j hjl
  · rcases List.mem_append.mp hy with h | h
    · exact hlo y h
    · rw [List.mem_singleton.mp h]
      show η.2.2.1 + 1 ≤ am_ad η a
      unfold am_ad; rw [if_neg ha1]; omega
theorem fi_anew {x : Int} {idx p1 : Nat} {f : Nat → am_K → am_I → am_F → Option am_A} (hd : decode M.2.1 pc = .ok (.anewarray idx, 3)) (hq : pc + 3 = q) (hx : 0 ≤ x ∧ x ≤ 60000000) (hw : am_pl p1 (Cond.classLink M.1 idx "SowingHouse$Player") = true) (hcM : am_ac1 rA ≤ M.2.2.2.2.1.cells) (hzM : am_az1 rA ≤ M.2.2.2.2.1.slots) (kk : ∀ n' K' I' F', c + 1 ≤ am_ac1 rA → z + x.toNat ≤ am_az1 rA → K' n = (104, x) → f n' K' I' F' = some rA → Ok η l M Q q ls (qr n :: st) n' K' I' F' (c + 1) (z + x.toNat)) : am_nw n (104, x) K I F (fun n' K' I' F' => am_mo (c + 1) (z + x.toNat) (f n' K' I' F')) = some rA → Ok η l M Q pc ls (qi x :: st) n K I F c z := by
  intro g
  refine fi_mo (fun h1 h2 g => ?_) g
  exact ok_anew (f := fun I' F' => f (n + 1) (am_u1 K n (104, x)) I' F') hd hq hx.1 hx.2 hw (Nat.le_trans h1 hcM) (Nat.le_trans h2 hzM) (fun I' F' h => kk _ _ I' F' h1 h2 (am_u1_s _ _ _) h) g
end OKR
