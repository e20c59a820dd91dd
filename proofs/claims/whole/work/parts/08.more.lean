section OKB
variable {η : am_E} {l : Launch} {M : am_M} {Q : am_QM} {pc q : Nat} {ls : am_L} {st : List am_V} {n : Nat} {K : am_K} {I : am_I} {F : am_F} {c z : Nat} {G : Prop} {ρ : Type} {r0 : ρ}
def am_mmok (own : String) (idx p1 p2 p3 p4 : Nat) (b : Bool) : Bool :=
  if b then am_pl p1 (Cond.methodLink own idx Lib.Math.max.name) && am_pl p2 (Cond.static Lib.Math.max.name) && am_pl p3 (Cond.initialized "java/lang/Math") && am_pl p4 (Cond.code Lib.Math.max.name Lib.Math.max.code 2 (some .int))
  else am_pl p1 (Cond.methodLink own idx Lib.Math.min.name) && am_pl p2 (Cond.static Lib.Math.min.name) && am_pl p3 (Cond.initialized "java/lang/Math") && am_pl p4 (Cond.code Lib.Math.min.name Lib.Math.min.code 2 (some .int))
theorem am_maxI {x y : Int} (hx : am_inI x) (hy : am_inI y) : (if Int32.ofInt x < Int32.ofInt y then Int32.ofInt y else Int32.ofInt x) = Int32.ofInt (am_max x y) := by
  unfold am_max
  by_cases h : x < y
  · rw [if_pos h, if_pos ((am_ltI hx hy).mpr h)]
  · rw [if_neg h, if_neg (fun w => h ((am_ltI hx hy).mp w))]
theorem am_minI {x y : Int} (hx : am_inI x) (hy : am_inI y) : (if Int32.ofInt y < Int32.ofInt x then Int32.ofInt y else Int32.ofInt x) = Int32.ofInt (am_min x y) := by
  unfold am_min
  by_cases h : y < x
  · rw [if_pos h, if_pos ((am_ltI hy hx).mpr h)]
  · rw [if_neg h, if_neg (fun w => h ((am_ltI hy hx).mp w))]
theorem ok_mmax {x y : Int} {idx p1 p2 p3 p4 : Nat} (hd : decode M.2.1 pc = .ok (.invokestatic idx, 3)) (hq : pc + 3 = q) (hm : am_mmok M.1 idx p1 p2 p3 p4 true = true) (hw : (st.map am_cat).sum ≤ 8) (hf : 1 ≤ M.2.2.2.2.1.frames) (hlc : 21 ≤ M.2.2.2.2.1.locals) (hc : c ≤ M.2.2.2.2.1.cells) (hz : z ≤ M.2.2.2.2.1.slots) (k : G → Ok η l M Q q ls (qi (am_max x y) :: st) n K I F c z) : G → Ok η l M Q pc ls (qi y :: qi x :: st) n K I F c z := by
  subst hq
  intro g p e s m args below meth cd H locs la hC hR hlo hl okl oks
  have hy : am_inI y := am_okh oks
  have hx : am_inI x := am_okh (am_okt oks)
  unfold am_mmok at hm
  rw [if_pos rfl] at hm
  simp only [Bool.and_eq_true] at hm
  obtain ⟨⟨⟨h1, h2⟩, h3⟩, h4⟩ := hm
  have hts := hC.2.2.2.2.2.1
  have hmx : am_inI (am_max x y) := by unfold am_max; split <;> assumption
  have w := k g p e s m args below meth cd H locs la hC hR hlo hl okl (am_okc (v := qi (am_max x y)) hmx (am_okt (am_okt oks)))
  refine va_mmax (x := Int32.ofInt x) (y := Int32.ofInt y) hC.1 hC.2.1 (hC.2.2.2.1.trans hl.1.symm) hC.2.2.2.2.1 (hts _ (am_pl_in h1)) (hts _ (am_pl_in h2)) (hts _ (am_pl_in h3)) (hts _ (am_pl_in h4)) hf (by rw [am_wcat]; omega) hc hz hd ?_
  rw [am_maxI hx hy]; exact w
theorem ok_mmin {x y : Int} {idx p1 p2 p3 p4 : Nat} (hd : decode M.2.1 pc = .ok (.invokestatic idx, 3)) (hq : pc + 3 = q) (hm : am_mmok M.1 idx p1 p2 p3 p4 false = true) (hw : (st.map am_cat).sum ≤ 8) (hf : 1 ≤ M.2.2.2.2.1.frames) (hlc : 21 ≤ M.2.2.2.2.1.locals) (hc : c ≤ M.2.2.2.2.1.cells) (hz : z ≤ M.2.2.2.2.1.slots) (k : G → Ok η l M Q q ls (qi (am_min x y) :: st) n K I F c z) : G → Ok η l M Q pc ls (qi y :: qi x :: st) n K I F c z := by
  subst hq
  intro g p e s m args below meth cd H locs la hC hR hlo hl okl oks
  have hy : am_inI y := am_okh oks
  have hx : am_inI x := am_okh (am_okt oks)
  unfold am_mmok at hm
  rw [if_neg (by decide)] at hm
  simp only [Bool.and_eq_true] at hm
  obtain ⟨⟨⟨h1, h2⟩, h3⟩, h4⟩ := hm
  have hts := hC.2.2.2.2.2.1
  have hmx : am_inI (am_min x y) := by unfold am_min; split <;> assumption
  have w := k g p e s m args below meth cd H locs la hC hR hlo hl okl (am_okc (v := qi (am_min x y)) hmx (am_okt (am_okt oks)))
  refine va_mmin (x := Int32.ofInt x) (y := Int32.ofInt y) hC.1 hC.2.1 (hC.2.2.2.1.trans hl.1.symm) hC.2.2.2.2.1 (hts _ (am_pl_in h1)) (hts _ (am_pl_in h2)) (hts _ (am_pl_in h3)) (hts _ (am_pl_in h4)) hf (by rw [am_wcat]; omega) hc hz hd ?_
  rw [am_minI hx hy]; exact w
def am_oiok (own : String) (idx p1 p2 p3 : Nat) : Bool := am_pl p1 (Cond.methodLink own idx Lib.objectInit) && am_pl p2 (Cond.instanceMethod Lib.objectInit) && am_pl p3 (Cond.code Lib.objectInit ⟨#[0xb1]⟩ 1 none)
theorem ok_objInit {a idx p1 p2 p3 : Nat} (hd : decode M.2.1 pc = .ok (.invokespecial idx, 3)) (hq : pc + 3 = q) (hm : am_oiok M.1 idx p1 p2 p3 = true) (ha0 : a ≠ 0) (hw : (st.map am_cat).sum ≤ 8) (hf : 1 ≤ M.2.2.2.2.1.frames) (hlc : 20 ≤ M.2.2.2.2.1.locals) (k : G → Ok η l M Q q ls st n K I F c z) : G → Ok η l M Q pc ls (qr a :: st) n K I F c z := by
  subst hq
  intro g p e s m args below meth cd H locs la hC hR hlo hl okl oks
  unfold am_oiok at hm
  simp only [Bool.and_eq_true] at hm
  obtain ⟨⟨h1, h2⟩, h3⟩ := hm
  have hts := hC.2.2.2.2.2.1
  have w := k g p e s m args below meth cd H locs la hC hR hlo hl okl (am_okt oks)
  refine W.objInit (g := F0 m pc la (am_cv η (qr a) :: st.map (am_cv η))) (rest := st.map (am_cv η)) (a := am_ad η a) hC.1 hC.2.1 hC.2.2.2.2.1 (hts _ (am_pl_in h1)) (hts _ (am_pl_in h2)) (hts _ (am_pl_in h3)) rfl (hl.1.trans hC.2.2.2.1.symm) (by show am_cv η (qr a) :: _ = _; rw [am_cv_r η ha0]) hd hf (by rw [am_wcat]; show 2 * 0 + _ + 12 ≤ _; omega) w
def am_acok (own : String) (idx p1 p2 p3 p4 : Nat) : Bool := am_pl p1 (Cond.methodLink own idx arraycopyName) && am_pl p2 (Cond.native arraycopyName) && am_pl p3 (Cond.static arraycopyName) && am_pl p4 (Cond.initialized "java/lang/System")
theorem am_nneg {x : Int} (hx : am_inI x) (h : 0 ≤ x) : ¬ Int32.ofInt x < 0 := by
  have e0 : (0 : Int32) = Int32.ofInt 0 := rfl
  rw [e0, am_ltI hx (by decide)]; omega
theorem ok_arraycopy {a0 a idx p1 p2 p3 p4 : Nat} {sp dp m0 : Int} {f : am_I → Option ρ} (hd : decode M.2.1 pc = .ok (.invokestatic idx, 3)) (hq : pc + 3 = q) (hm : am_acok M.1 idx p1 p2 p3 p4 = true) (hk0 : (K a0).1 = 100) (hk : (K a).1 = 100) (ha1 : a ≠ 1) (ha01 : a0 ≠ 1) (hb : 0 ≤ sp ∧ 0 ≤ dp ∧ 0 ≤ m0 ∧ sp + m0 ≤ (K a0).2 ∧ dp + m0 ≤ (K a).2) (hw : (st.map am_cat).sum ≤ 8) (hf : 1 ≤ M.2.2.2.2.1.frames) (hlc : 26 ≤ M.2.2.2.2.1.locals) (kk : ∀ I', f I' = some r0 → Ok η l M Q q ls st n K I' F c z) : am_lt (am_cp I a0 sp a dp m0) f = some r0 → Ok η l M Q pc ls (qi m0 :: qi dp :: qr a :: qi sp :: qr a0 :: st) n K I F c z := by
  subst hq
  intro g p e s m args below meth cd H locs la hC hR hlo hl okl oks
  obtain ⟨b1, b2, b3, b4, b5⟩ := hb
  have hm0 : am_inI m0 := am_okh oks
  have hdp : am_inI dp := am_okh (am_okt oks)
  have hsp : am_inI sp := am_okh (am_okt (am_okt (am_okt oks)))
  obtain ⟨ha0, han⟩ := hR.lt (a := a) (by omega)
  obtain ⟨ha00, ha0n⟩ := hR.lt (a := a0) (by omega)
  unfold am_acok at hm
  simp only [Bool.and_eq_true] at hm
  obtain ⟨⟨⟨q1, q2⟩, q3⟩, q4⟩ := hm
  have hts := hC.2.2.2.2.2.1
  obtain ⟨z0, c0, s0⟩ := (hR.2.1 a0 (by omega)).2 (by omega) (by omega)
  obtain ⟨z1, c1, s1⟩ := (hR.2.1 a (by omega)).2 (by omega) (by omega)
  rw [hk0] at c0 s0
  rw [hk] at c1 s1
  have hA := (hC.2.2.2.2.2.2.2.2.1.2 0 _ (am_tys_at η am_ty0)).1
  obtain ⟨-, k0, hk0', cm0, hkk0⟩ := hA (K a0).2.toNat (am_av η I F 100 a0)
  obtain ⟨-, k1, hk1', cm1, hkk1⟩ := hA (K a).2.toNat (am_av η I F 100 a)
  intro T hT X
  show ∃ _, _
  have est : (qi m0 :: qi dp :: qr a :: qi sp :: qr a0 :: st).map (am_cv η) = Value.int (Int32.ofInt m0) :: .int (Int32.ofInt dp) :: .ref (am_ad η a) :: .int (Int32.ofInt sp) :: .ref (am_ad η a0) :: st.map (am_cv η) := by
    rw [List.map_cons, List.map_cons, List.map_cons, List.map_cons, List.map_cons, am_cv_r η ha0, am_cv_r η ha00]; rfl
  rw [est]
  obtain ⟨vm', X', step⟩ := X.arraycopy hC.1 hC.2.2.2.2.1 (hts _ (am_pl_in q1)) (hts _ (am_pl_in q2)) (hts _ (am_pl_in q3)) (hts _ (am_pl_in q4)) (src := am_ad η a0) (dst := am_ad η a) (cs := arrV (η.2.1 0) (K a0).2.toNat (am_av η I F 100 a0)) (cd := arrV (η.2.1 0) (K a).2.toNat (am_av η I F 100 a)) (srcPos := Int32.ofInt sp) (destPos := Int32.ofInt dp) (n := Int32.ofInt m0) (by rw [hT]; exact c0) (by rw [hT]; exact c1)
    (fun _ h => by cases h) (fun _ h => by cases h) (fun h => by cases h) (fun h => by cases h) hk0' hk1' hkk0 hkk1 (by simp [refKind]) (am_nneg hsp b1) (am_nneg hdp b2) (am_nneg hm0 b3)
    (by rw [am_tIi hsp, am_tIi hm0, arrV_size]; omega)
    (by rw [am_tIi hdp, am_tIi hm0, arrV_size]; omega)
    (fun vm₁ _ i hi => by
      rw [am_clamp hm0] at hi
      have e : (arrV (η.2.1 0) (K a0).2.toNat (am_av η I F 100 a0)).slots.getD ((Int32.ofInt sp).toNatClampNeg + i) .null = am_av η I F 100 a0 (sp.toNat + i) := by
        rw [am_clamp hsp, Array.getD_eq_getD_getElem?, arrV_read _ _ (by omega)]
        rfl
      refine ⟨?_, ?_⟩
      · rw [e]; rfl
      · rw [e]; exact trivial)
    (g := F0 m pc la (Value.int (Int32.ofInt m0) :: .int (Int32.ofInt dp) :: .ref (am_ad η a) :: .int (Int32.ofInt sp) :: .ref (am_ad η a0) :: st.map (am_cv η))) rfl (hl.1.trans hC.2.2.2.1.symm) (rest := st.map (am_cv η)) rfl (by rw [hC.2.1]; exact hd) hf (by show 2 * 0 + _ + _ ≤ _; rw [am_wcat]; show 2 * 0 + _ + (5 + 2 + 11) ≤ _; omega)
  have e1 : copied (arrV (η.2.1 0) (K a0).2.toNat (am_av η I F 100 a0)) (arrV (η.2.1 0) (K a).2.toNat (am_av η I F 100 a)) (Int32.ofInt sp) (Int32.ofInt dp) (Int32.ofInt m0) = arrV (η.2.1 0) (K a).2.toNat (am_av η (am_cp I a0 sp a dp m0) F 100 a) := by
    have h := va_copied (sp := (Int32.ofInt sp).toNatClampNeg) (dp := (Int32.ofInt dp).toNatClampNeg) (n := (Int32.ofInt m0).toNatClampNeg) (fun v : Value => v) (η.2.1 0) (η.2.1 0) (n0 := (K a0).2.toNat) (n1 := (K a).2.toNat) (am_av η I F 100 a0) (am_av η I F 100 a) (by rw [am_clamp hsp, am_clamp hm0]; omega)
    refine h.trans ?_
    congr 1
    funext j
    rw [am_clamp hsp, am_clamp hdp, am_clamp hm0]
    have v0 : ∀ (J : am_I) (b i : Nat), am_av η J F 100 b i = am_cv η (qi (J b (i : Int))) := fun _ _ _ => rfl
    unfold va_cpy
    by_cases hj : dp.toNat ≤ j ∧ j < dp.toNat + m0.toNat
    · have hj2 : a = a ∧ dp ≤ (j : Int) ∧ (j : Int) < dp + m0 := ⟨rfl, by omega, by omega⟩
      have hj3 : ((sp.toNat + (j - dp.toNat) : Nat) : Int) = sp + ((j : Int) - dp) := by omega
      rw [if_pos hj, v0, v0, hj3, show am_cp I a0 sp a dp m0 a (j : Int) = I a0 (sp + ((j : Int) - dp)) from if_pos hj2]
    · have hj2 : ¬ (a = a ∧ dp ≤ (j : Int) ∧ (j : Int) < dp + m0) := fun h => hj ⟨by omega, by omega⟩
      rw [if_neg hj, v0, v0, show am_cp I a0 sp a dp m0 a (j : Int) = I a (j : Int) from if_neg hj2]
  rw [e1] at X' step
  have hlt : am_ad η a < H.size := (Array.getElem?_eq_some_iff.mp c1).1
  have hheap : ((T.setVm vm').setCell (am_ad η a) (arrV (η.2.1 0) (K a).2.toNat (am_av η (am_cp I a0 sp a dp m0) F 100 a))).heap = H.setIfInBounds (am_ad η a) (arrV (η.2.1 0) (K a).2.toNat (am_av η (am_cp I a0 sp a dp m0) F 100 a)) := by rw [← hT]; rfl
  have oq : ∀ q : Nat, q ≠ am_ad η a → (H.setIfInBounds (am_ad η a) (arrV (η.2.1 0) (K a).2.toNat (am_av η (am_cp I a0 sp a dp m0) F 100 a)))[q]? = H[q]? := fun q hq => by simp [Array.getElem?_setIfInBounds, Ne.symm hq]
  have hR' : am_R η s n K (am_cp I a0 sp a dp m0) F (H.setIfInBounds (am_ad η a) (arrV (η.2.1 0) (K a).2.toNat (am_av η (am_cp I a0 sp a dp m0) F 100 a))) := by
    refine am_R_put hR (by omega) han (by simp) oq (fun b hb k => if_neg (fun h => hb h.1)) (fun _ _ _ => rfl) ⟨fun h => absurd h (by omega), fun _ _ => ⟨z1, ?_, fun j hj => ?_⟩⟩
    · rw [hk]; simp [Array.getElem?_setIfInBounds, hlt]
    · rw [hk]
      unfold am_cp
      by_cases h : a = a ∧ dp ≤ (j : Int) ∧ (j : Int) < dp + m0
      · rw [if_pos h]
        have := s0 (sp + ((j : Int) - dp)).toNat (by omega)
        rwa [am_tn (by omega)] at this
      · rw [if_neg h]; exact s1 j hj
  obtain ⟨t, a1, b1⟩ := kk _ g p e s m args below meth cd _ _ la hC hR' (fun q hq => by
    rcases List.mem_append.mp hq with h | h
    · exact hlo q h
    · obtain ⟨z, -, hz⟩ := List.mem_map.mp h
      rw [← hz]
      show η.2.2.1 + 1 ≤ am_ad η a
      unfold am_ad; rw [if_neg ha1]; omega) hl okl (am_okt (am_okt (am_okt (am_okt (am_okt oks))))) _ hheap X'
  exact ⟨t, step t a1, b1⟩
end OKB
