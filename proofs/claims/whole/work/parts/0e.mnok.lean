-- ARRAYS OF ARRAYS: the rule
section OKM
variable {η : am_E} {l : Launch} {M : am_M} {Q : am_QM} {pc q : Nat} {ls : am_L} {st : List am_V} {n : Nat} {K : am_K} {I : am_I} {F : am_F} {c z : Nat} {rA : am_A}
theorem mn_steps {p : Program} {e : Env} {R : Room} {s : State} {m : MethodId} {args : Array Value} {below : List Frame} {meth : Method} {cd : Code} {T : State} {locs : List Loc} {cells slots : Nat} (X : Stand p l e R s m args below meth cd T locs cells slots) (hexec : p.tables.exec = Jvm.exec) {own : String} {idx : Nat} (hown : s.vm.findClass own = some m.cls) (hlink : (Cond.classLink own idx ("[" ++ (FieldType.array .int).toString)).before args s = true) (hAO : am_AO s) (harr : (Cond.arrayClass .int).before args s = true) {g : JFrame} (hg : g.method = m) (hdg : decode cd.code g.pc = .ok (.multianewarray idx 2, 4)) {a b : Int32} {rest : List Value} (hst : g.stack = .int b :: .int a :: rest) (ha : ¬ a < 0) (hb : ¬ b < 0) (h1 : a.toNatClampNeg * 4 ≤ 536870912) (h2 : b.toNatClampNeg * 4 ≤ 536870912) (hc : cells + (1 + a.toNatClampNeg) ≤ R.cells) (hz : slots + (a.toNatClampNeg + a.toNatClampNeg * b.toNatClampNeg) ≤ R.slots) :
    ∃ (vm : Vm) (cA cI : ClassId), s.vm.findClass ("[" ++ (FieldType.array .int).toString) = some cA ∧ s.vm.findClass (FieldType.array .int).toString = some cI ∧ Stand p l e R s m args below meth cd (T.setVm vm) locs cells slots ∧ ∀ t, Steps p.tables e below ((mn_st (T.setVm vm) cA cI a.toNatClampNeg b.toNatClampNeg a.toNatClampNeg).setTop { g with pc := g.pc + 4, stack := .ref T.heap.size :: rest }) t → Steps p.tables e below (T.setTop g) t := by
  subst hg
  obtain ⟨-, cI, cA, kA, a1, -, a3, a4, a5⟩ := hAO
  obtain ⟨cI', kI, cc, b1, b2, b3⟩ := Cond.arrayClass_spec harr
  have eI : cI' = cI := Option.some.inj (b1.symm.trans a1)
  subst eI
  obtain ⟨c0, f0, hcl⟩ := Cond.classLink_spec hown hlink e.platform (by rw [X.admits.platform])
  cases a5.symm.trans f0
  obtain ⟨hgv, hwm, hrd⟩ := State.classEntry (e := e) X.warmed hcl
  generalize T.vm.noted g.method.cls idx (.cls cA) = vm at hgv hwm hrd
  have al : s.vm.Alike vm := hwm.alike
  obtain ⟨kA', kA1, kA2⟩ := al.2.2 _ _ a3
  obtain ⟨kI', kI1, kI2⟩ := al.2.2 _ _ b2
  have X1 := X.noted hwm
  obtain ⟨r1, r2⟩ := X.roomAbove hc hz
  have L0 := Launch.admits_arrayLengthLimit X.admits
  have L1 := Launch.admits_maxHeapBytes X.admits
  refine ⟨vm, cA, cI', a5, a1, X1, fun t ht => ?_⟩
  obtain ⟨L, hL, XF⟩ := mn_stand X1 (cA := cA) (cI := cI') (N := a.toNatClampNeg) (M := b.toNatClampNeg) a.toNatClampNeg
  jvm_step X.here [hexec, hdg]
  simp only [multianewarray.sem, wp_bind', W.resolveClassAt_links (State.method?_setTop g X.here.top) hgv]
  rw [W.popN, if_neg (by decide)]
  refine ⟨g, State.topJava?_setTop' (s := T.setVm vm) g X.here.top, [.int a, .int b], rest, rfl, hst, ?_⟩
  simp only [List.mapM_cons, List.mapM_nil, wp_bind', wp_pure']
  refine mn_make (kA := kA') (kI := kI') (cI := cI') (cc := cc) kA1 (by rw [kA2]; exact a4) kI1 (by rw [kI2]; exact b3) ha hb (by rw [L0]; omega) (by rw [L1]; exact h1) (by rw [L0]; omega) (by rw [L1]; exact h2) (by show T.heap.size + 1 + _ ≤ _; omega) (by show T.slotsUsed + _ + _ ≤ _; omega) (fun d' acts' => ?_)
  have eS : ((T.setTop g).setVm vm).setTop { g with stack := rest } = (T.setVm vm).setTop { g with stack := rest } := by
    show ((T.setVm vm).setTop g).setTop _ = _
    rw [State.setTop_setTop]
  rw [eS, mn_top]
  simp only [wp_bind', W.mark, W.pushRef, State.topJava?_setTop' _ XF.here.top, Option.some.injEq, exists_eq_left', State.setTop_setTop, State.heap_setTop]
  intro acts
  simp [jvm, XF.here.top]
  exact ht
theorem ok_mna {x y : Int} {idx p1 p2 : Nat} (hd : decode M.2.1 pc = .ok (.multianewarray idx 2, 4)) (hq : pc + 4 = q) (hx : 0 ≤ x ∧ x ≤ 60000000) (hy : 0 ≤ y ∧ y ≤ 60000000) (hw : am_pl p1 (Cond.classLink M.1 idx ("[" ++ (FieldType.array .int).toString)) = true) (hw2 : am_pl p2 (Cond.arrayClass .int) = true) (hc : c + (1 + x.toNat) ≤ M.2.2.2.2.1.cells) (hs : z + (x.toNat + x.toNat * y.toNat) ≤ M.2.2.2.2.1.slots) (kk : Ok η l M Q q ls (qr n :: st) (n + 1 + x.toNat) (am_kb K n x y) (am_zb I n x) (am_fb F n x) (c + (1 + x.toNat)) (z + (x.toNat + x.toNat * y.toNat))) : Ok η l M Q pc ls (qi y :: qi x :: st) n K I F c z := by
  subst hq
  intro p e s m args below meth cd H locs la hC hR hlo hl okl oks
  intro T hT X
  have hyi : am_inI y := am_okh oks
  have hxi : am_inI x := am_okh (am_okt oks)
  have hn2 := hR.1.2.1
  have hsz := hR.1.1
  have e0 : (0 : Int32) = Int32.ofInt 0 := rfl
  have cx : (Int32.ofInt x).toNatClampNeg = x.toNat := am_clamp hxi
  have cy : (Int32.ofInt y).toNatClampNeg = y.toNat := am_clamp hyi
  obtain ⟨vm, cA, cI, f1, f2, X1, stp⟩ := mn_steps X hC.1 hC.2.2.2.2.1 (hC.2.2.2.2.2.1 _ (am_pl_in hw)) hC.2.2.2.2.2.2.2.2.2 (hC.2.2.2.2.2.1 _ (am_pl_in hw2)) (g := F0 m pc la (am_cv η (qi y) :: am_cv η (qi x) :: st.map (am_cv η))) rfl (by rw [hC.2.1]; exact hd) rfl (by rw [e0, am_ltI hxi (by decide)]; omega) (by rw [e0, am_ltI hyi (by decide)]; omega) (by rw [cx]; omega) (by rw [cy]; omega) (by rw [cx]; exact hc) (by rw [cx, cy]; exact hs)
  rw [cx, cy] at stp
  have r3 : cA = η.2.1 3 := Option.some.inj (f1.symm.trans (hC.2.2.2.2.2.2.2.2.1.2 3 _ (am_tys_at η rfl)).2)
  have r0 : cI = η.2.1 0 := Option.some.inj (f2.symm.trans (hC.2.2.2.2.2.2.2.2.1.2 0 _ (am_tys_at η am_ty0)).2)
  subst r3; subst r0
  obtain ⟨L, hL, XF⟩ := mn_stand X1 (cA := η.2.1 3) (cI := η.2.1 0) (N := x.toNat) (M := y.toNat) x.toNat
  obtain ⟨g1, g2, g3, g4⟩ := mn_heap (T := T.setVm vm) (cA := η.2.1 3) (cI := η.2.1 0) (N := x.toNat) (M := y.toNat) x.toNat
  have hTh : (T.setVm vm).heap = H := hT
  rw [hTh] at g1 g2 g3 g4 hL
  have hR' := am_R_mna (H' := (mn_st (T.setVm vm) (η.2.1 3) (η.2.1 0) x.toNat y.toNat x.toNat).heap) hR hx.1 hy.1 g1 g3 (by
    rw [g2]
    exact congrArg some (am_arrV (fun j hj => if_pos hj))) g4
  rw [show c + 1 + x.toNat = c + (1 + x.toNat) by omega, show z + x.toNat + x.toNat * y.toNat = z + (x.toNat + x.toNat * y.toNat) by omega] at XF
  obtain ⟨t, t1, t2⟩ := kk p e s m args below meth cd _ (locs ++ L) la hC hR' (fun q hq => by
    rcases List.mem_append.mp hq with h | h
    · exact hlo q h
    · rw [hL q h, hsz]; omega) hl okl (am_okc (v := qr n) trivial (am_okt (am_okt oks))) _ rfl XF
  refine ⟨t, stp t ?_, t2⟩
  rw [List.map_cons, am_cv_r η (by omega), am_ad_n hn2, ← hsz] at t1
  rw [hT]
  exact t1
theorem fi_mna {x y : Int} {idx p1 p2 : Nat} {f : Nat → am_K → am_I → am_F → Option am_A} (hd : decode M.2.1 pc = .ok (.multianewarray idx 2, 4)) (hq : pc + 4 = q) (hx : 0 ≤ x ∧ x ≤ 60000000) (hy : 0 ≤ y ∧ y ≤ 60000000) (hw : am_pl p1 (Cond.classLink M.1 idx ("[" ++ (FieldType.array .int).toString)) = true) (hw2 : am_pl p2 (Cond.arrayClass .int) = true) (hcM : am_ac1 rA ≤ M.2.2.2.2.1.cells) (hzM : am_az1 rA ≤ M.2.2.2.2.1.slots) (kk : ∀ n' K' I' F', c + (1 + x.toNat) ≤ am_ac1 rA → z + (x.toNat + x.toNat * y.toNat) ≤ am_az1 rA → K' n = (103, x) → f n' K' I' F' = some rA → Ok η l M Q q ls (qr n :: st) n' K' I' F' (c + (1 + x.toNat)) (z + (x.toNat + x.toNat * y.toNat))) : am_nm n x y K I F (fun n' K' I' F' => am_mo (c + (1 + x.toNat)) (z + (x.toNat + x.toNat * y.toNat)) (f n' K' I' F')) = some rA → Ok η l M Q pc ls (qi y :: qi x :: st) n K I F c z := by
  intro g
  refine fi_mo (fun h1 h2 g => ?_) g
  exact ok_mna hd hq hx hy hw hw2 (Nat.le_trans h1 hcM) (Nat.le_trans h2 hzM) (kk _ _ _ _ h1 h2 am_kb_s g)
end OKM
