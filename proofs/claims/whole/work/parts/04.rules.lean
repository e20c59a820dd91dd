section OKA
variable {η : am_E} {l : Launch} {M : am_M} {Q : am_QM} {pc q : Nat} {ls : am_L} {st : List am_V} {n : Nat} {K : am_K} {I : am_I} {F : am_F} {c z : Nat} {G : Prop} {ρ : Type} {r0 : ρ} {t t1 t2 : Option ρ}
/-- an instruction that changes the stack alone -/
theorem ok_go {st' : List am_V} (h : ∀ (p : Program) (e : Env) (s : State) (m : MethodId) (args : Array Value) (below : List Frame) (meth : Method) (cd : Code) (H : Heap) (locs : List Loc) (la : Array Slot),
      am_C η M p s m args meth cd → lv_has la M.2.2.1 (am_lm η ls) → (∀ q ∈ ls, am_ok q.2) → (∀ v ∈ st, am_ok v) →
      (∀ v ∈ st', am_ok v) ∧ (W p l e M.2.2.2.2.1 s m args below meth cd H locs c z (Q below args s) (F0 m q la (st'.map (am_cv η))) → W p l e M.2.2.2.2.1 s m args below meth cd H locs c z (Q below args s) (F0 m pc la (st.map (am_cv η)))))
    (k : G → Ok η l M Q q ls st' n K I F c z) : G → Ok η l M Q pc ls st n K I F c z := by
  intro g p e s m args below meth cd H locs la hC hR hlo hl okl oks
  obtain ⟨h1, h2⟩ := h p e s m args below meth cd H locs la hC hl okl oks
  exact h2 (k g p e s m args below meth cd H locs la hC hR hlo hl okl h1)
theorem am_okc {v : am_V} {st : List am_V} (h1 : am_ok v) (h2 : ∀ w ∈ st, am_ok w) : ∀ w ∈ v :: st, am_ok w := by
  intro w hw
  rcases List.mem_cons.mp hw with rfl | hw
  · exact h1
  · exact h2 w hw
theorem am_okI {x : Int} (h : am_inI x) : am_ok (qi x) := h
theorem am_okL {x : Int} (h : am_inL x) : am_ok (ql x) := h
theorem am_okt {v : am_V} {st : List am_V} (h : ∀ w ∈ v :: st, am_ok w) : ∀ w ∈ st, am_ok w := fun w hw => h w (List.mem_cons_of_mem _ hw)
theorem am_okh {v : am_V} {st : List am_V} (h : ∀ w ∈ v :: st, am_ok w) : am_ok v := h v List.mem_cons_self
theorem ok_iconst {x : Int} {i : Int} (hd : decode M.2.1 pc = .ok (.iconst i, 1)) (hq : pc + 1 = q) (hx : Int32.ofInt i = Int32.ofInt x) (hr : am_inI x) (k : G → Ok η l M Q q ls (qi x :: st) n K I F c z) : G → Ok η l M Q pc ls (st) n K I F c z := by
  subst hq
  exact ok_go (fun p e s m args below meth cd H locs la hC hl okl oks => ⟨am_okc (am_okI hr) oks, fun w => lv_iconst hC.1 hC.2.1 hd hx w⟩) k
theorem ok_bipush {x : Int} {i : Int} (hd : decode M.2.1 pc = .ok (.bipush i, 2)) (hq : pc + 2 = q) (hx : (Int8.ofInt i).toInt32 = Int32.ofInt x) (hr : am_inI x) (k : G → Ok η l M Q q ls (qi x :: st) n K I F c z) : G → Ok η l M Q pc ls (st) n K I F c z := by
  subst hq
  exact ok_go (fun p e s m args below meth cd H locs la hC hl okl oks => ⟨am_okc (am_okI hr) oks, fun w => lv_bipush hC.1 hC.2.1 hd hx w⟩) k
theorem ok_sipush {x : Int} {i : Int} (hd : decode M.2.1 pc = .ok (.sipush i, 3)) (hq : pc + 3 = q) (hx : (Int16.ofInt i).toInt32 = Int32.ofInt x) (hr : am_inI x) (k : G → Ok η l M Q q ls (qi x :: st) n K I F c z) : G → Ok η l M Q pc ls (st) n K I F c z := by
  subst hq
  exact ok_go (fun p e s m args below meth cd H locs la hC hl okl oks => ⟨am_okc (am_okI hr) oks, fun w => lv_sipush hC.1 hC.2.1 hd hx w⟩) k
theorem ok_lconst {x : Int} {i : Fin 2} (hd : decode M.2.1 pc = .ok (.lconst i, 1)) (hq : pc + 1 = q) (hx : Int64.ofNat (i : Nat) = Int64.ofInt x) (hr : am_inL x) (k : G → Ok η l M Q q ls (ql x :: st) n K I F c z) : G → Ok η l M Q pc ls (st) n K I F c z := by
  subst hq
  exact ok_go (fun p e s m args below meth cd H locs la hC hl okl oks => ⟨am_okc (am_okL hr) oks, fun w => lv_lconst hC.1 hC.2.1 hd hx w⟩) k
theorem ok_ldc {x : Int} {idx : Nat} {v : Int32} (hd : decode M.2.1 pc = .ok (.ldc idx, 2)) (hq : pc + 2 = q) (hw : Cond.constant M.1 idx v ∈ am_gw) (hx : v = Int32.ofInt x) (hr : am_inI x) (k : G → Ok η l M Q q ls (qi x :: st) n K I F c z) : G → Ok η l M Q pc ls (st) n K I F c z := by
  subst hq; subst hx
  exact ok_go (fun p e s m args below meth cd H locs la hC hl okl oks => ⟨am_okc (am_okI hr) oks, fun w => lv_ldc hC.1 hC.2.1 hC.2.2.2.2.1 (hC.2.2.2.2.2.1 _ hw) hd w⟩) k
theorem ok_ldc2 {x : Int} {idx : Nat} {v : Int64} (hd : decode M.2.1 pc = .ok (.ldc2_w idx, 3)) (hq : pc + 3 = q) (hw : Cond.constantLong M.1 idx v ∈ am_gw) (hx : v = Int64.ofInt x) (hr : am_inL x) (k : G → Ok η l M Q q ls (ql x :: st) n K I F c z) : G → Ok η l M Q pc ls (st) n K I F c z := by
  subst hq; subst hx
  exact ok_go (fun p e s m args below meth cd H locs la hC hl okl oks => ⟨am_okc (am_okL hr) oks, fun w => lv_ldc2 hC.1 hC.2.1 hC.2.2.2.2.1 (hC.2.2.2.2.2.1 _ hw) hd w⟩) k
theorem ok_null (hd : decode M.2.1 pc = .ok (.aconst_null, 1)) (hq : pc + 1 = q) (k : G → Ok η l M Q q ls (qr 0 :: st) n K I F c z) : G → Ok η l M Q pc ls (st) n K I F c z := by
  subst hq
  exact ok_go (fun p e s m args below meth cd H locs la hC hl okl oks => ⟨am_okc (v := qr 0) trivial oks, fun w => lv_null hC.1 hC.2.1 hd w⟩) k
theorem am_lget {η : am_E} {la : Array Slot} {nL : Nat} {ls : am_L} (hl : lv_has la nL (am_lm η ls)) (j : Nat) {i : Nat} {v : am_V} (hj : ls[j]? = some (i, v)) : la[i]? = some (.val (am_cv η v)) := by
  refine lv_at hl j ?_
  unfold am_lm
  rw [List.getElem?_map, hj]; rfl
theorem am_lok {ls : am_L} (h : ∀ q ∈ ls, am_ok q.2) (j : Nat) {i : Nat} {v : am_V} (hj : ls[j]? = some (i, v)) : am_ok v := h (i, v) (List.mem_of_getElem? hj)
theorem ok_iload_n {i : Fin 4} (j : Nat) {i' : Nat} {x : Int} (hd : decode M.2.1 pc = .ok (.iload_n i, 1)) (hq : pc + 1 = q) (hi : (i : Nat) = i') (hj : ls[j]? = some (i', qi x)) (k : G → Ok η l M Q q ls (qi x :: st) n K I F c z) : G → Ok η l M Q pc ls (st) n K I F c z := by
  subst hq
  exact ok_go (fun p e s m args below meth cd H locs la hC hl okl oks => ⟨am_okc (am_lok okl j hj) oks, fun w => lv_iload_n hC.1 hC.2.1 hd hi (am_lget hl j hj) w⟩) k
theorem ok_iload {i : Nat} (j : Nat) {x : Int} (hd : decode M.2.1 pc = .ok (.iload i, 2)) (hq : pc + 2 = q) (hj : ls[j]? = some (i, qi x)) (k : G → Ok η l M Q q ls (qi x :: st) n K I F c z) : G → Ok η l M Q pc ls (st) n K I F c z := by
  subst hq
  exact ok_go (fun p e s m args below meth cd H locs la hC hl okl oks => ⟨am_okc (am_lok okl j hj) oks, fun w => lv_iload hC.1 hC.2.1 hd (am_lget hl j hj) w⟩) k
theorem ok_lload_n {i : Fin 4} (j : Nat) {i' : Nat} {x : Int} (hd : decode M.2.1 pc = .ok (.lload_n i, 1)) (hq : pc + 1 = q) (hi : (i : Nat) = i') (hj : ls[j]? = some (i', ql x)) (k : G → Ok η l M Q q ls (ql x :: st) n K I F c z) : G → Ok η l M Q pc ls (st) n K I F c z := by
  subst hq
  exact ok_go (fun p e s m args below meth cd H locs la hC hl okl oks => ⟨am_okc (am_lok okl j hj) oks, fun w => lv_lload_n hC.1 hC.2.1 hd hi (am_lget hl j hj) w⟩) k
theorem ok_lload {i : Nat} (j : Nat) {x : Int} (hd : decode M.2.1 pc = .ok (.lload i, 2)) (hq : pc + 2 = q) (hj : ls[j]? = some (i, ql x)) (k : G → Ok η l M Q q ls (ql x :: st) n K I F c z) : G → Ok η l M Q pc ls (st) n K I F c z := by
  subst hq
  exact ok_go (fun p e s m args below meth cd H locs la hC hl okl oks => ⟨am_okc (am_lok okl j hj) oks, fun w => lv_lload hC.1 hC.2.1 hd (am_lget hl j hj) w⟩) k
theorem ok_aload_n {i : Fin 4} (j : Nat) {i' a : Nat} (hd : decode M.2.1 pc = .ok (.aload_n i, 1)) (hq : pc + 1 = q) (hi : (i : Nat) = i') (hj : ls[j]? = some (i', qr a)) (k : G → Ok η l M Q q ls (qr a :: st) n K I F c z) : G → Ok η l M Q pc ls (st) n K I F c z := by
  subst hq
  refine ok_go (fun p e s m args below meth cd H locs la hC hl okl oks => ⟨am_okc (v := qr a) trivial oks, fun w => ?_⟩) k
  match a, am_lget hl j hj, w with
  | 0, h, w => exact lv_aload_nN hC.1 hC.2.1 hd hi h w
  | a + 1, h, w => exact lv_aload_n hC.1 hC.2.1 hd hi h w
theorem ok_aload {i : Nat} (j : Nat) {a : Nat} (hd : decode M.2.1 pc = .ok (.aload i, 2)) (hq : pc + 2 = q) (hj : ls[j]? = some (i, qr a)) (k : G → Ok η l M Q q ls (qr a :: st) n K I F c z) : G → Ok η l M Q pc ls (st) n K I F c z := by
  subst hq
  refine ok_go (fun p e s m args below meth cd H locs la hC hl okl oks => ⟨am_okc (v := qr a) trivial oks, fun w => ?_⟩) k
  match a, am_lget hl j hj, w with
  | 0, h, w => exact lv_aloadN hC.1 hC.2.1 hd h w
  | a + 1, h, w => exact lv_aload hC.1 hC.2.1 hd h w
/-- what stays of the locals when a word is stored at i -/
def am_f1 (i : Nat) (ls : am_L) : am_L := ls.filter (fun q => !(q.1 == i) && !(q.1 + 1 == i && am_cat q.2 == 2))
def am_f2 (i : Nat) (ls : am_L) : am_L := ls.filter (fun q => !(q.1 == i) && (!(q.1 == i + 1) && !(q.1 + 1 == i && am_cat q.2 == 2)))
theorem am_lm_f1 (η : am_E) (i : Nat) (ls : am_L) : (am_lm η ls).filter (fun q => !(q.1 == i) && !(q.1 + 1 == i && q.2.category == 2)) = am_lm η (am_f1 i ls) := by
  unfold am_lm am_f1
  rw [List.filter_map]
  congr 1
  apply List.filter_congr
  intro q _
  simp only [Function.comp, am_cat_cv]
theorem am_lm_f2 (η : am_E) (i : Nat) (ls : am_L) : (am_lm η ls).filter (fun q => !(q.1 == i) && (!(q.1 == i + 1) && !(q.1 + 1 == i && q.2.category == 2))) = am_lm η (am_f2 i ls) := by
  unfold am_lm am_f2
  rw [List.filter_map]
  congr 1
  apply List.filter_congr
  intro q _
  simp only [Function.comp, am_cat_cv]
theorem am_f1_ok {i : Nat} {ls : am_L} (h : ∀ q ∈ ls, am_ok q.2) : ∀ q ∈ am_f1 i ls, am_ok q.2 := fun q hq => h q (List.mem_filter.mp hq).1
theorem am_f2_ok {i : Nat} {ls : am_L} (h : ∀ q ∈ ls, am_ok q.2) : ∀ q ∈ am_f2 i ls, am_ok q.2 := fun q hq => h q (List.mem_filter.mp hq).1
theorem am_lcons {i : Nat} {v : am_V} {ls : am_L} (h1 : am_ok v) (h : ∀ q ∈ ls, am_ok q.2) : ∀ q ∈ (i, v) :: ls, am_ok q.2 := by
  intro q hq
  rcases List.mem_cons.mp hq with rfl | hq
  · exact h1
  · exact h q hq
theorem ok_istore_n {i : Fin 4} {i' : Nat} {x : Int} {ls' : am_L} (hd : decode M.2.1 pc = .ok (.istore_n i, 1)) (hq : pc + 1 = q) (hi : (i : Nat) = i') (hn : i' < M.2.2.1) (hl' : (i', qi x) :: am_f1 i' ls = ls') (k : G → Ok η l M Q q ls' (st) n K I F c z) : G → Ok η l M Q pc ls (qi x :: st) n K I F c z := by
  subst hq; subst hl'
  intro g p e s m args below meth cd H locs la hC hR hlo hl okl oks
  refine lv_istore_n hC.1 hC.2.1 hd hi hl hn (by rw [am_lm_f1]) (fun la' hl' => ?_)
  exact k g p e s m args below meth cd H locs la' hC hR hlo hl' (am_lcons (am_okh oks) (am_f1_ok okl)) (am_okt oks)
theorem ok_lstore_n {i : Fin 4} {i' : Nat} {x : Int} {ls' : am_L} (hd : decode M.2.1 pc = .ok (.lstore_n i, 1)) (hq : pc + 1 = q) (hi : (i : Nat) = i') (hn : i' + 1 < M.2.2.1) (hl' : (i', ql x) :: am_f2 i' ls = ls') (k : G → Ok η l M Q q ls' (st) n K I F c z) : G → Ok η l M Q pc ls (ql x :: st) n K I F c z := by
  subst hq; subst hl'
  intro g p e s m args below meth cd H locs la hC hR hlo hl okl oks
  refine lv_lstore_n hC.1 hC.2.1 hd hi hl hn (by rw [am_lm_f2]) (fun la' hl' => ?_)
  exact k g p e s m args below meth cd H locs la' hC hR hlo hl' (am_lcons (am_okh oks) (am_f2_ok okl)) (am_okt oks)
theorem ok_astore_n {i : Fin 4} {i' : Nat} {x : Nat} {ls' : am_L} (hd : decode M.2.1 pc = .ok (.astore_n i, 1)) (hq : pc + 1 = q) (hi : (i : Nat) = i') (hn : i' < M.2.2.1) (hl' : (i', qr x) :: am_f1 i' ls = ls') (k : G → Ok η l M Q q ls' (st) n K I F c z) : G → Ok η l M Q pc ls (qr x :: st) n K I F c z := by
  subst hq; subst hl'
  intro g p e s m args below meth cd H locs la hC hR hlo hl okl oks
  match x, k with
  | 0, k =>
    refine lv_astore_nN hC.1 hC.2.1 hd hi hl hn (by rw [am_lm_f1]) (fun la' hl' => ?_)
    exact k g p e s m args below meth cd H locs la' hC hR hlo hl' (am_lcons (v := qr 0) trivial (am_f1_ok okl)) (am_okt oks)
  | x + 1, k =>
    refine lv_astore_n hC.1 hC.2.1 hd hi hl hn (by rw [am_lm_f1]) (fun la' hl' => ?_)
    exact k g p e s m args below meth cd H locs la' hC hR hlo hl' (am_lcons (v := qr (x + 1)) trivial (am_f1_ok okl)) (am_okt oks)
theorem ok_istore {i' : Nat} {x : Int} {ls' : am_L} (hd : decode M.2.1 pc = .ok (.istore i', 2)) (hq : pc + 2 = q) (hn : i' < M.2.2.1) (hl' : (i', qi x) :: am_f1 i' ls = ls') (k : G → Ok η l M Q q ls' (st) n K I F c z) : G → Ok η l M Q pc ls (qi x :: st) n K I F c z := by
  subst hq; subst hl'
  intro g p e s m args below meth cd H locs la hC hR hlo hl okl oks
  refine lv_istore hC.1 hC.2.1 hd hl hn (by rw [am_lm_f1]) (fun la' hl' => ?_)
  exact k g p e s m args below meth cd H locs la' hC hR hlo hl' (am_lcons (am_okh oks) (am_f1_ok okl)) (am_okt oks)
theorem ok_lstore {i' : Nat} {x : Int} {ls' : am_L} (hd : decode M.2.1 pc = .ok (.lstore i', 2)) (hq : pc + 2 = q) (hn : i' + 1 < M.2.2.1) (hl' : (i', ql x) :: am_f2 i' ls = ls') (k : G → Ok η l M Q q ls' (st) n K I F c z) : G → Ok η l M Q pc ls (ql x :: st) n K I F c z := by
  subst hq; subst hl'
  intro g p e s m args below meth cd H locs la hC hR hlo hl okl oks
  refine lv_lstore hC.1 hC.2.1 hd hl hn (by rw [am_lm_f2]) (fun la' hl' => ?_)
  exact k g p e s m args below meth cd H locs la' hC hR hlo hl' (am_lcons (am_okh oks) (am_f2_ok okl)) (am_okt oks)
theorem ok_astore {i' : Nat} {x : Nat} {ls' : am_L} (hd : decode M.2.1 pc = .ok (.astore i', 2)) (hq : pc + 2 = q) (hn : i' < M.2.2.1) (hl' : (i', qr x) :: am_f1 i' ls = ls') (k : G → Ok η l M Q q ls' (st) n K I F c z) : G → Ok η l M Q pc ls (qr x :: st) n K I F c z := by
  subst hq; subst hl'
  intro g p e s m args below meth cd H locs la hC hR hlo hl okl oks
  match x, k with
  | 0, k =>
    refine lv_astoreN hC.1 hC.2.1 hd hl hn (by rw [am_lm_f1]) (fun la' hl' => ?_)
    exact k g p e s m args below meth cd H locs la' hC hR hlo hl' (am_lcons (v := qr 0) trivial (am_f1_ok okl)) (am_okt oks)
  | x + 1, k =>
    refine lv_astore hC.1 hC.2.1 hd hl hn (by rw [am_lm_f1]) (fun la' hl' => ?_)
    exact k g p e s m args below meth cd H locs la' hC hR hlo hl' (am_lcons (v := qr (x + 1)) trivial (am_f1_ok okl)) (am_okt oks)
theorem ok_iinc {i : Nat} {d x : Int} {ls' : am_L} (j : Nat) (hd : decode M.2.1 pc = .ok (.iinc i d, 3)) (hq : pc + 3 = q) (hj : ls[j]? = some (i, qi x)) (hx : am_inI (x + d)) (hn : i < M.2.2.1) (hl' : (i, qi (x + d)) :: am_f1 i ls = ls') (k : G → Ok η l M Q q ls' (st) n K I F c z) : G → Ok η l M Q pc ls (st) n K I F c z := by
  subst hq; subst hl'
  intro g p e s m args below meth cd H locs la hC hR hlo hl okl oks
  refine lv_iinc (k := j) (x := Int32.ofInt x) (v := Int32.ofInt (x + d)) hC.1 hC.2.1 hd hl (by unfold am_lm; rw [List.getElem?_map, hj]; rfl) (by rw [am_addI, am_wI_id hx]) hn (by rw [am_lm_f1]) (fun la' hl' => ?_)
  exact k g p e s m args below meth cd H locs la' hC hR hlo hl' (am_lcons (v := qi (x + d)) hx (am_f1_ok okl)) oks
theorem ok_iadd {x y : Int} (hd : decode M.2.1 pc = .ok (.iadd, 1)) (hq : pc + 1 = q) (hr : am_inI (x + y)) (k : G → Ok η l M Q q ls (qi (x + y) :: st) n K I F c z) : G → Ok η l M Q pc ls (qi y :: qi x :: st) n K I F c z := by
  subst hq
  exact ok_go (fun p e s m args below meth cd H locs la hC hl okl oks => ⟨am_okc (am_okI hr) (am_okt (am_okt oks)), fun w => lv_iadd hC.1 hC.2.1 hd (by rw [am_addI, am_wI_id hr]; exact w)⟩) k
theorem ok_iaddW {x y : Int} (hd : decode M.2.1 pc = .ok (.iadd, 1)) (hq : pc + 1 = q) (k : G → Ok η l M Q q ls (qi (am_wI (x + y)) :: st) n K I F c z) : G → Ok η l M Q pc ls (qi y :: qi x :: st) n K I F c z := by
  subst hq
  exact ok_go (fun p e s m args below meth cd H locs la hC hl okl oks => ⟨am_okc (am_okI (am_wI_in _)) (am_okt (am_okt oks)), fun w => lv_iadd hC.1 hC.2.1 hd (by rw [am_addI]; exact w)⟩) k
theorem ok_isub {x y : Int} (hd : decode M.2.1 pc = .ok (.isub, 1)) (hq : pc + 1 = q) (hr : am_inI (x - y)) (k : G → Ok η l M Q q ls (qi (x - y) :: st) n K I F c z) : G → Ok η l M Q pc ls (qi y :: qi x :: st) n K I F c z := by
  subst hq
  exact ok_go (fun p e s m args below meth cd H locs la hC hl okl oks => ⟨am_okc (am_okI hr) (am_okt (am_okt oks)), fun w => lv_isub hC.1 hC.2.1 hd (by rw [am_subI, am_wI_id hr]; exact w)⟩) k
theorem ok_isubW {x y : Int} (hd : decode M.2.1 pc = .ok (.isub, 1)) (hq : pc + 1 = q) (k : G → Ok η l M Q q ls (qi (am_wI (x - y)) :: st) n K I F c z) : G → Ok η l M Q pc ls (qi y :: qi x :: st) n K I F c z := by
  subst hq
  exact ok_go (fun p e s m args below meth cd H locs la hC hl okl oks => ⟨am_okc (am_okI (am_wI_in _)) (am_okt (am_okt oks)), fun w => lv_isub hC.1 hC.2.1 hd (by rw [am_subI]; exact w)⟩) k
theorem ok_imul {x y : Int} (hd : decode M.2.1 pc = .ok (.imul, 1)) (hq : pc + 1 = q) (hr : am_inI (x * y)) (k : G → Ok η l M Q q ls (qi (x * y) :: st) n K I F c z) : G → Ok η l M Q pc ls (qi y :: qi x :: st) n K I F c z := by
  subst hq
  exact ok_go (fun p e s m args below meth cd H locs la hC hl okl oks => ⟨am_okc (am_okI hr) (am_okt (am_okt oks)), fun w => lv_imul hC.1 hC.2.1 hd (by rw [am_mulI, am_wI_id hr]; exact w)⟩) k
theorem ok_imulW {x y : Int} (hd : decode M.2.1 pc = .ok (.imul, 1)) (hq : pc + 1 = q) (k : G → Ok η l M Q q ls (qi (am_wI (x * y)) :: st) n K I F c z) : G → Ok η l M Q pc ls (qi y :: qi x :: st) n K I F c z := by
  subst hq
  exact ok_go (fun p e s m args below meth cd H locs la hC hl okl oks => ⟨am_okc (am_okI (am_wI_in _)) (am_okt (am_okt oks)), fun w => lv_imul hC.1 hC.2.1 hd (by rw [am_mulI]; exact w)⟩) k
theorem ok_ladd {x y : Int} (hd : decode M.2.1 pc = .ok (.ladd, 1)) (hq : pc + 1 = q) (hr : am_inL (x + y)) (k : G → Ok η l M Q q ls (ql (x + y) :: st) n K I F c z) : G → Ok η l M Q pc ls (ql y :: ql x :: st) n K I F c z := by
  subst hq
  exact ok_go (fun p e s m args below meth cd H locs la hC hl okl oks => ⟨am_okc (am_okL hr) (am_okt (am_okt oks)), fun w => lv_ladd hC.1 hC.2.1 hd (by rw [am_addL, am_wL_id hr]; exact w)⟩) k
theorem ok_laddW {x y : Int} (hd : decode M.2.1 pc = .ok (.ladd, 1)) (hq : pc + 1 = q) (k : G → Ok η l M Q q ls (ql (am_wL (x + y)) :: st) n K I F c z) : G → Ok η l M Q pc ls (ql y :: ql x :: st) n K I F c z := by
  subst hq
  exact ok_go (fun p e s m args below meth cd H locs la hC hl okl oks => ⟨am_okc (am_okL (am_wL_in _)) (am_okt (am_okt oks)), fun w => lv_ladd hC.1 hC.2.1 hd (by rw [am_addL]; exact w)⟩) k
theorem ok_lsub {x y : Int} (hd : decode M.2.1 pc = .ok (.lsub, 1)) (hq : pc + 1 = q) (hr : am_inL (x - y)) (k : G → Ok η l M Q q ls (ql (x - y) :: st) n K I F c z) : G → Ok η l M Q pc ls (ql y :: ql x :: st) n K I F c z := by
  subst hq
  exact ok_go (fun p e s m args below meth cd H locs la hC hl okl oks => ⟨am_okc (am_okL hr) (am_okt (am_okt oks)), fun w => lv_lsub hC.1 hC.2.1 hd (by rw [am_subL, am_wL_id hr]; exact w)⟩) k
theorem ok_lsubW {x y : Int} (hd : decode M.2.1 pc = .ok (.lsub, 1)) (hq : pc + 1 = q) (k : G → Ok η l M Q q ls (ql (am_wL (x - y)) :: st) n K I F c z) : G → Ok η l M Q pc ls (ql y :: ql x :: st) n K I F c z := by
  subst hq
  exact ok_go (fun p e s m args below meth cd H locs la hC hl okl oks => ⟨am_okc (am_okL (am_wL_in _)) (am_okt (am_okt oks)), fun w => lv_lsub hC.1 hC.2.1 hd (by rw [am_subL]; exact w)⟩) k
theorem ok_lmul {x y : Int} (hd : decode M.2.1 pc = .ok (.lmul, 1)) (hq : pc + 1 = q) (hr : am_inL (x * y)) (k : G → Ok η l M Q q ls (ql (x * y) :: st) n K I F c z) : G → Ok η l M Q pc ls (ql y :: ql x :: st) n K I F c z := by
  subst hq
  exact ok_go (fun p e s m args below meth cd H locs la hC hl okl oks => ⟨am_okc (am_okL hr) (am_okt (am_okt oks)), fun w => lv_lmul hC.1 hC.2.1 hd (by rw [am_mulL, am_wL_id hr]; exact w)⟩) k
theorem ok_lmulW {x y : Int} (hd : decode M.2.1 pc = .ok (.lmul, 1)) (hq : pc + 1 = q) (k : G → Ok η l M Q q ls (ql (am_wL (x * y)) :: st) n K I F c z) : G → Ok η l M Q pc ls (ql y :: ql x :: st) n K I F c z := by
  subst hq
  exact ok_go (fun p e s m args below meth cd H locs la hC hl okl oks => ⟨am_okc (am_okL (am_wL_in _)) (am_okt (am_okt oks)), fun w => lv_lmul hC.1 hC.2.1 hd (by rw [am_mulL]; exact w)⟩) k
theorem ok_iand {x y r : Int} (hd : decode M.2.1 pc = .ok (.iand, 1)) (hq : pc + 1 = q) (hr : (Int32.ofInt x &&& Int32.ofInt y).toInt = r) (k : G → Ok η l M Q q ls (qi r :: st) n K I F c z) : G → Ok η l M Q pc ls (qi y :: qi x :: st) n K I F c z := by
  subst hq; subst hr
  exact ok_go (fun p e s m args below meth cd H locs la hC hl okl oks => ⟨am_okc (am_okI (am_rgI _)) (am_okt (am_okt oks)), fun w => lv_iand hC.1 hC.2.1 hd (by rw [← am_ofI (Int32.ofInt x &&& Int32.ofInt y)]; exact w)⟩) k
theorem ok_ior {x y r : Int} (hd : decode M.2.1 pc = .ok (.ior, 1)) (hq : pc + 1 = q) (hr : (Int32.ofInt x ||| Int32.ofInt y).toInt = r) (k : G → Ok η l M Q q ls (qi r :: st) n K I F c z) : G → Ok η l M Q pc ls (qi y :: qi x :: st) n K I F c z := by
  subst hq; subst hr
  exact ok_go (fun p e s m args below meth cd H locs la hC hl okl oks => ⟨am_okc (am_okI (am_rgI _)) (am_okt (am_okt oks)), fun w => lv_ior hC.1 hC.2.1 hd (by rw [← am_ofI (Int32.ofInt x ||| Int32.ofInt y)]; exact w)⟩) k
theorem ok_ixor {x y r : Int} (hd : decode M.2.1 pc = .ok (.ixor, 1)) (hq : pc + 1 = q) (hr : (Int32.ofInt x ^^^ Int32.ofInt y).toInt = r) (k : G → Ok η l M Q q ls (qi r :: st) n K I F c z) : G → Ok η l M Q pc ls (qi y :: qi x :: st) n K I F c z := by
  subst hq; subst hr
  exact ok_go (fun p e s m args below meth cd H locs la hC hl okl oks => ⟨am_okc (am_okI (am_rgI _)) (am_okt (am_okt oks)), fun w => lv_ixor hC.1 hC.2.1 hd (by rw [← am_ofI (Int32.ofInt x ^^^ Int32.ofInt y)]; exact w)⟩) k
theorem ok_ishl {x y r : Int} (hd : decode M.2.1 pc = .ok (.ishl, 1)) (hq : pc + 1 = q) (hr : (Int32.ofInt x <<< (Int32.ofInt y &&& 31)).toInt = r) (k : G → Ok η l M Q q ls (qi r :: st) n K I F c z) : G → Ok η l M Q pc ls (qi y :: qi x :: st) n K I F c z := by
  subst hq; subst hr
  exact ok_go (fun p e s m args below meth cd H locs la hC hl okl oks => ⟨am_okc (am_okI (am_rgI _)) (am_okt (am_okt oks)), fun w => lv_ishl hC.1 hC.2.1 hd (by rw [← am_ofI (Int32.ofInt x <<< (Int32.ofInt y &&& 31))]; exact w)⟩) k
theorem ok_ishr {x y r : Int} (hd : decode M.2.1 pc = .ok (.ishr, 1)) (hq : pc + 1 = q) (hr : (Int32.ofInt x >>> (Int32.ofInt y &&& 31)).toInt = r) (k : G → Ok η l M Q q ls (qi r :: st) n K I F c z) : G → Ok η l M Q pc ls (qi y :: qi x :: st) n K I F c z := by
  subst hq; subst hr
  exact ok_go (fun p e s m args below meth cd H locs la hC hl okl oks => ⟨am_okc (am_okI (am_rgI _)) (am_okt (am_okt oks)), fun w => lv_ishr hC.1 hC.2.1 hd (by rw [← am_ofI (Int32.ofInt x >>> (Int32.ofInt y &&& 31))]; exact w)⟩) k
theorem ok_land {x y r : Int} (hd : decode M.2.1 pc = .ok (.land, 1)) (hq : pc + 1 = q) (hr : (Int64.ofInt x &&& Int64.ofInt y).toInt = r) (k : G → Ok η l M Q q ls (ql r :: st) n K I F c z) : G → Ok η l M Q pc ls (ql y :: ql x :: st) n K I F c z := by
  subst hq; subst hr
  exact ok_go (fun p e s m args below meth cd H locs la hC hl okl oks => ⟨am_okc (am_okL (am_rgL _)) (am_okt (am_okt oks)), fun w => lv_land hC.1 hC.2.1 hd (by rw [← am_ofL (Int64.ofInt x &&& Int64.ofInt y)]; exact w)⟩) k
theorem ok_lor {x y r : Int} (hd : decode M.2.1 pc = .ok (.lor, 1)) (hq : pc + 1 = q) (hr : (Int64.ofInt x ||| Int64.ofInt y).toInt = r) (k : G → Ok η l M Q q ls (ql r :: st) n K I F c z) : G → Ok η l M Q pc ls (ql y :: ql x :: st) n K I F c z := by
  subst hq; subst hr
  exact ok_go (fun p e s m args below meth cd H locs la hC hl okl oks => ⟨am_okc (am_okL (am_rgL _)) (am_okt (am_okt oks)), fun w => lv_lor hC.1 hC.2.1 hd (by rw [← am_ofL (Int64.ofInt x ||| Int64.ofInt y)]; exact w)⟩) k
theorem ok_lxor {x y r : Int} (hd : decode M.2.1 pc = .ok (.lxor, 1)) (hq : pc + 1 = q) (hr : (Int64.ofInt x ^^^ Int64.ofInt y).toInt = r) (k : G → Ok η l M Q q ls (ql r :: st) n K I F c z) : G → Ok η l M Q pc ls (ql y :: ql x :: st) n K I F c z := by
  subst hq; subst hr
  exact ok_go (fun p e s m args below meth cd H locs la hC hl okl oks => ⟨am_okc (am_okL (am_rgL _)) (am_okt (am_okt oks)), fun w => lv_lxor hC.1 hC.2.1 hd (by rw [← am_ofL (Int64.ofInt x ^^^ Int64.ofInt y)]; exact w)⟩) k
theorem ok_lshl {x y r : Int} (hd : decode M.2.1 pc = .ok (.lshl, 1)) (hq : pc + 1 = q) (hr : (Int64.ofInt x <<< ((Int32.ofInt y).toInt64 &&& 63)).toInt = r) (k : G → Ok η l M Q q ls (ql r :: st) n K I F c z) : G → Ok η l M Q pc ls (qi y :: ql x :: st) n K I F c z := by
  subst hq; subst hr
  exact ok_go (fun p e s m args below meth cd H locs la hC hl okl oks => ⟨am_okc (am_okL (am_rgL _)) (am_okt (am_okt oks)), fun w => lv_lshl hC.1 hC.2.1 hd (am_ofL _).symm w⟩) k
theorem ok_lshr {x y r : Int} (hd : decode M.2.1 pc = .ok (.lshr, 1)) (hq : pc + 1 = q) (hr : (Int64.ofInt x >>> ((Int32.ofInt y).toInt64 &&& 63)).toInt = r) (k : G → Ok η l M Q q ls (ql r :: st) n K I F c z) : G → Ok η l M Q pc ls (qi y :: ql x :: st) n K I F c z := by
  subst hq; subst hr
  exact ok_go (fun p e s m args below meth cd H locs la hC hl okl oks => ⟨am_okc (am_okL (am_rgL _)) (am_okt (am_okt oks)), fun w => lv_lshr hC.1 hC.2.1 hd (am_ofL _).symm w⟩) k
theorem ok_lushr {x y r : Int} (hd : decode M.2.1 pc = .ok (.lushr, 1)) (hq : pc + 1 = q) (hr : (((Int64.ofInt x).toUInt64 >>> ((Int32.ofInt y).toInt64.toUInt64 &&& Int64.toUInt64 63)).toInt64).toInt = r) (k : G → Ok η l M Q q ls (ql r :: st) n K I F c z) : G → Ok η l M Q pc ls (qi y :: ql x :: st) n K I F c z := by
  subst hq; subst hr
  exact ok_go (fun p e s m args below meth cd H locs la hC hl okl oks => ⟨am_okc (am_okL (am_rgL _)) (am_okt (am_okt oks)), fun w => lv_lushr hC.1 hC.2.1 hd (am_ofL _).symm w⟩) k
theorem ok_idiv {x y r : Int} (hd : decode M.2.1 pc = .ok (.idiv, 1)) (hq : pc + 1 = q) (hy : y ≠ 0) (hr : (Int32.ofInt x / Int32.ofInt y).toInt = r) (k : G → Ok η l M Q q ls (qi r :: st) n K I F c z) : G → Ok η l M Q pc ls (qi y :: qi x :: st) n K I F c z := by
  subst hq; subst hr
  exact ok_go (fun p e s m args below meth cd H locs la hC hl okl oks => ⟨am_okc (am_okI (am_rgI _)) (am_okt (am_okt oks)), fun w => lv_idiv hC.1 hC.2.1 hd (fun h => hy ((am_eI (am_okh oks) (by decide)).mp h)) (by rw [← am_ofI (Int32.ofInt x / Int32.ofInt y)]; exact w)⟩) k
theorem ok_irem {x y r : Int} (hd : decode M.2.1 pc = .ok (.irem, 1)) (hq : pc + 1 = q) (hy : y ≠ 0) (hr : (Int32.ofInt x - Int32.ofInt x / Int32.ofInt y * Int32.ofInt y).toInt = r) (k : G → Ok η l M Q q ls (qi r :: st) n K I F c z) : G → Ok η l M Q pc ls (qi y :: qi x :: st) n K I F c z := by
  subst hq; subst hr
  exact ok_go (fun p e s m args below meth cd H locs la hC hl okl oks => ⟨am_okc (am_okI (am_rgI _)) (am_okt (am_okt oks)), fun w => lv_irem hC.1 hC.2.1 hd (fun h => hy ((am_eI (am_okh oks) (by decide)).mp h)) (by rw [← am_ofI (Int32.ofInt x - Int32.ofInt x / Int32.ofInt y * Int32.ofInt y)]; exact w)⟩) k
theorem ok_ldiv {x y r : Int} (hd : decode M.2.1 pc = .ok (.ldiv, 1)) (hq : pc + 1 = q) (hy : y ≠ 0) (hr : (Int64.ofInt x / Int64.ofInt y).toInt = r) (k : G → Ok η l M Q q ls (ql r :: st) n K I F c z) : G → Ok η l M Q pc ls (ql y :: ql x :: st) n K I F c z := by
  subst hq; subst hr
  exact ok_go (fun p e s m args below meth cd H locs la hC hl okl oks => ⟨am_okc (am_okL (am_rgL _)) (am_okt (am_okt oks)), fun w => lv_ldiv hC.1 hC.2.1 hd (fun h => hy ((am_eL (am_okh oks) (by decide)).mp h)) (by rw [← am_ofL (Int64.ofInt x / Int64.ofInt y)]; exact w)⟩) k
theorem ok_lrem {x y r : Int} (hd : decode M.2.1 pc = .ok (.lrem, 1)) (hq : pc + 1 = q) (hy : y ≠ 0) (hr : (Int64.ofInt x - Int64.ofInt x / Int64.ofInt y * Int64.ofInt y).toInt = r) (k : G → Ok η l M Q q ls (ql r :: st) n K I F c z) : G → Ok η l M Q pc ls (ql y :: ql x :: st) n K I F c z := by
  subst hq; subst hr
  exact ok_go (fun p e s m args below meth cd H locs la hC hl okl oks => ⟨am_okc (am_okL (am_rgL _)) (am_okt (am_okt oks)), fun w => lv_lrem hC.1 hC.2.1 hd (fun h => hy ((am_eL (am_okh oks) (by decide)).mp h)) (by rw [← am_ofL (Int64.ofInt x - Int64.ofInt x / Int64.ofInt y * Int64.ofInt y)]; exact w)⟩) k
theorem ok_i2l {x : Int} (hd : decode M.2.1 pc = .ok (.i2l, 1)) (hq : pc + 1 = q) (k : G → Ok η l M Q q ls (ql x :: st) n K I F c z) : G → Ok η l M Q pc ls (qi x :: st) n K I F c z := by
  subst hq
  exact ok_go (fun p e s m args below meth cd H locs la hC hl okl oks => ⟨am_okc (v := ql x) (by have h := am_okh oks; simp only [am_ok] at h ⊢; omega) (am_okt oks), fun w => lv_i2l hC.1 hC.2.1 hd (by apply am_eqL; rw [Int32.toInt_toInt64, am_tIi (am_okh oks), am_tLi (by have h := am_okh oks; simp only [am_ok] at h; omega)]) w⟩) k
theorem ok_l2i {x : Int} (hd : decode M.2.1 pc = .ok (.l2i, 1)) (hq : pc + 1 = q) (hr : am_inI x) (k : G → Ok η l M Q q ls (qi x :: st) n K I F c z) : G → Ok η l M Q pc ls (ql x :: st) n K I F c z := by
  subst hq
  exact ok_go (fun p e s m args below meth cd H locs la hC hl okl oks => ⟨am_okc (v := qi x) hr (am_okt oks), fun w => lv_l2i hC.1 hC.2.1 hd (by apply am_eqI; rw [Int64.toInt_toInt32, am_tIi hr, am_tLi (am_okh oks), show (2 ^ 32 : Nat) = 4294967296 from rfl, am_bmodI, am_wI_id hr]) w⟩) k
theorem ok_l2iW {x : Int} (hd : decode M.2.1 pc = .ok (.l2i, 1)) (hq : pc + 1 = q) (k : G → Ok η l M Q q ls (qi (am_wI x) :: st) n K I F c z) : G → Ok η l M Q pc ls (ql x :: st) n K I F c z := by
  subst hq
  exact ok_go (fun p e s m args below meth cd H locs la hC hl okl oks => ⟨am_okc (v := qi (am_wI x)) (am_wI_in x) (am_okt oks), fun w => lv_l2i hC.1 hC.2.1 hd (by apply am_eqI; rw [Int64.toInt_toInt32, am_tIi (am_wI_in x), am_tLi (am_okh oks), show (2 ^ 32 : Nat) = 4294967296 from rfl, am_bmodI]) w⟩) k
def am_cmp (x y : Int) : Int := if y < x then 1 else if x = y then 0 else -1
theorem am_cmpL {x y : Int} (hx : am_inL x) (hy : am_inL y) : lg_cmp (Int64.ofInt x) (Int64.ofInt y) = Int32.ofInt (am_cmp x y) := by
  unfold lg_cmp am_cmp
  have e1 := am_ltL hy hx
  have e2 := am_eL hx hy
  by_cases h1 : y < x
  · simp [h1, e1.mpr h1]
  · by_cases h2 : x = y
    · subst h2; simp
    · have h3 : ¬ Int64.ofInt y < Int64.ofInt x := fun w => h1 (e1.mp w)
      have h4 : ¬ Int64.ofInt x = Int64.ofInt y := fun w => h2 (e2.mp w)
      simp [h1, h2, h3, h4]
theorem am_cmp_in (x y : Int) : am_inI (am_cmp x y) := by
  unfold am_cmp
  by_cases h1 : y < x
  · rw [if_pos h1]; decide
  · rw [if_neg h1]
    by_cases h2 : x = y
    · rw [if_pos h2]; decide
    · rw [if_neg h2]; decide
theorem ok_lcmp {x y : Int} (hd : decode M.2.1 pc = .ok (.lcmp, 1)) (hq : pc + 1 = q) (k : G → Ok η l M Q q ls (qi (am_cmp x y) :: st) n K I F c z) : G → Ok η l M Q pc ls (ql y :: ql x :: st) n K I F c z := by
  subst hq
  exact ok_go (fun p e s m args below meth cd H locs la hC hl okl oks => ⟨am_okc (am_okI (am_cmp_in x y)) (am_okt (am_okt oks)), fun w => W.lcmp hC.1 hC.2.1 hd (by rw [am_cmpL (am_okh (am_okt oks)) (am_okh oks)]; exact w)⟩) k
theorem ok_dup {v : am_V} (hd : decode M.2.1 pc = .ok (.dup, 1)) (hq : pc + 1 = q) (hv : am_cat v = 1) (k : G → Ok η l M Q q ls (v :: v :: st) n K I F c z) : G → Ok η l M Q pc ls (v :: st) n K I F c z := by
  subst hq
  exact ok_go (fun p e s m args below meth cd H locs la hC hl okl oks => ⟨am_okc (am_okh oks) oks, fun w => lv_dup hC.1 hC.2.1 hd ((am_cat_cv η v).trans hv) w⟩) k
theorem ok_pop {v : am_V} (hd : decode M.2.1 pc = .ok (.pop, 1)) (hq : pc + 1 = q) (hv : am_cat v = 1) (k : G → Ok η l M Q q ls (st) n K I F c z) : G → Ok η l M Q pc ls (v :: st) n K I F c z := by
  subst hq
  exact ok_go (fun p e s m args below meth cd H locs la hC hl okl oks => ⟨am_okt oks, fun w => lv_pop hC.1 hC.2.1 hd ((am_cat_cv η v).trans hv) w⟩) k
theorem ok_dup2 {v u : am_V} (hd : decode M.2.1 pc = .ok (.dup2, 1)) (hq : pc + 1 = q) (hv : am_cat v = 1) (hu : am_cat u = 1) (k : G → Ok η l M Q q ls (v :: u :: v :: u :: st) n K I F c z) : G → Ok η l M Q pc ls (v :: u :: st) n K I F c z := by
  subst hq
  exact ok_go (fun p e s m args below meth cd H locs la hC hl okl oks => ⟨am_okc (am_okh oks) (am_okc (am_okh (am_okt oks)) oks), fun w => lv_dup2_11 hC.1 hC.2.1 hd ((am_cat_cv η v).trans hv) ((am_cat_cv η u).trans hu) w⟩) k
theorem ok_dup_x1 {v u : am_V} (hd : decode M.2.1 pc = .ok (.dup_x1, 1)) (hq : pc + 1 = q) (hv : am_cat v = 1) (hu : am_cat u = 1) (k : G → Ok η l M Q q ls (v :: u :: v :: st) n K I F c z) : G → Ok η l M Q pc ls (v :: u :: st) n K I F c z := by
  subst hq
  exact ok_go (fun p e s m args below meth cd H locs la hC hl okl oks => ⟨am_okc (am_okh oks) (am_okc (am_okh (am_okt oks)) (am_okc (am_okh oks) (am_okt (am_okt oks)))), fun w => lv_dup_x1 hC.1 hC.2.1 hd ((am_cat_cv η v).trans hv) ((am_cat_cv η u).trans hu) w⟩) k
theorem ok_goto {off : Int} (hd : decode M.2.1 pc = .ok (.goto off, 3)) (hq : (pc : Int) + off = (q : Int)) (k : G → Ok η l M Q q ls (st) n K I F c z) : G → Ok η l M Q pc ls (st) n K I F c z := ok_go (fun p e s m args below meth cd H locs la hC hl okl oks => ⟨oks, fun w => lv_goto hC.1 hC.2.1 hd hq w⟩) k
theorem ok_icmp_eq {x y off : Int} {q2 : Nat} (hd : decode M.2.1 pc = .ok (.if_icmp .eq off, 3)) (hq : (pc : Int) + off = (q : Int)) (hq2 : pc + 3 = q2) (kt : (t1 = some r0) → Ok η l M Q q ls (st) n K I F c z) (kf : (t2 = some r0) → Ok η l M Q q2 ls (st) n K I F c z) : ((if x = y then t1 else t2) = some r0) → Ok η l M Q pc ls (qi y :: qi x :: st) n K I F c z := by
  subst hq2
  intro g p e s m args below meth cd H locs la hC hR hlo hl okl oks
  have hy := am_okh oks
  have hx := am_okh (am_okt oks)
  have e1 := am_eI hx hy
  refine lv_icmp_eq hC.1 hC.2.1 hd hq (fun h => ?_) (fun h => ?_)
  · have h1 := e1.mp h
    exact kt (by rw [if_pos h1] at g; exact g) p e s m args below meth cd H locs la hC hR hlo hl okl (am_okt (am_okt oks))
  · have h1 : ¬ (x = y) := fun w => h (e1.mpr w)
    exact kf (by rw [if_neg h1] at g; exact g) p e s m args below meth cd H locs la hC hR hlo hl okl (am_okt (am_okt oks))
theorem ok_if_eq {x off : Int} {q2 : Nat} (hd : decode M.2.1 pc = .ok (.ifCond .eq off, 3)) (hq : (pc : Int) + off = (q : Int)) (hq2 : pc + 3 = q2) (kt : (t1 = some r0) → Ok η l M Q q ls (st) n K I F c z) (kf : (t2 = some r0) → Ok η l M Q q2 ls (st) n K I F c z) : ((if x = 0 then t1 else t2) = some r0) → Ok η l M Q pc ls (qi x :: st) n K I F c z := by
  subst hq2
  intro g p e s m args below meth cd H locs la hC hR hlo hl okl oks
  have hx := am_okh oks
  have hy : am_inI 0 := by decide
  have e1 := am_eI hx hy
  refine lv_if_eq hC.1 hC.2.1 hd hq (fun h => ?_) (fun h => ?_)
  · have h1 := e1.mp h
    exact kt (by rw [if_pos h1] at g; exact g) p e s m args below meth cd H locs la hC hR hlo hl okl (am_okt oks)
  · have h1 : ¬ (x = 0) := fun w => h (e1.mpr w)
    exact kf (by rw [if_neg h1] at g; exact g) p e s m args below meth cd H locs la hC hR hlo hl okl (am_okt oks)
theorem ok_icmp_ne {x y off : Int} {q2 : Nat} (hd : decode M.2.1 pc = .ok (.if_icmp .ne off, 3)) (hq : (pc : Int) + off = (q : Int)) (hq2 : pc + 3 = q2) (kt : (t1 = some r0) → Ok η l M Q q ls (st) n K I F c z) (kf : (t2 = some r0) → Ok η l M Q q2 ls (st) n K I F c z) : ((if x = y then t2 else t1) = some r0) → Ok η l M Q pc ls (qi y :: qi x :: st) n K I F c z := by
  subst hq2
  intro g p e s m args below meth cd H locs la hC hR hlo hl okl oks
  have hy := am_okh oks
  have hx := am_okh (am_okt oks)
  have e1 := not_congr (am_eI hx hy)
  refine lv_icmp_ne hC.1 hC.2.1 hd hq (fun h => ?_) (fun h => ?_)
  · have h1 := e1.mp h
    exact kt (by rw [if_neg (by omega)] at g; exact g) p e s m args below meth cd H locs la hC hR hlo hl okl (am_okt (am_okt oks))
  · have h1 := (am_eI hx hy).mp h
    exact kf (by rw [if_pos (by omega)] at g; exact g) p e s m args below meth cd H locs la hC hR hlo hl okl (am_okt (am_okt oks))
theorem ok_if_ne {x off : Int} {q2 : Nat} (hd : decode M.2.1 pc = .ok (.ifCond .ne off, 3)) (hq : (pc : Int) + off = (q : Int)) (hq2 : pc + 3 = q2) (kt : (t1 = some r0) → Ok η l M Q q ls (st) n K I F c z) (kf : (t2 = some r0) → Ok η l M Q q2 ls (st) n K I F c z) : ((if x = 0 then t2 else t1) = some r0) → Ok η l M Q pc ls (qi x :: st) n K I F c z := by
  subst hq2
  intro g p e s m args below meth cd H locs la hC hR hlo hl okl oks
  have hx := am_okh oks
  have hy : am_inI 0 := by decide
  have e1 := not_congr (am_eI hx hy)
  refine lv_if_ne hC.1 hC.2.1 hd hq (fun h => ?_) (fun h => ?_)
  · have h1 := e1.mp h
    exact kt (by rw [if_neg (by omega)] at g; exact g) p e s m args below meth cd H locs la hC hR hlo hl okl (am_okt oks)
  · have h1 := (am_eI hx hy).mp h
    exact kf (by rw [if_pos (by omega)] at g; exact g) p e s m args below meth cd H locs la hC hR hlo hl okl (am_okt oks)
theorem ok_icmp_lt {x y off : Int} {q2 : Nat} (hd : decode M.2.1 pc = .ok (.if_icmp .lt off, 3)) (hq : (pc : Int) + off = (q : Int)) (hq2 : pc + 3 = q2) (kt : (t1 = some r0) → Ok η l M Q q ls (st) n K I F c z) (kf : (t2 = some r0) → Ok η l M Q q2 ls (st) n K I F c z) : ((if y ≤ x then t2 else t1) = some r0) → Ok η l M Q pc ls (qi y :: qi x :: st) n K I F c z := by
  subst hq2
  intro g p e s m args below meth cd H locs la hC hR hlo hl okl oks
  have hy := am_okh oks
  have hx := am_okh (am_okt oks)
  have e1 := am_ltI hx hy
  refine lv_icmp_lt hC.1 hC.2.1 hd hq (fun h => ?_) (fun h => ?_)
  · have h1 := e1.mp h
    exact kt (by rw [if_neg (by omega)] at g; exact g) p e s m args below meth cd H locs la hC hR hlo hl okl (am_okt (am_okt oks))
  · have h1 : ¬ (x < y) := fun w => h (e1.mpr w)
    exact kf (by rw [if_pos (by omega)] at g; exact g) p e s m args below meth cd H locs la hC hR hlo hl okl (am_okt (am_okt oks))
theorem ok_if_lt {x off : Int} {q2 : Nat} (hd : decode M.2.1 pc = .ok (.ifCond .lt off, 3)) (hq : (pc : Int) + off = (q : Int)) (hq2 : pc + 3 = q2) (kt : (t1 = some r0) → Ok η l M Q q ls (st) n K I F c z) (kf : (t2 = some r0) → Ok η l M Q q2 ls (st) n K I F c z) : ((if 0 ≤ x then t2 else t1) = some r0) → Ok η l M Q pc ls (qi x :: st) n K I F c z := by
  subst hq2
  intro g p e s m args below meth cd H locs la hC hR hlo hl okl oks
  have hx := am_okh oks
  have hy : am_inI 0 := by decide
  have e1 := am_ltI hx hy
  refine lv_if_lt hC.1 hC.2.1 hd hq (fun h => ?_) (fun h => ?_)
  · have h1 := e1.mp h
    exact kt (by rw [if_neg (by omega)] at g; exact g) p e s m args below meth cd H locs la hC hR hlo hl okl (am_okt oks)
  · have h1 : ¬ (x < 0) := fun w => h (e1.mpr w)
    exact kf (by rw [if_pos (by omega)] at g; exact g) p e s m args below meth cd H locs la hC hR hlo hl okl (am_okt oks)
theorem ok_icmp_ge {x y off : Int} {q2 : Nat} (hd : decode M.2.1 pc = .ok (.if_icmp .ge off, 3)) (hq : (pc : Int) + off = (q : Int)) (hq2 : pc + 3 = q2) (kt : (t1 = some r0) → Ok η l M Q q ls (st) n K I F c z) (kf : (t2 = some r0) → Ok η l M Q q2 ls (st) n K I F c z) : ((if x < y then t2 else t1) = some r0) → Ok η l M Q pc ls (qi y :: qi x :: st) n K I F c z := by
  subst hq2
  intro g p e s m args below meth cd H locs la hC hR hlo hl okl oks
  have hy := am_okh oks
  have hx := am_okh (am_okt oks)
  have e1 := am_leI hy hx
  refine lv_icmp_ge hC.1 hC.2.1 hd hq (fun h => ?_) (fun h => ?_)
  · have h1 := e1.mp h
    exact kt (by rw [if_neg (by omega)] at g; exact g) p e s m args below meth cd H locs la hC hR hlo hl okl (am_okt (am_okt oks))
  · have h1 : ¬ (y ≤ x) := fun w => h (e1.mpr w)
    exact kf (by rw [if_pos (by omega)] at g; exact g) p e s m args below meth cd H locs la hC hR hlo hl okl (am_okt (am_okt oks))
theorem ok_if_ge {x off : Int} {q2 : Nat} (hd : decode M.2.1 pc = .ok (.ifCond .ge off, 3)) (hq : (pc : Int) + off = (q : Int)) (hq2 : pc + 3 = q2) (kt : (t1 = some r0) → Ok η l M Q q ls (st) n K I F c z) (kf : (t2 = some r0) → Ok η l M Q q2 ls (st) n K I F c z) : ((if x < 0 then t2 else t1) = some r0) → Ok η l M Q pc ls (qi x :: st) n K I F c z := by
  subst hq2
  intro g p e s m args below meth cd H locs la hC hR hlo hl okl oks
  have hx := am_okh oks
  have hy : am_inI 0 := by decide
  have e1 := am_leI hy hx
  refine lv_if_ge hC.1 hC.2.1 hd hq (fun h => ?_) (fun h => ?_)
  · have h1 := e1.mp h
    exact kt (by rw [if_neg (by omega)] at g; exact g) p e s m args below meth cd H locs la hC hR hlo hl okl (am_okt oks)
  · have h1 : ¬ (0 ≤ x) := fun w => h (e1.mpr w)
    exact kf (by rw [if_pos (by omega)] at g; exact g) p e s m args below meth cd H locs la hC hR hlo hl okl (am_okt oks)
theorem ok_icmp_gt {x y off : Int} {q2 : Nat} (hd : decode M.2.1 pc = .ok (.if_icmp .gt off, 3)) (hq : (pc : Int) + off = (q : Int)) (hq2 : pc + 3 = q2) (kt : (t1 = some r0) → Ok η l M Q q ls (st) n K I F c z) (kf : (t2 = some r0) → Ok η l M Q q2 ls (st) n K I F c z) : ((if x ≤ y then t2 else t1) = some r0) → Ok η l M Q pc ls (qi y :: qi x :: st) n K I F c z := by
  subst hq2
  intro g p e s m args below meth cd H locs la hC hR hlo hl okl oks
  have hy := am_okh oks
  have hx := am_okh (am_okt oks)
  have e1 := am_ltI hy hx
  refine lv_icmp_gt hC.1 hC.2.1 hd hq (fun h => ?_) (fun h => ?_)
  · have h1 := e1.mp h
    exact kt (by rw [if_neg (by omega)] at g; exact g) p e s m args below meth cd H locs la hC hR hlo hl okl (am_okt (am_okt oks))
  · have h1 : ¬ (y < x) := fun w => h (e1.mpr w)
    exact kf (by rw [if_pos (by omega)] at g; exact g) p e s m args below meth cd H locs la hC hR hlo hl okl (am_okt (am_okt oks))
theorem ok_if_gt {x off : Int} {q2 : Nat} (hd : decode M.2.1 pc = .ok (.ifCond .gt off, 3)) (hq : (pc : Int) + off = (q : Int)) (hq2 : pc + 3 = q2) (kt : (t1 = some r0) → Ok η l M Q q ls (st) n K I F c z) (kf : (t2 = some r0) → Ok η l M Q q2 ls (st) n K I F c z) : ((if x ≤ 0 then t2 else t1) = some r0) → Ok η l M Q pc ls (qi x :: st) n K I F c z := by
  subst hq2
  intro g p e s m args below meth cd H locs la hC hR hlo hl okl oks
  have hx := am_okh oks
  have hy : am_inI 0 := by decide
  have e1 := am_ltI hy hx
  refine lv_if_gt hC.1 hC.2.1 hd hq (fun h => ?_) (fun h => ?_)
  · have h1 := e1.mp h
    exact kt (by rw [if_neg (by omega)] at g; exact g) p e s m args below meth cd H locs la hC hR hlo hl okl (am_okt oks)
  · have h1 : ¬ (0 < x) := fun w => h (e1.mpr w)
    exact kf (by rw [if_pos (by omega)] at g; exact g) p e s m args below meth cd H locs la hC hR hlo hl okl (am_okt oks)
theorem ok_icmp_le {x y off : Int} {q2 : Nat} (hd : decode M.2.1 pc = .ok (.if_icmp .le off, 3)) (hq : (pc : Int) + off = (q : Int)) (hq2 : pc + 3 = q2) (kt : (t1 = some r0) → Ok η l M Q q ls (st) n K I F c z) (kf : (t2 = some r0) → Ok η l M Q q2 ls (st) n K I F c z) : ((if y < x then t2 else t1) = some r0) → Ok η l M Q pc ls (qi y :: qi x :: st) n K I F c z := by
  subst hq2
  intro g p e s m args below meth cd H locs la hC hR hlo hl okl oks
  have hy := am_okh oks
  have hx := am_okh (am_okt oks)
  have e1 := am_leI hx hy
  refine lv_icmp_le hC.1 hC.2.1 hd hq (fun h => ?_) (fun h => ?_)
  · have h1 := e1.mp h
    exact kt (by rw [if_neg (by omega)] at g; exact g) p e s m args below meth cd H locs la hC hR hlo hl okl (am_okt (am_okt oks))
  · have h1 : ¬ (x ≤ y) := fun w => h (e1.mpr w)
    exact kf (by rw [if_pos (by omega)] at g; exact g) p e s m args below meth cd H locs la hC hR hlo hl okl (am_okt (am_okt oks))
theorem ok_if_le {x off : Int} {q2 : Nat} (hd : decode M.2.1 pc = .ok (.ifCond .le off, 3)) (hq : (pc : Int) + off = (q : Int)) (hq2 : pc + 3 = q2) (kt : (t1 = some r0) → Ok η l M Q q ls (st) n K I F c z) (kf : (t2 = some r0) → Ok η l M Q q2 ls (st) n K I F c z) : ((if 0 < x then t2 else t1) = some r0) → Ok η l M Q pc ls (qi x :: st) n K I F c z := by
  subst hq2
  intro g p e s m args below meth cd H locs la hC hR hlo hl okl oks
  have hx := am_okh oks
  have hy : am_inI 0 := by decide
  have e1 := am_leI hx hy
  refine lv_if_le hC.1 hC.2.1 hd hq (fun h => ?_) (fun h => ?_)
  · have h1 := e1.mp h
    exact kt (by rw [if_neg (by omega)] at g; exact g) p e s m args below meth cd H locs la hC hR hlo hl okl (am_okt oks)
  · have h1 : ¬ (x ≤ 0) := fun w => h (e1.mpr w)
    exact kf (by rw [if_pos (by omega)] at g; exact g) p e s m args below meth cd H locs la hC hR hlo hl okl (am_okt oks)
theorem ok_table_out {x dflt lo hi : Int} {offs : Array Int} {len : Nat} (hd : decode M.2.1 pc = .ok (.tableswitch dflt lo hi offs, len)) (h : x < lo ∨ hi < x) (hq : (pc : Int) + dflt = (q : Int)) (k : G → Ok η l M Q q ls (st) n K I F c z) : G → Ok η l M Q pc ls (qi x :: st) n K I F c z := ok_go (fun p e s m args below meth cd H locs la hC hl okl oks => ⟨am_okt oks, fun w => lv_tableOut hC.1 hC.2.1 hd (by rw [am_tIi (am_okh oks)]; exact h) hq w⟩) k
theorem ok_table_in {x dflt lo hi off : Int} {offs : Array Int} {len : Nat} (hd : decode M.2.1 pc = .ok (.tableswitch dflt lo hi offs, len)) (h1 : lo ≤ x) (h2 : x ≤ hi) (ho : offs[(x - lo).toNat]? = some off) (hq : (pc : Int) + off = (q : Int)) (k : G → Ok η l M Q q ls (st) n K I F c z) : G → Ok η l M Q pc ls (qi x :: st) n K I F c z := ok_go (fun p e s m args below meth cd H locs la hC hl okl oks => ⟨am_okt oks, fun w => lv_tableIn hC.1 hC.2.1 hd (by rw [am_tIi (am_okh oks)]; omega) (by rw [am_tIi (am_okh oks)]; omega) (by rw [am_tIi (am_okh oks)]; exact ho) hq w⟩) k
theorem fi_chk {C : Prop} [Decidable C] {X : Prop} (k : C → t = some r0 → X) : (if C then t else none) = some r0 → X := by
  intro g
  by_cases h : C
  · rw [if_pos h] at g; exact k h g
  · rw [if_neg h] at g; cases g
theorem fi_none {X : Prop} : (none : Option ρ) = some r0 → X := fun h => by cases h
theorem ok_istore_nL {i : Fin 4} {i' : Nat} {x : Int} {f : Int → Option ρ} (ls' : Int → am_L) (hd : decode M.2.1 pc = .ok (.istore_n i, 1)) (hq : pc + 1 = q) (hi : (i : Nat) = i') (hn : i' < M.2.2.1) (hl' : ∀ y, (i', qi y) :: am_f1 i' ls = ls' y) (k : ∀ y, f y = some r0 → Ok η l M Q q (ls' y) st n K I F c z) : am_lt x f = some r0 → Ok η l M Q pc ls (qi x :: st) n K I F c z := fun g => ok_istore_n hd hq hi hn (hl' x) (fun _ => k x g) trivial
theorem ok_lstore_nL {i : Fin 4} {i' : Nat} {x : Int} {f : Int → Option ρ} (ls' : Int → am_L) (hd : decode M.2.1 pc = .ok (.lstore_n i, 1)) (hq : pc + 1 = q) (hi : (i : Nat) = i') (hn : i' + 1 < M.2.2.1) (hl' : ∀ y, (i', ql y) :: am_f2 i' ls = ls' y) (k : ∀ y, f y = some r0 → Ok η l M Q q (ls' y) st n K I F c z) : am_lt x f = some r0 → Ok η l M Q pc ls (ql x :: st) n K I F c z := fun g => ok_lstore_n hd hq hi hn (hl' x) (fun _ => k x g) trivial
theorem ok_astore_nL {i : Fin 4} {i' : Nat} {x : Nat} {f : Nat → Option ρ} (ls' : Nat → am_L) (hd : decode M.2.1 pc = .ok (.astore_n i, 1)) (hq : pc + 1 = q) (hi : (i : Nat) = i') (hn : i' < M.2.2.1) (hl' : ∀ y, (i', qr y) :: am_f1 i' ls = ls' y) (k : ∀ y, f y = some r0 → Ok η l M Q q (ls' y) st n K I F c z) : am_lt x f = some r0 → Ok η l M Q pc ls (qr x :: st) n K I F c z := fun g => ok_astore_n hd hq hi hn (hl' x) (fun _ => k x g) trivial
theorem ok_istoreL {i' : Nat} {x : Int} {f : Int → Option ρ} (ls' : Int → am_L) (hd : decode M.2.1 pc = .ok (.istore i', 2)) (hq : pc + 2 = q) (hn : i' < M.2.2.1) (hl' : ∀ y, (i', qi y) :: am_f1 i' ls = ls' y) (k : ∀ y, f y = some r0 → Ok η l M Q q (ls' y) st n K I F c z) : am_lt x f = some r0 → Ok η l M Q pc ls (qi x :: st) n K I F c z := fun g => ok_istore hd hq hn (hl' x) (fun _ => k x g) trivial
theorem ok_lstoreL {i' : Nat} {x : Int} {f : Int → Option ρ} (ls' : Int → am_L) (hd : decode M.2.1 pc = .ok (.lstore i', 2)) (hq : pc + 2 = q) (hn : i' + 1 < M.2.2.1) (hl' : ∀ y, (i', ql y) :: am_f2 i' ls = ls' y) (k : ∀ y, f y = some r0 → Ok η l M Q q (ls' y) st n K I F c z) : am_lt x f = some r0 → Ok η l M Q pc ls (ql x :: st) n K I F c z := fun g => ok_lstore hd hq hn (hl' x) (fun _ => k x g) trivial
theorem ok_astoreL {i' : Nat} {x : Nat} {f : Nat → Option ρ} (ls' : Nat → am_L) (hd : decode M.2.1 pc = .ok (.astore i', 2)) (hq : pc + 2 = q) (hn : i' < M.2.2.1) (hl' : ∀ y, (i', qr y) :: am_f1 i' ls = ls' y) (k : ∀ y, f y = some r0 → Ok η l M Q q (ls' y) st n K I F c z) : am_lt x f = some r0 → Ok η l M Q pc ls (qr x :: st) n K I F c z := fun g => ok_astore hd hq hn (hl' x) (fun _ => k x g) trivial
theorem ok_iincL {i : Nat} {d x : Int} {f : Int → Option ρ} (ls' : Int → am_L) (j : Nat) (hd : decode M.2.1 pc = .ok (.iinc i d, 3)) (hq : pc + 3 = q) (hj : ls[j]? = some (i, qi x)) (hx : am_inI (x + d)) (hn : i < M.2.2.1) (hl' : ∀ y, (i, qi y) :: am_f1 i ls = ls' y) (k : ∀ y, f y = some r0 → Ok η l M Q q (ls' y) st n K I F c z) : am_lt (x + d) f = some r0 → Ok η l M Q pc ls st n K I F c z := fun g => ok_iinc j hd hq hj hx hn (hl' (x + d)) (fun _ => k (x + d) g) trivial
theorem fi_eqd {x y : Int} {X : Prop} (kt : x = y → t1 = some r0 → X) (kf : x ≠ y → t2 = some r0 → X) : (if x = y then t1 else t2) = some r0 → X := by
  intro g
  by_cases h : x = y
  · rw [if_pos h] at g; exact kt h g
  · rw [if_neg h] at g; exact kf h g
theorem ok_ldc_w {x : Int} {idx : Nat} {v : Int32} (hd : decode M.2.1 pc = .ok (.ldc_w idx, 3)) (hq : pc + 3 = q) (hw : Cond.constant M.1 idx v ∈ am_gw) (hx : v = Int32.ofInt x) (hr : am_inI x) (k : G → Ok η l M Q q ls (qi x :: st) n K I F c z) : G → Ok η l M Q pc ls (st) n K I F c z := by
  subst hq; subst hx
  exact ok_go (fun p e s m args below meth cd H locs la hC hl okl oks => ⟨am_okc (am_okI hr) oks, fun w => lv_ldcw hC.1 hC.2.1 hC.2.2.2.2.1 (hC.2.2.2.2.2.1 _ hw) hd w⟩) k
end OKA
