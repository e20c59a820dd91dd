-- CONTRACTS AND CALLS
abbrev am_P : Type := Option am_V → Nat → am_K → am_I → am_F → Prop
def am_Q (η : am_E) (post : am_P) : Array Value → State → Outcome → State → Prop := fun _ _ o t =>
  ∃ (v : Option am_V) (n : Nat) (K : am_K) (I : am_I) (F : am_F), o = .returned (v.map (am_cv η)) ∧ post v n K I F ∧ (∀ x, v = some x → am_ok x) ∧ am_R η t n K I F t.heap
def am_qm (η : am_E) (post : am_P) (mc ms : Nat) : am_QM := fun below args s => MQ below (am_Q η post) args s mc ms (fun q => η.2.2.1 + 1 ≤ q)
def am_room (d lc mc ms : Nat) : Room := { frames := d, cells := mc, slots := ms, locals := lc }
/-- y's contract at these arguments and this memory: it ends with 'post', making at most mc cells of ms slots; calls d deep -/
def am_Ct (η : am_E) (l : Launch) (y : MethodName) (code : ByteArray) (maxL : Nat) (rt : Option FieldType) (d lc mc ms : Nat) (as : List am_V) (n : Nat) (K : am_K) (I : am_I) (F : am_F) (post : am_P) : Prop :=
  (∀ v ∈ as, am_ok v) → Met l y (.code y code maxL rt :: am_gw) (am_room d lc mc ms) (va_Pc (as.map (am_cv η)) (fun U => (va_K η.1 vwCl (am_tys η) U ∧ am_AO U) ∧ am_R η U n K I F U.heap)) (am_Q η post) mc ms (fun q => η.2.2.1 + 1 ≤ q)
def am_args : Nat → List am_V → am_L
  | _, [] => []
  | i, v :: vs => (i, v) :: am_args (if am_cat v = 2 then i + 2 else i + 1) vs
theorem am_args_lv (η : am_E) : ∀ (as : List am_V) (i : Nat), lv_args i (as.map (am_cv η)) = am_lm η (am_args i as)
  | [], _ => rfl
  | v :: vs, i => by
    show (i, am_cv η v) :: lv_args (if (am_cv η v).category = 2 then i + 2 else i + 1) (vs.map (am_cv η)) = (i, am_cv η v) :: am_lm η (am_args (if am_cat v = 2 then i + 2 else i + 1) vs)
    rw [am_cat_cv, am_args_lv η vs]
theorem am_args_ok : ∀ (as : List am_V) (i : Nat), (∀ v ∈ as, am_ok v) → ∀ q ∈ am_args i as, am_ok q.2
  | [], _, _, q, hq => by cases hq
  | v :: vs, i, h, q, hq => by
    rcases List.mem_cons.mp hq with rfl | hq
    · exact h v List.mem_cons_self
    · exact am_args_ok vs _ (fun w hw => h w (List.mem_cons_of_mem _ hw)) q hq
def am_words (as : List am_V) : Nat := (as.map am_cat).sum
theorem am_words_lg (η : am_E) : ∀ as : List am_V, (lg_sl (as.map (am_cv η))).length = am_words as
  | [] => rfl
  | v :: vs => by
    have ih := am_words_lg η vs
    unfold lg_sl am_words at *
    simp only [List.map_cons, List.flatMap_cons, List.length_append, List.sum_cons, ih]
    rw [am_cat_cv]
    match v with
    | .inl x => rfl
    | .inr (.inl x) => rfl
    | .inr (.inr x) => rfl
theorem am_Ct.of {η : am_E} {l : Launch} {y : MethodName} {code : ByteArray} {maxL : Nat} {rt : Option FieldType} {d lc mc ms : Nat} {as : List am_V} {n : Nat} {K : am_K} {I : am_I} {F : am_F} {post : am_P} (ini : Bool) (hy : plainName y.cls = true) (hi : ini = true → y.name = "<init>") (hL : am_words as ≤ maxL)
    (k : (∀ v ∈ as, am_ok v) → Ok η l (y.cls, code, maxL, rt, am_room d lc mc ms, ini) (am_qm η post mc ms) 0 (am_args 0 as) [] n K I F 0 0) : am_Ct η l y code maxL rt d lc mc ms as n K I F post := by
  intro hok
  refine Met.ofW (cc := code) (maxL := maxL) (ret := rt) hy rfl ?_
  intro p e s m args below meth c s₁ B hml hv
  obtain ⟨rfl, hK, hR⟩ := hv
  have hts := atoms_spec (ws := Cond.code y code maxL rt :: am_gw) B.pre
  rw [lg_entry_eq]
  have hl := lv_entry (as.map (am_cv η)) (n := maxL) (by rw [am_words_lg]; exact hL)
  rw [am_args_lv] at hl
  exact k hok p e s m _ below meth c s.heap [] _ ⟨B.exec, B.bytes, B.returns, hml, findClass_of_methodNamed B.named, fun w hw => hts w (List.mem_cons_of_mem _ hw), B.notSynchronized, fun h => (name_of_methodNamed B.named B.method).1.trans (hi h), hK⟩ hR (fun q hq => by cases hq) hl (am_args_ok as 0 hok) (fun v hv => by cases hv)
def am_rv (rk : Nat) (x : Int) : Option am_V := match rk with
  | 0 => none
  | 1 => some (qi x)
  | 2 => some (ql x)
  | _ => some (qr x.toNat)
/-- the answer and the ints behind; nothing else is changed -/
def am_pS (rk : Nat) (r : Int × am_I) (n : Nat) (K : am_K) (F : am_F) : am_P := fun v n' K' I' F' => v = am_rv rk r.1 ∧ n' = n ∧ K' = K ∧ I' = r.2 ∧ F' = F
abbrev am_A : Type := Int × Nat × am_K × am_I × am_F × Nat × Nat
def am_ac1 (r : am_A) : Nat := r.2.2.2.2.2.1
def am_az1 (r : am_A) : Nat := r.2.2.2.2.2.2
def am_pA (rk : Nat) (r : am_A) : am_P := fun v n' K' I' F' => v = am_rv rk r.1 ∧ n' = r.2.1 ∧ K' = r.2.2.1 ∧ I' = r.2.2.2.1 ∧ F' = r.2.2.2.2.1
def am_cl {ρ : Type} (x : Option (Int × am_I)) (t : Int → am_I → Option ρ) : Option ρ := match x with
  | none => none
  | some p => t p.1 p.2
def am_cq {ρ : Type} (x : Option Int) (t : Int → Option ρ) : Option ρ := match x with
  | none => none
  | some p => t p
def am_ca {ρ : Type} (x : Option am_A) (t : Int → Nat → am_K → am_I → am_F → Nat → Nat → Option ρ) : Option ρ := match x with
  | none => none
  | some p => t p.1 p.2.1 p.2.2.1 p.2.2.2.1 p.2.2.2.2.1 p.2.2.2.2.2.1 p.2.2.2.2.2.2
/-- so many cells and slots are made by now, and not more at the end -/
def am_mo (c z : Nat) (x : Option am_A) : Option am_A := match x with
  | none => none
  | some r => if c ≤ am_ac1 r ∧ z ≤ am_az1 r then some r else none
theorem fi_mo {c z : Nat} {x : Option am_A} {r : am_A} {X : Prop} (k : c ≤ am_ac1 r → z ≤ am_az1 r → x = some r → X) : am_mo c z x = some r → X := by
  intro g
  unfold am_mo at g
  cases x with
  | none => cases g
  | some p =>
    dsimp only at g
    by_cases h : c ≤ am_ac1 p ∧ z ≤ am_az1 p
    · rw [if_pos h] at g; cases g; exact k h.1 h.2 rfl
    · rw [if_neg h] at g; cases g
section OKC
variable {η : am_E} {l : Launch} {M : am_M} {Q : am_QM} {pc q : Nat} {ls : am_L} {st : List am_V} {n : Nat} {K : am_K} {I : am_I} {F : am_F} {c z : Nat} {post : am_P} {mc ms : Nat} {ρ : Type} {r0 : ρ} {rS : Int × am_I} {rA : am_A} {rP : Int}
theorem ok_ireturn {x : Int} (hd : decode M.2.1 pc = .ok (.ireturn, 1)) (hr : M.2.2.2.1 = some .int) (hc : c ≤ mc) (hz : z ≤ ms) (hp : post (some (qi x)) n K I F) : Ok η l M (am_qm η post mc ms) pc ls [qi x] n K I F c z := by
  intro p e s m args below meth cd H locs la hC hR hlo hl okl oks
  refine W.widen hc hz ?_
  exact W.iret hC.1 hC.2.1 (hC.2.2.1.trans hr) (fun t ht hW => ⟨some (qi x), n, K, I, F, rfl, hp, fun y hy => by cases hy; exact am_okh oks, by rw [ht]; exact hR.moved hW.alike⟩) hlo hd hC.2.2.2.2.2.2.1
theorem ok_zreturn {x : Int} (hd : decode M.2.1 pc = .ok (.ireturn, 1)) (hr : M.2.2.2.1 = some .boolean) (hx : x = 0 ∨ x = 1) (hc : c ≤ mc) (hz : z ≤ ms) (hp : post (some (qi x)) n K I F) : Ok η l M (am_qm η post mc ms) pc ls [qi x] n K I F c z := by
  intro p e s m args below meth cd H locs la hC hR hlo hl okl oks
  refine W.widen hc hz ?_
  exact W.zret hC.1 hC.2.1 (hC.2.2.1.trans hr) (by rcases hx with rfl | rfl <;> rfl) (fun t ht hW => ⟨some (qi x), n, K, I, F, rfl, hp, fun y hy => by cases hy; exact am_okh oks, by rw [ht]; exact hR.moved hW.alike⟩) hlo hd hC.2.2.2.2.2.2.1
theorem ok_lreturn {x : Int} (hd : decode M.2.1 pc = .ok (.lreturn, 1)) (hr : M.2.2.2.1 = some .long) (hc : c ≤ mc) (hz : z ≤ ms) (hp : post (some (ql x)) n K I F) : Ok η l M (am_qm η post mc ms) pc ls [ql x] n K I F c z := by
  intro p e s m args below meth cd H locs la hC hR hlo hl okl oks
  refine W.widen hc hz ?_
  exact W.lret hC.1 hC.2.1 (hC.2.2.1.trans hr) (fun t ht hW => ⟨some (ql x), n, K, I, F, rfl, hp, fun y hy => by cases hy; exact am_okh oks, by rw [ht]; exact hR.moved hW.alike⟩) hlo hd hC.2.2.2.2.2.2.1
theorem ok_return (hd : decode M.2.1 pc = .ok (.return_, 1)) (hr : M.2.2.2.1 = none) (hc : c ≤ mc) (hz : z ≤ ms) (hp : post none n K I F) : Ok η l M (am_qm η post mc ms) pc ls [] n K I F c z := by
  intro p e s m args below meth cd H locs la hC hR hlo hl okl oks
  refine W.widen hc hz ?_
  exact W.vret hC.1 hC.2.1 (hC.2.2.1.trans hr) (fun t ht hW => ⟨none, n, K, I, F, rfl, hp, (fun y hy => absurd hy (by intro h; cases h)), by rw [ht]; exact hR.moved hW.alike⟩) hlo hd hC.2.2.2.2.2.2.1
theorem ok_areturn {a : Nat} {ty : FieldType} (hd : decode M.2.1 pc = .ok (.areturn, 1)) (hr : M.2.2.2.1 = some ty) (hty : (∃ n, ty = .object n) ∨ ∃ t, ty = .array t) (hc : c ≤ mc) (hz : z ≤ ms) (hp : post (some (qr a)) n K I F) : Ok η l M (am_qm η post mc ms) pc ls [qr a] n K I F c z := by
  intro p e s m args below meth cd H locs la hC hR hlo hl okl oks
  refine W.widen hc hz ?_
  refine W.aret (v := am_cv η (qr a)) hC.1 hC.2.1 (hC.2.2.1.trans hr) hty ?_ (fun t ht hW => ⟨some (qr a), n, K, I, F, rfl, hp, fun y hy => by cases hy; trivial, by rw [ht]; exact hR.moved hW.alike⟩) hlo hd hC.2.2.2.2.2.2.1
  match a with
  | 0 => exact Or.inl rfl
  | a + 1 => exact Or.inr ⟨_, rfl⟩
/-- what the tables must say of a call: kind 0 virtual, 1 static, 2 constructor -/
def am_mok (kd : Nat) (own : String) (idx : Nat) (y : MethodName) (code : ByteArray) (maxL : Nat) (rt : Option FieldType) (na p1 p2 p3 p4 p5 : Nat) : Bool :=
  am_pl p1 (Cond.methodLink own idx y) && am_pl p2 (Cond.code y code maxL rt) && am_pl p3 (Cond.initialized y.cls) && decide (y.cls ≠ "java/lang/invoke/MethodHandle" ∧ y.cls ≠ "java/lang/invoke/VarHandle") && decide ((parseMethodDescriptor y.desc).map (fun d => d.parameters.length) = some na) &&
  (if kd = 0 then am_pl p4 (Cond.instanceMethod y) && am_pl p5 (Cond.selects y.cls y y) else if kd = 1 then am_pl p4 (Cond.static y) else am_pl p4 (Cond.instanceMethod y) && decide (y.name = "<init>"))
theorem am_gw_good : ∀ w ∈ am_gw, w ∈ am_gw ∧ ((w.onTables && w.keeps) = true ∨ ∃ ty, w = .arrayClass ty) := fun w hw => ⟨hw, good_of_word (List.mem_filter.mp hw).2⟩
theorem am_callB {R : Room} {s : State} {args : Array Value} {kd : Nat} {own : String} {idx : Nat} {y : MethodName} {code : ByteArray} {maxL : Nat} {rt : Option FieldType} {na d lc mc ms p1 p2 p3 p4 p5 : Nat} (h : am_mok kd own idx y code maxL rt na p1 p2 p3 p4 p5 = true) (hts : ∀ w ∈ am_gw, w.before args s = true) (hR1 : d + 1 ≤ R.frames) (hR2 : 8 + (maxL + 11) + lc ≤ R.locals) :
    CallB R s args own idx y code maxL rt (.code y code maxL rt :: am_gw) (am_room d lc mc ms) mc ms na := by
  unfold am_mok at h
  simp only [Bool.and_eq_true, decide_eq_true_eq] at h
  obtain ⟨⟨⟨⟨⟨h1, h2⟩, h3⟩, h4⟩, h5⟩, h7⟩ := h
  replace h1 := am_pl_in h1
  replace h2 := am_pl_in h2
  replace h3 := am_pl_in h3
  refine callB_of na hts (fun w hw => ?_) rfl rfl rfl (hts _ h3) (hts _ h1) ⟨h4.1, h4.2, h5⟩ ⟨hR1, ?_⟩
  · rcases List.mem_cons.mp hw with rfl | hw
    · exact am_gw_good _ h2
    · exact am_gw_good _ hw
  · exact hR2
theorem am_blind {as : List Value} {η : am_E} : FrameBlind (va_Pc as (fun U => (va_K η.1 vwCl (am_tys η) U ∧ am_AO U) ∧ am_R η U n K I F U.heap)) := by
  intro a U g mk h
  obtain ⟨h1, h2, h3⟩ := h
  exact ⟨h1, ⟨va_K.moved (u := U) (U := U.calling g mk a) (Vm.Alike.refl U.vm) h2.1, am_AO_moved (u := U) (U := U.calling g mk a) (Vm.Alike.refl U.vm) h2.2⟩, am_R.moved (u := U) (U := U.calling g mk a) (Vm.Alike.refl U.vm) h3⟩
/-- behind a call -/
theorem am_after {p : Program} {e : Env} {s : State} {m : MethodId} {args : Array Value} {below : List Frame} {meth : Method} {cd : Code} {H : Heap} {locs : List Loc} {la : Array Slot} {g : List Value} {va : Array Value}
    (hrun : va_Run p l e M.2.2.2.2.1 s m args below meth cd H locs c z mc ms (F0 m pc la g) (st.map (am_cv η)) (am_Q η post va) (fun q => η.2.2.1 + 1 ≤ q))
    (hC : am_C η M p s m args meth cd) (hlo : ∀ q ∈ locs, η.2.2.1 + 1 ≤ q.base) (hl : lv_has la M.2.2.1 (am_lm η ls)) (okl : ∀ q ∈ ls, am_ok q.2) (oks : ∀ v ∈ st, am_ok v)
    (kk : ∀ v n K I F, post v n K I F → Ok η l M Q (pc + 3) ls (v.toList ++ st) n K I F (c + mc) (z + ms)) :
    W p l e M.2.2.2.2.1 s m args below meth cd H locs c z (Q below args s) (F0 m pc la g) := by
  intro T hT X
  obtain ⟨v, st₀, t, T', Lc, h0, X', hLc, e1, e2, ⟨v', n', K', I', F', hv, hp, hvok, hR'⟩, stp⟩ := hrun T hT X
  have hv' : v = v'.map (am_cv η) := Outcome.returned.inj hv
  have hal : t.vm.Alike s.vm := by rw [← e2]; exact X'.warmed.alike.symm
  obtain ⟨t2, a1, b1⟩ := kk v' n' K' I' F' hp p e s m args below meth cd T'.heap (locs ++ Lc) la hC (by rw [e1]; exact hR'.moved hal) (fun q hq => by
    rcases List.mem_append.mp hq with h | h
    · exact hlo q h
    · exact hLc q h) hl okl (fun w hw => by
    rcases List.mem_append.mp hw with h | h
    · match v', h with
      | some x, h => rw [List.mem_singleton.mp h]; exact hvok x rfl
    · exact oks w h) T' rfl X'
  refine ⟨t2, stp t2 ?_, b1⟩
  have e3 : v.toList ++ st.map (am_cv η) = (v'.toList ++ st).map (am_cv η) := by
    rw [hv', List.map_append]; cases v' <;> rfl
  show Steps p.tables e below (T'.setTop { F0 m pc la g with pc := pc + 3, stack := v.toList ++ st.map (am_cv η) }) t2
  rw [e3]; exact a1
theorem am_wcat {η : am_E} (st : List am_V) : (st.map (am_cv η)).map (fun v => v.category) = st.map am_cat := by
  rw [List.map_map]; exact List.map_congr_left (fun v _ => am_cat_cv η v)
theorem ok_callV {idx a d lc na ci p1 p2 p3 p4 p5 : Nat} {y : MethodName} {code : ByteArray} {maxL : Nat} {rt : Option FieldType} {as st0 : List am_V} (hd : decode M.2.1 pc = .ok (.invokevirtual idx, 3)) (hq : pc + 3 = q) (hm : am_mok 0 M.1 idx y code maxL rt na p1 p2 p3 p4 p5 = true) (hk : (K a).1 = ci) (hci : (vwCl[ci]?).map (fun r => r.1) = some y.cls) (hlt : ci < 100) (hna : as.length = na) (hst : st0 = as.reverse ++ qr a :: st) (hw : (st.map am_cat).sum ≤ 8)
    (hf : d + 1 ≤ M.2.2.2.2.1.frames) (hlc : 8 + (maxL + 11) + lc ≤ M.2.2.2.2.1.locals) (hc : c + mc ≤ M.2.2.2.2.1.cells) (hz : z + ms ≤ M.2.2.2.2.1.slots)
    (hCt : am_Ct η l y code maxL rt d lc mc ms (qr a :: as) n K I F post)
    (kk : ∀ v n K I F, post v n K I F → Ok η l M Q q ls (v.toList ++ st) n K I F (c + mc) (z + ms)) : Ok η l M Q pc ls st0 n K I F c z := by
  subst hq; subst hst; subst hk
  intro p e s m args below meth cd H locs la hC hR hlo hl okl oks
  obtain ⟨ha0, han⟩ := hR.lt (a := a) (by omega)
  have ha1 : a ≠ 1 := fun h => by have := hR.2.2.2.2.1; rw [h] at hlt; omega
  have hts := hC.2.2.2.2.2.1
  have hmm := hm
  unfold am_mok at hmm
  simp only [Bool.and_eq_true, decide_eq_true_eq, if_true] at hmm
  obtain ⟨-, h7, h8⟩ := hmm
  replace h7 := am_pl_in h7
  replace h8 := am_pl_in h8
  have hokA : ∀ v ∈ qr a :: as, am_ok v := fun v hv => by
    rcases List.mem_cons.mp hv with rfl | hv
    · trivial
    · exact oks v (List.mem_append_left _ (List.mem_reverse.mpr hv))
  have hM := hCt hokA
  rw [List.map_cons, am_cv_r η ha0] at hM
  refine am_after (post := post) (va_runV (As := as.map (am_cv η)) (b := am_ad η a) (C := y.cls) ⟨hC.1, hC.2.1, hC.2.2.2.1, hC.2.2.2.2.1, hts⟩ hM ⟨am_callB hm hts hf hlc, hts _ h7, hts _ h8⟩ ⟨am_blind, ?_, fun U hU hW => ⟨rfl, ⟨va_K.moved hW.alike hC.2.2.2.2.2.2.2.2.1, am_AO_moved hW.alike hC.2.2.2.2.2.2.2.2.2⟩, by rw [hU]; exact hR.moved hW.alike⟩⟩ rfl (by rw [List.length_map]; exact hna) hl.1 ?_ ?_ hd ⟨hc, hz⟩) hC hlo hl okl (fun v hv => oks v (List.mem_append_right _ (List.mem_cons_of_mem _ hv))) kk
  · obtain ⟨r, hr, ⟨cell, q1, q2, q3, q4⟩, -⟩ := (hR.2.1 a (by omega)).1 hlt
    refine ⟨cell, q1, by rw [q3]; rfl, ?_⟩
    rw [hr] at hci
    rw [q2, ← Option.some.inj hci]
    exact (hC.2.2.2.2.2.2.2.2.1.1 _ _ hr).2.1
  · show (as.reverse ++ qr a :: st).map (am_cv η) = _
    rw [List.map_append, List.map_cons, List.map_reverse, am_cv_r η ha0]
  · exact lv_room (by rw [am_wcat]; exact hw)
theorem ok_callS {idx d lc na p1 p2 p3 p4 p5 : Nat} {y : MethodName} {code : ByteArray} {maxL : Nat} {rt : Option FieldType} {as st0 : List am_V} (hd : decode M.2.1 pc = .ok (.invokestatic idx, 3)) (hq : pc + 3 = q) (hm : am_mok 1 M.1 idx y code maxL rt na p1 p2 p3 p4 p5 = true) (hna : as.length = na) (hst : st0 = as.reverse ++ st) (hw : (st.map am_cat).sum ≤ 8)
    (hf : d + 1 ≤ M.2.2.2.2.1.frames) (hlc : 8 + (maxL + 11) + lc ≤ M.2.2.2.2.1.locals) (hc : c + mc ≤ M.2.2.2.2.1.cells) (hz : z + ms ≤ M.2.2.2.2.1.slots)
    (hCt : am_Ct η l y code maxL rt d lc mc ms as n K I F post)
    (kk : ∀ v n K I F, post v n K I F → Ok η l M Q q ls (v.toList ++ st) n K I F (c + mc) (z + ms)) : Ok η l M Q pc ls st0 n K I F c z := by
  subst hq; subst hst
  intro p e s m args below meth cd H locs la hC hR hlo hl okl oks
  have hts := hC.2.2.2.2.2.1
  have hmm := hm
  unfold am_mok at hmm
  simp only [Bool.and_eq_true, decide_eq_true_eq] at hmm
  have h7 : Cond.static y ∈ am_gw := am_pl_in (by simpa using hmm.2)
  have hokA : ∀ v ∈ as, am_ok v := fun v hv => oks v (List.mem_append_left _ (List.mem_reverse.mpr hv))
  have hM := hCt hokA
  refine am_after (post := post) (va_runS (As := as.map (am_cv η)) ⟨hC.1, hC.2.1, hC.2.2.2.1, hC.2.2.2.2.1, hts⟩ hM ⟨am_callB hm hts hf hlc, hts _ h7⟩ ⟨am_blind, fun U hU hW => ⟨rfl, ⟨va_K.moved hW.alike hC.2.2.2.2.2.2.2.2.1, am_AO_moved hW.alike hC.2.2.2.2.2.2.2.2.2⟩, by rw [hU]; exact hR.moved hW.alike⟩⟩ rfl (by rw [List.length_map]; exact hna) hl.1 ?_ ?_ hd ⟨hc, hz⟩) hC hlo hl okl (fun v hv => oks v (List.mem_append_right _ hv)) kk
  · show (as.reverse ++ st).map (am_cv η) = _
    rw [List.map_append, List.map_reverse]
  · exact lv_room (by rw [am_wcat]; exact hw)
theorem ok_callI {idx a d lc na p1 p2 p3 p4 p5 : Nat} {y : MethodName} {code : ByteArray} {maxL : Nat} {as st0 : List am_V} (hd : decode M.2.1 pc = .ok (.invokespecial idx, 3)) (hq : pc + 3 = q) (hm : am_mok 2 M.1 idx y code maxL none na p1 p2 p3 p4 p5 = true) (ha0 : a ≠ 0) (hna : as.length = na) (hst : st0 = as.reverse ++ qr a :: st) (hw : (st.map am_cat).sum ≤ 8)
    (hf : d + 1 ≤ M.2.2.2.2.1.frames) (hlc : 8 + (maxL + 11) + lc ≤ M.2.2.2.2.1.locals) (hc : c + mc ≤ M.2.2.2.2.1.cells) (hz : z + ms ≤ M.2.2.2.2.1.slots)
    (hCt : am_Ct η l y code maxL none d lc mc ms (qr a :: as) n K I F post)
    (kk : ∀ v n K I F, post v n K I F → Ok η l M Q q ls (v.toList ++ st) n K I F (c + mc) (z + ms)) : Ok η l M Q pc ls st0 n K I F c z := by
  subst hq; subst hst
  intro p e s m args below meth cd H locs la hC hR hlo hl okl oks
  have hts := hC.2.2.2.2.2.1
  have hmm := hm
  unfold am_mok at hmm
  simp only [Bool.and_eq_true, decide_eq_true_eq] at hmm
  have h70 : am_pl p4 (Cond.instanceMethod y) = true ∧ y.name = "<init>" := by simpa using hmm.2
  have h7 : Cond.instanceMethod y ∈ am_gw ∧ y.name = "<init>" := ⟨am_pl_in h70.1, h70.2⟩
  have hokA : ∀ v ∈ qr a :: as, am_ok v := fun v hv => by
    rcases List.mem_cons.mp hv with rfl | hv
    · trivial
    · exact oks v (List.mem_append_left _ (List.mem_reverse.mpr hv))
  have hM := hCt hokA
  rw [List.map_cons, am_cv_r η ha0] at hM
  refine am_after (post := post) (va_runI (As := as.map (am_cv η)) (b := am_ad η a) ⟨hC.1, hC.2.1, hC.2.2.2.1, hC.2.2.2.2.1, hts⟩ hM ⟨am_callB hm hts hf hlc, h7.2, hts _ h7.1⟩ ⟨am_blind, fun U hU hW => ⟨rfl, ⟨va_K.moved hW.alike hC.2.2.2.2.2.2.2.2.1, am_AO_moved hW.alike hC.2.2.2.2.2.2.2.2.2⟩, by rw [hU]; exact hR.moved hW.alike⟩⟩ rfl (by rw [List.length_map]; exact hna) hl.1 ?_ ?_ hd ⟨hc, hz⟩) hC hlo hl okl (fun v hv => oks v (List.mem_append_right _ (List.mem_cons_of_mem _ hv))) kk
  · show (as.reverse ++ qr a :: st).map (am_cv η) = _
    rw [List.map_append, List.map_cons, List.map_reverse, am_cv_r η ha0]
  · exact lv_room (by rw [am_wcat]; exact hw)
theorem fi_returnS (hd : decode M.2.1 pc = .ok (.return_, 1)) (hr : M.2.2.2.1 = none) : some (0, I) = some rS → Ok η l M (am_qm η (am_pS 0 rS n K F) 0 0) pc ls [] n K I F 0 0 := fun g => ok_return hd hr (Nat.le_refl _) (Nat.le_refl _) (by cases g; exact ⟨rfl, rfl, rfl, rfl, rfl⟩)
theorem fi_returnA (hd : decode M.2.1 pc = .ok (.return_, 1)) (hr : M.2.2.2.1 = none) : some (0, n, K, I, F, c, z) = some rA → Ok η l M (am_qm η (am_pA 0 rA) (am_ac1 rA) (am_az1 rA)) pc ls [] n K I F c z := fun g => ok_return hd hr (by cases g; exact Nat.le_refl _) (by cases g; exact Nat.le_refl _) (by cases g; exact ⟨rfl, rfl, rfl, rfl, rfl⟩)
theorem fi_ireturnS {x : Int} (hd : decode M.2.1 pc = .ok (.ireturn, 1)) (hr : M.2.2.2.1 = some .int) : some (x, I) = some rS → Ok η l M (am_qm η (am_pS 1 rS n K F) 0 0) pc ls [qi x] n K I F 0 0 := fun g => ok_ireturn hd hr (Nat.le_refl _) (Nat.le_refl _) (by cases g; exact ⟨rfl, rfl, rfl, rfl, rfl⟩)
theorem fi_ireturnA {x : Int} (hd : decode M.2.1 pc = .ok (.ireturn, 1)) (hr : M.2.2.2.1 = some .int) : some (x, n, K, I, F, c, z) = some rA → Ok η l M (am_qm η (am_pA 1 rA) (am_ac1 rA) (am_az1 rA)) pc ls [qi x] n K I F c z := fun g => ok_ireturn hd hr (by cases g; exact Nat.le_refl _) (by cases g; exact Nat.le_refl _) (by cases g; exact ⟨rfl, rfl, rfl, rfl, rfl⟩)
theorem fi_zreturnS {x : Int} (hd : decode M.2.1 pc = .ok (.ireturn, 1)) (hr : M.2.2.2.1 = some .boolean) (hx : x = 0 ∨ x = 1) : some (x, I) = some rS → Ok η l M (am_qm η (am_pS 1 rS n K F) 0 0) pc ls [qi x] n K I F 0 0 := fun g => ok_zreturn hd hr hx (Nat.le_refl _) (Nat.le_refl _) (by cases g; exact ⟨rfl, rfl, rfl, rfl, rfl⟩)
theorem fi_zreturnA {x : Int} (hd : decode M.2.1 pc = .ok (.ireturn, 1)) (hr : M.2.2.2.1 = some .boolean) (hx : x = 0 ∨ x = 1) : some (x, n, K, I, F, c, z) = some rA → Ok η l M (am_qm η (am_pA 1 rA) (am_ac1 rA) (am_az1 rA)) pc ls [qi x] n K I F c z := fun g => ok_zreturn hd hr hx (by cases g; exact Nat.le_refl _) (by cases g; exact Nat.le_refl _) (by cases g; exact ⟨rfl, rfl, rfl, rfl, rfl⟩)
theorem fi_lreturnS {x : Int} (hd : decode M.2.1 pc = .ok (.lreturn, 1)) (hr : M.2.2.2.1 = some .long) : some (x, I) = some rS → Ok η l M (am_qm η (am_pS 2 rS n K F) 0 0) pc ls [ql x] n K I F 0 0 := fun g => ok_lreturn hd hr (Nat.le_refl _) (Nat.le_refl _) (by cases g; exact ⟨rfl, rfl, rfl, rfl, rfl⟩)
theorem fi_lreturnA {x : Int} (hd : decode M.2.1 pc = .ok (.lreturn, 1)) (hr : M.2.2.2.1 = some .long) : some (x, n, K, I, F, c, z) = some rA → Ok η l M (am_qm η (am_pA 2 rA) (am_ac1 rA) (am_az1 rA)) pc ls [ql x] n K I F c z := fun g => ok_lreturn hd hr (by cases g; exact Nat.le_refl _) (by cases g; exact Nat.le_refl _) (by cases g; exact ⟨rfl, rfl, rfl, rfl, rfl⟩)
theorem fi_areturnA {a : Nat} {ty : FieldType} (hd : decode M.2.1 pc = .ok (.areturn, 1)) (hr : M.2.2.2.1 = some ty) (hty : (∃ n, ty = .object n) ∨ ∃ t, ty = .array t) : some ((a : Int), n, K, I, F, c, z) = some rA → Ok η l M (am_qm η (am_pA 3 rA) (am_ac1 rA) (am_az1 rA)) pc ls [qr a] n K I F c z := fun g => ok_areturn hd hr hty (by cases g; exact Nat.le_refl _) (by cases g; exact Nat.le_refl _) (by cases g; exact ⟨rfl, rfl, rfl, rfl, rfl⟩)
theorem fi_callV0S {x : Option (Int × am_I)} {t : Int → am_I → Option ρ} {idx d lc na p1 p2 p3 p4 p5 : Nat} {a ci : Nat} {y : MethodName} {code : ByteArray} {maxL : Nat} {rt : Option FieldType} {as st0 : List am_V} (hd : decode M.2.1 pc = .ok (.invokevirtual idx, 3)) (hq : pc + 3 = q) (hm : am_mok 0 M.1 idx y code maxL rt na p1 p2 p3 p4 p5 = true) (hk : (K a).1 = ci) (hci : (vwCl[ci]?).map (fun r => r.1) = some y.cls) (hlt : ci < 100) (hna : as.length = na) (hst : st0 = as.reverse ++ qr a :: st) (hw : (st.map am_cat).sum ≤ 8) (hf : d + 1 ≤ M.2.2.2.2.1.frames) (hlc : 8 + (maxL + 11) + lc ≤ M.2.2.2.2.1.locals) (hc : c ≤ M.2.2.2.2.1.cells) (hz : z ≤ M.2.2.2.2.1.slots) (hCt : ∀ r, x = some r → am_Ct η l y code maxL rt d lc 0 0 (qr a :: as) n K I F (am_pS 0 r n K F)) (kk : ∀ v I', t v I' = some r0 → Ok η l M Q q ls (st) n K I' F c z) : am_cl x t = some r0 → Ok η l M Q pc ls st0 n K I F c z := by
  intro g
  cases hx : x with
  | none => rw [hx] at g; cases g
  | some p =>
    rw [hx] at g
    refine ok_callV hd hq hm hk hci hlt hna hst hw hf hlc hc hz (hCt p hx) ?_
    intro v n' K' I' F' hp
    obtain ⟨rfl, rfl, rfl, rfl, rfl⟩ := hp
    exact kk p.1 p.2 g
theorem fi_callV0A {x : Option am_A} {t : Int → Nat → am_K → am_I → am_F → Nat → Nat → Option am_A} {idx d lc na p1 p2 p3 p4 p5 : Nat} {a ci : Nat} {y : MethodName} {code : ByteArray} {maxL : Nat} {rt : Option FieldType} {as st0 : List am_V} (hd : decode M.2.1 pc = .ok (.invokevirtual idx, 3)) (hq : pc + 3 = q) (hm : am_mok 0 M.1 idx y code maxL rt na p1 p2 p3 p4 p5 = true) (hk : (K a).1 = ci) (hci : (vwCl[ci]?).map (fun r => r.1) = some y.cls) (hlt : ci < 100) (hna : as.length = na) (hst : st0 = as.reverse ++ qr a :: st) (hw : (st.map am_cat).sum ≤ 8) (hf : d + 1 ≤ M.2.2.2.2.1.frames) (hlc : 8 + (maxL + 11) + lc ≤ M.2.2.2.2.1.locals) (hcM : am_ac1 rA ≤ M.2.2.2.2.1.cells) (hzM : am_az1 rA ≤ M.2.2.2.2.1.slots) (hCt : ∀ r, x = some r → am_Ct η l y code maxL rt d lc (am_ac1 r) (am_az1 r) (qr a :: as) n K I F (am_pA 0 r)) (kk : ∀ v n' K' I' F' c' z', c + c' ≤ am_ac1 rA → z + z' ≤ am_az1 rA → t v n' K' I' F' c' z' = some rA → Ok η l M Q q ls (st) n' K' I' F' (c + c') (z + z')) : am_ca x (fun v n' K' I' F' c' z' => am_mo (c + c') (z + z') (t v n' K' I' F' c' z')) = some rA → Ok η l M Q pc ls st0 n K I F c z := by
  intro g
  cases hx : x with
  | none => rw [hx] at g; cases g
  | some p =>
    rw [hx] at g
    refine fi_mo (fun h1 h2 g => ?_) g
    refine ok_callV hd hq hm hk hci hlt hna hst hw hf hlc (Nat.le_trans h1 hcM) (Nat.le_trans h2 hzM) (hCt p hx) ?_
    intro v n' K' I' F' hp
    obtain ⟨rfl, rfl, rfl, rfl, rfl⟩ := hp
    exact kk p.1 p.2.1 p.2.2.1 p.2.2.2.1 p.2.2.2.2.1 p.2.2.2.2.2.1 p.2.2.2.2.2.2 h1 h2 g
theorem fi_callV1S {x : Option (Int × am_I)} {t : Int → am_I → Option ρ} {idx d lc na p1 p2 p3 p4 p5 : Nat} {a ci : Nat} {y : MethodName} {code : ByteArray} {maxL : Nat} {rt : Option FieldType} {as st0 : List am_V} (hd : decode M.2.1 pc = .ok (.invokevirtual idx, 3)) (hq : pc + 3 = q) (hm : am_mok 0 M.1 idx y code maxL rt na p1 p2 p3 p4 p5 = true) (hk : (K a).1 = ci) (hci : (vwCl[ci]?).map (fun r => r.1) = some y.cls) (hlt : ci < 100) (hna : as.length = na) (hst : st0 = as.reverse ++ qr a :: st) (hw : (st.map am_cat).sum ≤ 8) (hf : d + 1 ≤ M.2.2.2.2.1.frames) (hlc : 8 + (maxL + 11) + lc ≤ M.2.2.2.2.1.locals) (hc : c ≤ M.2.2.2.2.1.cells) (hz : z ≤ M.2.2.2.2.1.slots) (hCt : ∀ r, x = some r → am_Ct η l y code maxL rt d lc 0 0 (qr a :: as) n K I F (am_pS 1 r n K F)) (kk : ∀ v I', t v I' = some r0 → Ok η l M Q q ls (qi v :: st) n K I' F c z) : am_cl x t = some r0 → Ok η l M Q pc ls st0 n K I F c z := by
  intro g
  cases hx : x with
  | none => rw [hx] at g; cases g
  | some p =>
    rw [hx] at g
    refine ok_callV hd hq hm hk hci hlt hna hst hw hf hlc hc hz (hCt p hx) ?_
    intro v n' K' I' F' hp
    obtain ⟨rfl, rfl, rfl, rfl, rfl⟩ := hp
    exact kk p.1 p.2 g
theorem fi_callV1A {x : Option am_A} {t : Int → Nat → am_K → am_I → am_F → Nat → Nat → Option am_A} {idx d lc na p1 p2 p3 p4 p5 : Nat} {a ci : Nat} {y : MethodName} {code : ByteArray} {maxL : Nat} {rt : Option FieldType} {as st0 : List am_V} (hd : decode M.2.1 pc = .ok (.invokevirtual idx, 3)) (hq : pc + 3 = q) (hm : am_mok 0 M.1 idx y code maxL rt na p1 p2 p3 p4 p5 = true) (hk : (K a).1 = ci) (hci : (vwCl[ci]?).map (fun r => r.1) = some y.cls) (hlt : ci < 100) (hna : as.length = na) (hst : st0 = as.reverse ++ qr a :: st) (hw : (st.map am_cat).sum ≤ 8) (hf : d + 1 ≤ M.2.2.2.2.1.frames) (hlc : 8 + (maxL + 11) + lc ≤ M.2.2.2.2.1.locals) (hcM : am_ac1 rA ≤ M.2.2.2.2.1.cells) (hzM : am_az1 rA ≤ M.2.2.2.2.1.slots) (hCt : ∀ r, x = some r → am_Ct η l y code maxL rt d lc (am_ac1 r) (am_az1 r) (qr a :: as) n K I F (am_pA 1 r)) (kk : ∀ v n' K' I' F' c' z', c + c' ≤ am_ac1 rA → z + z' ≤ am_az1 rA → t v n' K' I' F' c' z' = some rA → Ok η l M Q q ls (qi v :: st) n' K' I' F' (c + c') (z + z')) : am_ca x (fun v n' K' I' F' c' z' => am_mo (c + c') (z + z') (t v n' K' I' F' c' z')) = some rA → Ok η l M Q pc ls st0 n K I F c z := by
  intro g
  cases hx : x with
  | none => rw [hx] at g; cases g
  | some p =>
    rw [hx] at g
    refine fi_mo (fun h1 h2 g => ?_) g
    refine ok_callV hd hq hm hk hci hlt hna hst hw hf hlc (Nat.le_trans h1 hcM) (Nat.le_trans h2 hzM) (hCt p hx) ?_
    intro v n' K' I' F' hp
    obtain ⟨rfl, rfl, rfl, rfl, rfl⟩ := hp
    exact kk p.1 p.2.1 p.2.2.1 p.2.2.2.1 p.2.2.2.2.1 p.2.2.2.2.2.1 p.2.2.2.2.2.2 h1 h2 g
theorem fi_callV2S {x : Option (Int × am_I)} {t : Int → am_I → Option ρ} {idx d lc na p1 p2 p3 p4 p5 : Nat} {a ci : Nat} {y : MethodName} {code : ByteArray} {maxL : Nat} {rt : Option FieldType} {as st0 : List am_V} (hd : decode M.2.1 pc = .ok (.invokevirtual idx, 3)) (hq : pc + 3 = q) (hm : am_mok 0 M.1 idx y code maxL rt na p1 p2 p3 p4 p5 = true) (hk : (K a).1 = ci) (hci : (vwCl[ci]?).map (fun r => r.1) = some y.cls) (hlt : ci < 100) (hna : as.length = na) (hst : st0 = as.reverse ++ qr a :: st) (hw : (st.map am_cat).sum ≤ 8) (hf : d + 1 ≤ M.2.2.2.2.1.frames) (hlc : 8 + (maxL + 11) + lc ≤ M.2.2.2.2.1.locals) (hc : c ≤ M.2.2.2.2.1.cells) (hz : z ≤ M.2.2.2.2.1.slots) (hCt : ∀ r, x = some r → am_Ct η l y code maxL rt d lc 0 0 (qr a :: as) n K I F (am_pS 2 r n K F)) (kk : ∀ v I', t v I' = some r0 → Ok η l M Q q ls (ql v :: st) n K I' F c z) : am_cl x t = some r0 → Ok η l M Q pc ls st0 n K I F c z := by
  intro g
  cases hx : x with
  | none => rw [hx] at g; cases g
  | some p =>
    rw [hx] at g
    refine ok_callV hd hq hm hk hci hlt hna hst hw hf hlc hc hz (hCt p hx) ?_
    intro v n' K' I' F' hp
    obtain ⟨rfl, rfl, rfl, rfl, rfl⟩ := hp
    exact kk p.1 p.2 g
theorem fi_callV2A {x : Option am_A} {t : Int → Nat → am_K → am_I → am_F → Nat → Nat → Option am_A} {idx d lc na p1 p2 p3 p4 p5 : Nat} {a ci : Nat} {y : MethodName} {code : ByteArray} {maxL : Nat} {rt : Option FieldType} {as st0 : List am_V} (hd : decode M.2.1 pc = .ok (.invokevirtual idx, 3)) (hq : pc + 3 = q) (hm : am_mok 0 M.1 idx y code maxL rt na p1 p2 p3 p4 p5 = true) (hk : (K a).1 = ci) (hci : (vwCl[ci]?).map (fun r => r.1) = some y.cls) (hlt : ci < 100) (hna : as.length = na) (hst : st0 = as.reverse ++ qr a :: st) (hw : (st.map am_cat).sum ≤ 8) (hf : d + 1 ≤ M.2.2.2.2.1.frames) (hlc : 8 + (maxL + 11) + lc ≤ M.2.2.2.2.1.locals) (hcM : am_ac1 rA ≤ M.2.2.2.2.1.cells) (hzM : am_az1 rA ≤ M.2.2.2.2.1.slots) (hCt : ∀ r, x = some r → am_Ct η l y code maxL rt d lc (am_ac1 r) (am_az1 r) (qr a :: as) n K I F (am_pA 2 r)) (kk : ∀ v n' K' I' F' c' z', c + c' ≤ am_ac1 rA → z + z' ≤ am_az1 rA → t v n' K' I' F' c' z' = some rA → Ok η l M Q q ls (ql v :: st) n' K' I' F' (c + c') (z + z')) : am_ca x (fun v n' K' I' F' c' z' => am_mo (c + c') (z + z') (t v n' K' I' F' c' z')) = some rA → Ok η l M Q pc ls st0 n K I F c z := by
  intro g
  cases hx : x with
  | none => rw [hx] at g; cases g
  | some p =>
    rw [hx] at g
    refine fi_mo (fun h1 h2 g => ?_) g
    refine ok_callV hd hq hm hk hci hlt hna hst hw hf hlc (Nat.le_trans h1 hcM) (Nat.le_trans h2 hzM) (hCt p hx) ?_
    intro v n' K' I' F' hp
    obtain ⟨rfl, rfl, rfl, rfl, rfl⟩ := hp
    exact kk p.1 p.2.1 p.2.2.1 p.2.2.2.1 p.2.2.2.2.1 p.2.2.2.2.2.1 p.2.2.2.2.2.2 h1 h2 g
theorem fi_callV3S {x : Option (Int × am_I)} {t : Int → am_I → Option ρ} {idx d lc na p1 p2 p3 p4 p5 : Nat} {a ci : Nat} {y : MethodName} {code : ByteArray} {maxL : Nat} {rt : Option FieldType} {as st0 : List am_V} (hd : decode M.2.1 pc = .ok (.invokevirtual idx, 3)) (hq : pc + 3 = q) (hm : am_mok 0 M.1 idx y code maxL rt na p1 p2 p3 p4 p5 = true) (hk : (K a).1 = ci) (hci : (vwCl[ci]?).map (fun r => r.1) = some y.cls) (hlt : ci < 100) (hna : as.length = na) (hst : st0 = as.reverse ++ qr a :: st) (hw : (st.map am_cat).sum ≤ 8) (hf : d + 1 ≤ M.2.2.2.2.1.frames) (hlc : 8 + (maxL + 11) + lc ≤ M.2.2.2.2.1.locals) (hc : c ≤ M.2.2.2.2.1.cells) (hz : z ≤ M.2.2.2.2.1.slots) (hCt : ∀ r, x = some r → am_Ct η l y code maxL rt d lc 0 0 (qr a :: as) n K I F (am_pS 3 r n K F)) (kk : ∀ v I', t v I' = some r0 → Ok η l M Q q ls (qr v.toNat :: st) n K I' F c z) : am_cl x t = some r0 → Ok η l M Q pc ls st0 n K I F c z := by
  intro g
  cases hx : x with
  | none => rw [hx] at g; cases g
  | some p =>
    rw [hx] at g
    refine ok_callV hd hq hm hk hci hlt hna hst hw hf hlc hc hz (hCt p hx) ?_
    intro v n' K' I' F' hp
    obtain ⟨rfl, rfl, rfl, rfl, rfl⟩ := hp
    exact kk p.1 p.2 g
theorem fi_callV3A {x : Option am_A} {t : Int → Nat → am_K → am_I → am_F → Nat → Nat → Option am_A} {idx d lc na p1 p2 p3 p4 p5 : Nat} {a ci : Nat} {y : MethodName} {code : ByteArray} {maxL : Nat} {rt : Option FieldType} {as st0 : List am_V} (hd : decode M.2.1 pc = .ok (.invokevirtual idx, 3)) (hq : pc + 3 = q) (hm : am_mok 0 M.1 idx y code maxL rt na p1 p2 p3 p4 p5 = true) (hk : (K a).1 = ci) (hci : (vwCl[ci]?).map (fun r => r.1) = some y.cls) (hlt : ci < 100) (hna : as.length = na) (hst : st0 = as.reverse ++ qr a :: st) (hw : (st.map am_cat).sum ≤ 8) (hf : d + 1 ≤ M.2.2.2.2.1.frames) (hlc : 8 + (maxL + 11) + lc ≤ M.2.2.2.2.1.locals) (hcM : am_ac1 rA ≤ M.2.2.2.2.1.cells) (hzM : am_az1 rA ≤ M.2.2.2.2.1.slots) (hCt : ∀ r, x = some r → am_Ct η l y code maxL rt d lc (am_ac1 r) (am_az1 r) (qr a :: as) n K I F (am_pA 3 r)) (kk : ∀ v n' K' I' F' c' z', c + c' ≤ am_ac1 rA → z + z' ≤ am_az1 rA → t v n' K' I' F' c' z' = some rA → Ok η l M Q q ls (qr v.toNat :: st) n' K' I' F' (c + c') (z + z')) : am_ca x (fun v n' K' I' F' c' z' => am_mo (c + c') (z + z') (t v n' K' I' F' c' z')) = some rA → Ok η l M Q pc ls st0 n K I F c z := by
  intro g
  cases hx : x with
  | none => rw [hx] at g; cases g
  | some p =>
    rw [hx] at g
    refine fi_mo (fun h1 h2 g => ?_) g
    refine ok_callV hd hq hm hk hci hlt hna hst hw hf hlc (Nat.le_trans h1 hcM) (Nat.le_trans h2 hzM) (hCt p hx) ?_
    intro v n' K' I' F' hp
    obtain ⟨rfl, rfl, rfl, rfl, rfl⟩ := hp
    exact kk p.1 p.2.1 p.2.2.1 p.2.2.2.1 p.2.2.2.2.1 p.2.2.2.2.2.1 p.2.2.2.2.2.2 h1 h2 g
theorem fi_callS0S {x : Option (Int × am_I)} {t : Int → am_I → Option ρ} {idx d lc na p1 p2 p3 p4 p5 : Nat} {y : MethodName} {code : ByteArray} {maxL : Nat} {rt : Option FieldType} {as st0 : List am_V} (hd : decode M.2.1 pc = .ok (.invokestatic idx, 3)) (hq : pc + 3 = q) (hm : am_mok 1 M.1 idx y code maxL rt na p1 p2 p3 p4 p5 = true) (hna : as.length = na) (hst : st0 = as.reverse ++ st) (hw : (st.map am_cat).sum ≤ 8) (hf : d + 1 ≤ M.2.2.2.2.1.frames) (hlc : 8 + (maxL + 11) + lc ≤ M.2.2.2.2.1.locals) (hc : c ≤ M.2.2.2.2.1.cells) (hz : z ≤ M.2.2.2.2.1.slots) (hCt : ∀ r, x = some r → am_Ct η l y code maxL rt d lc 0 0 as n K I F (am_pS 0 r n K F)) (kk : ∀ v I', t v I' = some r0 → Ok η l M Q q ls (st) n K I' F c z) : am_cl x t = some r0 → Ok η l M Q pc ls st0 n K I F c z := by
  intro g
  cases hx : x with
  | none => rw [hx] at g; cases g
  | some p =>
    rw [hx] at g
    refine ok_callS hd hq hm hna hst hw hf hlc hc hz (hCt p hx) ?_
    intro v n' K' I' F' hp
    obtain ⟨rfl, rfl, rfl, rfl, rfl⟩ := hp
    exact kk p.1 p.2 g
theorem fi_callS0A {x : Option am_A} {t : Int → Nat → am_K → am_I → am_F → Nat → Nat → Option am_A} {idx d lc na p1 p2 p3 p4 p5 : Nat} {y : MethodName} {code : ByteArray} {maxL : Nat} {rt : Option FieldType} {as st0 : List am_V} (hd : decode M.2.1 pc = .ok (.invokestatic idx, 3)) (hq : pc + 3 = q) (hm : am_mok 1 M.1 idx y code maxL rt na p1 p2 p3 p4 p5 = true) (hna : as.length = na) (hst : st0 = as.reverse ++ st) (hw : (st.map am_cat).sum ≤ 8) (hf : d + 1 ≤ M.2.2.2.2.1.frames) (hlc : 8 + (maxL + 11) + lc ≤ M.2.2.2.2.1.locals) (hcM : am_ac1 rA ≤ M.2.2.2.2.1.cells) (hzM : am_az1 rA ≤ M.2.2.2.2.1.slots) (hCt : ∀ r, x = some r → am_Ct η l y code maxL rt d lc (am_ac1 r) (am_az1 r) as n K I F (am_pA 0 r)) (kk : ∀ v n' K' I' F' c' z', c + c' ≤ am_ac1 rA → z + z' ≤ am_az1 rA → t v n' K' I' F' c' z' = some rA → Ok η l M Q q ls (st) n' K' I' F' (c + c') (z + z')) : am_ca x (fun v n' K' I' F' c' z' => am_mo (c + c') (z + z') (t v n' K' I' F' c' z')) = some rA → Ok η l M Q pc ls st0 n K I F c z := by
  intro g
  cases hx : x with
  | none => rw [hx] at g; cases g
  | some p =>
    rw [hx] at g
    refine fi_mo (fun h1 h2 g => ?_) g
    refine ok_callS hd hq hm hna hst hw hf hlc (Nat.le_trans h1 hcM) (Nat.le_trans h2 hzM) (hCt p hx) ?_
    intro v n' K' I' F' hp
    obtain ⟨rfl, rfl, rfl, rfl, rfl⟩ := hp
    exact kk p.1 p.2.1 p.2.2.1 p.2.2.2.1 p.2.2.2.2.1 p.2.2.2.2.2.1 p.2.2.2.2.2.2 h1 h2 g
theorem fi_callS1S {x : Option (Int × am_I)} {t : Int → am_I → Option ρ} {idx d lc na p1 p2 p3 p4 p5 : Nat} {y : MethodName} {code : ByteArray} {maxL : Nat} {rt : Option FieldType} {as st0 : List am_V} (hd : decode M.2.1 pc = .ok (.invokestatic idx, 3)) (hq : pc + 3 = q) (hm : am_mok 1 M.1 idx y code maxL rt na p1 p2 p3 p4 p5 = true) (hna : as.length = na) (hst : st0 = as.reverse ++ st) (hw : (st.map am_cat).sum ≤ 8) (hf : d + 1 ≤ M.2.2.2.2.1.frames) (hlc : 8 + (maxL + 11) + lc ≤ M.2.2.2.2.1.locals) (hc : c ≤ M.2.2.2.2.1.cells) (hz : z ≤ M.2.2.2.2.1.slots) (hCt : ∀ r, x = some r → am_Ct η l y code maxL rt d lc 0 0 as n K I F (am_pS 1 r n K F)) (kk : ∀ v I', t v I' = some r0 → Ok η l M Q q ls (qi v :: st) n K I' F c z) : am_cl x t = some r0 → Ok η l M Q pc ls st0 n K I F c z := by
  intro g
  cases hx : x with
  | none => rw [hx] at g; cases g
  | some p =>
    rw [hx] at g
    refine ok_callS hd hq hm hna hst hw hf hlc hc hz (hCt p hx) ?_
    intro v n' K' I' F' hp
    obtain ⟨rfl, rfl, rfl, rfl, rfl⟩ := hp
    exact kk p.1 p.2 g
theorem fi_callS1A {x : Option am_A} {t : Int → Nat → am_K → am_I → am_F → Nat → Nat → Option am_A} {idx d lc na p1 p2 p3 p4 p5 : Nat} {y : MethodName} {code : ByteArray} {maxL : Nat} {rt : Option FieldType} {as st0 : List am_V} (hd : decode M.2.1 pc = .ok (.invokestatic idx, 3)) (hq : pc + 3 = q) (hm : am_mok 1 M.1 idx y code maxL rt na p1 p2 p3 p4 p5 = true) (hna : as.length = na) (hst : st0 = as.reverse ++ st) (hw : (st.map am_cat).sum ≤ 8) (hf : d + 1 ≤ M.2.2.2.2.1.frames) (hlc : 8 + (maxL + 11) + lc ≤ M.2.2.2.2.1.locals) (hcM : am_ac1 rA ≤ M.2.2.2.2.1.cells) (hzM : am_az1 rA ≤ M.2.2.2.2.1.slots) (hCt : ∀ r, x = some r → am_Ct η l y code maxL rt d lc (am_ac1 r) (am_az1 r) as n K I F (am_pA 1 r)) (kk : ∀ v n' K' I' F' c' z', c + c' ≤ am_ac1 rA → z + z' ≤ am_az1 rA → t v n' K' I' F' c' z' = some rA → Ok η l M Q q ls (qi v :: st) n' K' I' F' (c + c') (z + z')) : am_ca x (fun v n' K' I' F' c' z' => am_mo (c + c') (z + z') (t v n' K' I' F' c' z')) = some rA → Ok η l M Q pc ls st0 n K I F c z := by
  intro g
  cases hx : x with
  | none => rw [hx] at g; cases g
  | some p =>
    rw [hx] at g
    refine fi_mo (fun h1 h2 g => ?_) g
    refine ok_callS hd hq hm hna hst hw hf hlc (Nat.le_trans h1 hcM) (Nat.le_trans h2 hzM) (hCt p hx) ?_
    intro v n' K' I' F' hp
    obtain ⟨rfl, rfl, rfl, rfl, rfl⟩ := hp
    exact kk p.1 p.2.1 p.2.2.1 p.2.2.2.1 p.2.2.2.2.1 p.2.2.2.2.2.1 p.2.2.2.2.2.2 h1 h2 g
theorem fi_callS2S {x : Option (Int × am_I)} {t : Int → am_I → Option ρ} {idx d lc na p1 p2 p3 p4 p5 : Nat} {y : MethodName} {code : ByteArray} {maxL : Nat} {rt : Option FieldType} {as st0 : List am_V} (hd : decode M.2.1 pc = .ok (.invokestatic idx, 3)) (hq : pc + 3 = q) (hm : am_mok 1 M.1 idx y code maxL rt na p1 p2 p3 p4 p5 = true) (hna : as.length = na) (hst : st0 = as.reverse ++ st) (hw : (st.map am_cat).sum ≤ 8) (hf : d + 1 ≤ M.2.2.2.2.1.frames) (hlc : 8 + (maxL + 11) + lc ≤ M.2.2.2.2.1.locals) (hc : c ≤ M.2.2.2.2.1.cells) (hz : z ≤ M.2.2.2.2.1.slots) (hCt : ∀ r, x = some r → am_Ct η l y code maxL rt d lc 0 0 as n K I F (am_pS 2 r n K F)) (kk : ∀ v I', t v I' = some r0 → Ok η l M Q q ls (ql v :: st) n K I' F c z) : am_cl x t = some r0 → Ok η l M Q pc ls st0 n K I F c z := by
  intro g
  cases hx : x with
  | none => rw [hx] at g; cases g
  | some p =>
    rw [hx] at g
    refine ok_callS hd hq hm hna hst hw hf hlc hc hz (hCt p hx) ?_
    intro v n' K' I' F' hp
    obtain ⟨rfl, rfl, rfl, rfl, rfl⟩ := hp
    exact kk p.1 p.2 g
theorem fi_callS2A {x : Option am_A} {t : Int → Nat → am_K → am_I → am_F → Nat → Nat → Option am_A} {idx d lc na p1 p2 p3 p4 p5 : Nat} {y : MethodName} {code : ByteArray} {maxL : Nat} {rt : Option FieldType} {as st0 : List am_V} (hd : decode M.2.1 pc = .ok (.invokestatic idx, 3)) (hq : pc + 3 = q) (hm : am_mok 1 M.1 idx y code maxL rt na p1 p2 p3 p4 p5 = true) (hna : as.length = na) (hst : st0 = as.reverse ++ st) (hw : (st.map am_cat).sum ≤ 8) (hf : d + 1 ≤ M.2.2.2.2.1.frames) (hlc : 8 + (maxL + 11) + lc ≤ M.2.2.2.2.1.locals) (hcM : am_ac1 rA ≤ M.2.2.2.2.1.cells) (hzM : am_az1 rA ≤ M.2.2.2.2.1.slots) (hCt : ∀ r, x = some r → am_Ct η l y code maxL rt d lc (am_ac1 r) (am_az1 r) as n K I F (am_pA 2 r)) (kk : ∀ v n' K' I' F' c' z', c + c' ≤ am_ac1 rA → z + z' ≤ am_az1 rA → t v n' K' I' F' c' z' = some rA → Ok η l M Q q ls (ql v :: st) n' K' I' F' (c + c') (z + z')) : am_ca x (fun v n' K' I' F' c' z' => am_mo (c + c') (z + z') (t v n' K' I' F' c' z')) = some rA → Ok η l M Q pc ls st0 n K I F c z := by
  intro g
  cases hx : x with
  | none => rw [hx] at g; cases g
  | some p =>
    rw [hx] at g
    refine fi_mo (fun h1 h2 g => ?_) g
    refine ok_callS hd hq hm hna hst hw hf hlc (Nat.le_trans h1 hcM) (Nat.le_trans h2 hzM) (hCt p hx) ?_
    intro v n' K' I' F' hp
    obtain ⟨rfl, rfl, rfl, rfl, rfl⟩ := hp
    exact kk p.1 p.2.1 p.2.2.1 p.2.2.2.1 p.2.2.2.2.1 p.2.2.2.2.2.1 p.2.2.2.2.2.2 h1 h2 g
theorem fi_callS3S {x : Option (Int × am_I)} {t : Int → am_I → Option ρ} {idx d lc na p1 p2 p3 p4 p5 : Nat} {y : MethodName} {code : ByteArray} {maxL : Nat} {rt : Option FieldType} {as st0 : List am_V} (hd : decode M.2.1 pc = .ok (.invokestatic idx, 3)) (hq : pc + 3 = q) (hm : am_mok 1 M.1 idx y code maxL rt na p1 p2 p3 p4 p5 = true) (hna : as.length = na) (hst : st0 = as.reverse ++ st) (hw : (st.map am_cat).sum ≤ 8) (hf : d + 1 ≤ M.2.2.2.2.1.frames) (hlc : 8 + (maxL + 11) + lc ≤ M.2.2.2.2.1.locals) (hc : c ≤ M.2.2.2.2.1.cells) (hz : z ≤ M.2.2.2.2.1.slots) (hCt : ∀ r, x = some r → am_Ct η l y code maxL rt d lc 0 0 as n K I F (am_pS 3 r n K F)) (kk : ∀ v I', t v I' = some r0 → Ok η l M Q q ls (qr v.toNat :: st) n K I' F c z) : am_cl x t = some r0 → Ok η l M Q pc ls st0 n K I F c z := by
  intro g
  cases hx : x with
  | none => rw [hx] at g; cases g
  | some p =>
    rw [hx] at g
    refine ok_callS hd hq hm hna hst hw hf hlc hc hz (hCt p hx) ?_
    intro v n' K' I' F' hp
    obtain ⟨rfl, rfl, rfl, rfl, rfl⟩ := hp
    exact kk p.1 p.2 g
theorem fi_callS3A {x : Option am_A} {t : Int → Nat → am_K → am_I → am_F → Nat → Nat → Option am_A} {idx d lc na p1 p2 p3 p4 p5 : Nat} {y : MethodName} {code : ByteArray} {maxL : Nat} {rt : Option FieldType} {as st0 : List am_V} (hd : decode M.2.1 pc = .ok (.invokestatic idx, 3)) (hq : pc + 3 = q) (hm : am_mok 1 M.1 idx y code maxL rt na p1 p2 p3 p4 p5 = true) (hna : as.length = na) (hst : st0 = as.reverse ++ st) (hw : (st.map am_cat).sum ≤ 8) (hf : d + 1 ≤ M.2.2.2.2.1.frames) (hlc : 8 + (maxL + 11) + lc ≤ M.2.2.2.2.1.locals) (hcM : am_ac1 rA ≤ M.2.2.2.2.1.cells) (hzM : am_az1 rA ≤ M.2.2.2.2.1.slots) (hCt : ∀ r, x = some r → am_Ct η l y code maxL rt d lc (am_ac1 r) (am_az1 r) as n K I F (am_pA 3 r)) (kk : ∀ v n' K' I' F' c' z', c + c' ≤ am_ac1 rA → z + z' ≤ am_az1 rA → t v n' K' I' F' c' z' = some rA → Ok η l M Q q ls (qr v.toNat :: st) n' K' I' F' (c + c') (z + z')) : am_ca x (fun v n' K' I' F' c' z' => am_mo (c + c') (z + z') (t v n' K' I' F' c' z')) = some rA → Ok η l M Q pc ls st0 n K I F c z := by
  intro g
  cases hx : x with
  | none => rw [hx] at g; cases g
  | some p =>
    rw [hx] at g
    refine fi_mo (fun h1 h2 g => ?_) g
    refine ok_callS hd hq hm hna hst hw hf hlc (Nat.le_trans h1 hcM) (Nat.le_trans h2 hzM) (hCt p hx) ?_
    intro v n' K' I' F' hp
    obtain ⟨rfl, rfl, rfl, rfl, rfl⟩ := hp
    exact kk p.1 p.2.1 p.2.2.1 p.2.2.2.1 p.2.2.2.2.1 p.2.2.2.2.2.1 p.2.2.2.2.2.2 h1 h2 g
theorem fi_callI0S {x : Option (Int × am_I)} {t : Int → am_I → Option ρ} {idx d lc na p1 p2 p3 p4 p5 : Nat} {a : Nat} {y : MethodName} {code : ByteArray} {maxL : Nat} {as st0 : List am_V} (hd : decode M.2.1 pc = .ok (.invokespecial idx, 3)) (hq : pc + 3 = q) (hm : am_mok 2 M.1 idx y code maxL none na p1 p2 p3 p4 p5 = true) (ha0 : a ≠ 0) (hna : as.length = na) (hst : st0 = as.reverse ++ qr a :: st) (hw : (st.map am_cat).sum ≤ 8) (hf : d + 1 ≤ M.2.2.2.2.1.frames) (hlc : 8 + (maxL + 11) + lc ≤ M.2.2.2.2.1.locals) (hc : c ≤ M.2.2.2.2.1.cells) (hz : z ≤ M.2.2.2.2.1.slots) (hCt : ∀ r, x = some r → am_Ct η l y code maxL none d lc 0 0 (qr a :: as) n K I F (am_pS 0 r n K F)) (kk : ∀ v I', t v I' = some r0 → Ok η l M Q q ls (st) n K I' F c z) : am_cl x t = some r0 → Ok η l M Q pc ls st0 n K I F c z := by
  intro g
  cases hx : x with
  | none => rw [hx] at g; cases g
  | some p =>
    rw [hx] at g
    refine ok_callI hd hq hm ha0 hna hst hw hf hlc hc hz (hCt p hx) ?_
    intro v n' K' I' F' hp
    obtain ⟨rfl, rfl, rfl, rfl, rfl⟩ := hp
    exact kk p.1 p.2 g
theorem fi_callI0A {x : Option am_A} {t : Int → Nat → am_K → am_I → am_F → Nat → Nat → Option am_A} {idx d lc na p1 p2 p3 p4 p5 : Nat} {a : Nat} {y : MethodName} {code : ByteArray} {maxL : Nat} {as st0 : List am_V} (hd : decode M.2.1 pc = .ok (.invokespecial idx, 3)) (hq : pc + 3 = q) (hm : am_mok 2 M.1 idx y code maxL none na p1 p2 p3 p4 p5 = true) (ha0 : a ≠ 0) (hna : as.length = na) (hst : st0 = as.reverse ++ qr a :: st) (hw : (st.map am_cat).sum ≤ 8) (hf : d + 1 ≤ M.2.2.2.2.1.frames) (hlc : 8 + (maxL + 11) + lc ≤ M.2.2.2.2.1.locals) (hcM : am_ac1 rA ≤ M.2.2.2.2.1.cells) (hzM : am_az1 rA ≤ M.2.2.2.2.1.slots) (hCt : ∀ r, x = some r → am_Ct η l y code maxL none d lc (am_ac1 r) (am_az1 r) (qr a :: as) n K I F (am_pA 0 r)) (kk : ∀ v n' K' I' F' c' z', c + c' ≤ am_ac1 rA → z + z' ≤ am_az1 rA → t v n' K' I' F' c' z' = some rA → Ok η l M Q q ls (st) n' K' I' F' (c + c') (z + z')) : am_ca x (fun v n' K' I' F' c' z' => am_mo (c + c') (z + z') (t v n' K' I' F' c' z')) = some rA → Ok η l M Q pc ls st0 n K I F c z := by
  intro g
  cases hx : x with
  | none => rw [hx] at g; cases g
  | some p =>
    rw [hx] at g
    refine fi_mo (fun h1 h2 g => ?_) g
    refine ok_callI hd hq hm ha0 hna hst hw hf hlc (Nat.le_trans h1 hcM) (Nat.le_trans h2 hzM) (hCt p hx) ?_
    intro v n' K' I' F' hp
    obtain ⟨rfl, rfl, rfl, rfl, rfl⟩ := hp
    exact kk p.1 p.2.1 p.2.2.1 p.2.2.2.1 p.2.2.2.2.1 p.2.2.2.2.2.1 p.2.2.2.2.2.2 h1 h2 g
theorem fi_returnP (hd : decode M.2.1 pc = .ok (.return_, 1)) (hr : M.2.2.2.1 = none) : some (0) = some rP → Ok η l M (am_qm η (am_pS 0 (rP, I) n K F) 0 0) pc ls [] n K I F 0 0 := fun g => ok_return hd hr (Nat.le_refl _) (Nat.le_refl _) (by cases g; exact ⟨rfl, rfl, rfl, rfl, rfl⟩)
theorem fi_ireturnP {x : Int} (hd : decode M.2.1 pc = .ok (.ireturn, 1)) (hr : M.2.2.2.1 = some .int) : some (x) = some rP → Ok η l M (am_qm η (am_pS 1 (rP, I) n K F) 0 0) pc ls [qi x] n K I F 0 0 := fun g => ok_ireturn hd hr (Nat.le_refl _) (Nat.le_refl _) (by cases g; exact ⟨rfl, rfl, rfl, rfl, rfl⟩)
theorem fi_zreturnP {x : Int} (hd : decode M.2.1 pc = .ok (.ireturn, 1)) (hr : M.2.2.2.1 = some .boolean) (hx : x = 0 ∨ x = 1) : some (x) = some rP → Ok η l M (am_qm η (am_pS 1 (rP, I) n K F) 0 0) pc ls [qi x] n K I F 0 0 := fun g => ok_zreturn hd hr hx (Nat.le_refl _) (Nat.le_refl _) (by cases g; exact ⟨rfl, rfl, rfl, rfl, rfl⟩)
theorem fi_lreturnP {x : Int} (hd : decode M.2.1 pc = .ok (.lreturn, 1)) (hr : M.2.2.2.1 = some .long) : some (x) = some rP → Ok η l M (am_qm η (am_pS 2 (rP, I) n K F) 0 0) pc ls [ql x] n K I F 0 0 := fun g => ok_lreturn hd hr (Nat.le_refl _) (Nat.le_refl _) (by cases g; exact ⟨rfl, rfl, rfl, rfl, rfl⟩)
theorem fi_callV0P {x : Option Int} {t : Int → Option ρ} {idx d lc na p1 p2 p3 p4 p5 : Nat} {a ci : Nat} {y : MethodName} {code : ByteArray} {maxL : Nat} {rt : Option FieldType} {as st0 : List am_V} (hd : decode M.2.1 pc = .ok (.invokevirtual idx, 3)) (hq : pc + 3 = q) (hm : am_mok 0 M.1 idx y code maxL rt na p1 p2 p3 p4 p5 = true) (hk : (K a).1 = ci) (hci : (vwCl[ci]?).map (fun r => r.1) = some y.cls) (hlt : ci < 100) (hna : as.length = na) (hst : st0 = as.reverse ++ qr a :: st) (hw : (st.map am_cat).sum ≤ 8) (hf : d + 1 ≤ M.2.2.2.2.1.frames) (hlc : 8 + (maxL + 11) + lc ≤ M.2.2.2.2.1.locals) (hc : c ≤ M.2.2.2.2.1.cells) (hz : z ≤ M.2.2.2.2.1.slots) (hCt : ∀ r, x = some r → am_Ct η l y code maxL rt d lc 0 0 (qr a :: as) n K I F (am_pS 0 (r, I) n K F)) (kk : ∀ v, t v = some r0 → Ok η l M Q q ls (st) n K I F c z) : am_cq x t = some r0 → Ok η l M Q pc ls st0 n K I F c z := by
  intro g
  cases hx : x with
  | none => rw [hx] at g; cases g
  | some p =>
    rw [hx] at g
    refine ok_callV hd hq hm hk hci hlt hna hst hw hf hlc hc hz (hCt p hx) ?_
    intro v n' K' I' F' hp
    obtain ⟨rfl, rfl, rfl, rfl, rfl⟩ := hp
    exact kk p g
theorem fi_callV1P {x : Option Int} {t : Int → Option ρ} {idx d lc na p1 p2 p3 p4 p5 : Nat} {a ci : Nat} {y : MethodName} {code : ByteArray} {maxL : Nat} {rt : Option FieldType} {as st0 : List am_V} (hd : decode M.2.1 pc = .ok (.invokevirtual idx, 3)) (hq : pc + 3 = q) (hm : am_mok 0 M.1 idx y code maxL rt na p1 p2 p3 p4 p5 = true) (hk : (K a).1 = ci) (hci : (vwCl[ci]?).map (fun r => r.1) = some y.cls) (hlt : ci < 100) (hna : as.length = na) (hst : st0 = as.reverse ++ qr a :: st) (hw : (st.map am_cat).sum ≤ 8) (hf : d + 1 ≤ M.2.2.2.2.1.frames) (hlc : 8 + (maxL + 11) + lc ≤ M.2.2.2.2.1.locals) (hc : c ≤ M.2.2.2.2.1.cells) (hz : z ≤ M.2.2.2.2.1.slots) (hCt : ∀ r, x = some r → am_Ct η l y code maxL rt d lc 0 0 (qr a :: as) n K I F (am_pS 1 (r, I) n K F)) (kk : ∀ v, t v = some r0 → Ok η l M Q q ls (qi v :: st) n K I F c z) : am_cq x t = some r0 → Ok η l M Q pc ls st0 n K I F c z := by
  intro g
  cases hx : x with
  | none => rw [hx] at g; cases g
  | some p =>
    rw [hx] at g
    refine ok_callV hd hq hm hk hci hlt hna hst hw hf hlc hc hz (hCt p hx) ?_
    intro v n' K' I' F' hp
    obtain ⟨rfl, rfl, rfl, rfl, rfl⟩ := hp
    exact kk p g
theorem fi_callV2P {x : Option Int} {t : Int → Option ρ} {idx d lc na p1 p2 p3 p4 p5 : Nat} {a ci : Nat} {y : MethodName} {code : ByteArray} {maxL : Nat} {rt : Option FieldType} {as st0 : List am_V} (hd : decode M.2.1 pc = .ok (.invokevirtual idx, 3)) (hq : pc + 3 = q) (hm : am_mok 0 M.1 idx y code maxL rt na p1 p2 p3 p4 p5 = true) (hk : (K a).1 = ci) (hci : (vwCl[ci]?).map (fun r => r.1) = some y.cls) (hlt : ci < 100) (hna : as.length = na) (hst : st0 = as.reverse ++ qr a :: st) (hw : (st.map am_cat).sum ≤ 8) (hf : d + 1 ≤ M.2.2.2.2.1.frames) (hlc : 8 + (maxL + 11) + lc ≤ M.2.2.2.2.1.locals) (hc : c ≤ M.2.2.2.2.1.cells) (hz : z ≤ M.2.2.2.2.1.slots) (hCt : ∀ r, x = some r → am_Ct η l y code maxL rt d lc 0 0 (qr a :: as) n K I F (am_pS 2 (r, I) n K F)) (kk : ∀ v, t v = some r0 → Ok η l M Q q ls (ql v :: st) n K I F c z) : am_cq x t = some r0 → Ok η l M Q pc ls st0 n K I F c z := by
  intro g
  cases hx : x with
  | none => rw [hx] at g; cases g
  | some p =>
    rw [hx] at g
    refine ok_callV hd hq hm hk hci hlt hna hst hw hf hlc hc hz (hCt p hx) ?_
    intro v n' K' I' F' hp
    obtain ⟨rfl, rfl, rfl, rfl, rfl⟩ := hp
    exact kk p g
theorem fi_callS0P {x : Option Int} {t : Int → Option ρ} {idx d lc na p1 p2 p3 p4 p5 : Nat} {y : MethodName} {code : ByteArray} {maxL : Nat} {rt : Option FieldType} {as st0 : List am_V} (hd : decode M.2.1 pc = .ok (.invokestatic idx, 3)) (hq : pc + 3 = q) (hm : am_mok 1 M.1 idx y code maxL rt na p1 p2 p3 p4 p5 = true) (hna : as.length = na) (hst : st0 = as.reverse ++ st) (hw : (st.map am_cat).sum ≤ 8) (hf : d + 1 ≤ M.2.2.2.2.1.frames) (hlc : 8 + (maxL + 11) + lc ≤ M.2.2.2.2.1.locals) (hc : c ≤ M.2.2.2.2.1.cells) (hz : z ≤ M.2.2.2.2.1.slots) (hCt : ∀ r, x = some r → am_Ct η l y code maxL rt d lc 0 0 as n K I F (am_pS 0 (r, I) n K F)) (kk : ∀ v, t v = some r0 → Ok η l M Q q ls (st) n K I F c z) : am_cq x t = some r0 → Ok η l M Q pc ls st0 n K I F c z := by
  intro g
  cases hx : x with
  | none => rw [hx] at g; cases g
  | some p =>
    rw [hx] at g
    refine ok_callS hd hq hm hna hst hw hf hlc hc hz (hCt p hx) ?_
    intro v n' K' I' F' hp
    obtain ⟨rfl, rfl, rfl, rfl, rfl⟩ := hp
    exact kk p g
theorem fi_callS1P {x : Option Int} {t : Int → Option ρ} {idx d lc na p1 p2 p3 p4 p5 : Nat} {y : MethodName} {code : ByteArray} {maxL : Nat} {rt : Option FieldType} {as st0 : List am_V} (hd : decode M.2.1 pc = .ok (.invokestatic idx, 3)) (hq : pc + 3 = q) (hm : am_mok 1 M.1 idx y code maxL rt na p1 p2 p3 p4 p5 = true) (hna : as.length = na) (hst : st0 = as.reverse ++ st) (hw : (st.map am_cat).sum ≤ 8) (hf : d + 1 ≤ M.2.2.2.2.1.frames) (hlc : 8 + (maxL + 11) + lc ≤ M.2.2.2.2.1.locals) (hc : c ≤ M.2.2.2.2.1.cells) (hz : z ≤ M.2.2.2.2.1.slots) (hCt : ∀ r, x = some r → am_Ct η l y code maxL rt d lc 0 0 as n K I F (am_pS 1 (r, I) n K F)) (kk : ∀ v, t v = some r0 → Ok η l M Q q ls (qi v :: st) n K I F c z) : am_cq x t = some r0 → Ok η l M Q pc ls st0 n K I F c z := by
  intro g
  cases hx : x with
  | none => rw [hx] at g; cases g
  | some p =>
    rw [hx] at g
    refine ok_callS hd hq hm hna hst hw hf hlc hc hz (hCt p hx) ?_
    intro v n' K' I' F' hp
    obtain ⟨rfl, rfl, rfl, rfl, rfl⟩ := hp
    exact kk p g
theorem fi_callS2P {x : Option Int} {t : Int → Option ρ} {idx d lc na p1 p2 p3 p4 p5 : Nat} {y : MethodName} {code : ByteArray} {maxL : Nat} {rt : Option FieldType} {as st0 : List am_V} (hd : decode M.2.1 pc = .ok (.invokestatic idx, 3)) (hq : pc + 3 = q) (hm : am_mok 1 M.1 idx y code maxL rt na p1 p2 p3 p4 p5 = true) (hna : as.length = na) (hst : st0 = as.reverse ++ st) (hw : (st.map am_cat).sum ≤ 8) (hf : d + 1 ≤ M.2.2.2.2.1.frames) (hlc : 8 + (maxL + 11) + lc ≤ M.2.2.2.2.1.locals) (hc : c ≤ M.2.2.2.2.1.cells) (hz : z ≤ M.2.2.2.2.1.slots) (hCt : ∀ r, x = some r → am_Ct η l y code maxL rt d lc 0 0 as n K I F (am_pS 2 (r, I) n K F)) (kk : ∀ v, t v = some r0 → Ok η l M Q q ls (ql v :: st) n K I F c z) : am_cq x t = some r0 → Ok η l M Q pc ls st0 n K I F c z := by
  intro g
  cases hx : x with
  | none => rw [hx] at g; cases g
  | some p =>
    rw [hx] at g
    refine ok_callS hd hq hm hna hst hw hf hlc hc hz (hCt p hx) ?_
    intro v n' K' I' F' hp
    obtain ⟨rfl, rfl, rfl, rfl, rfl⟩ := hp
    exact kk p g
theorem fi_callI0P {x : Option Int} {t : Int → Option ρ} {idx d lc na p1 p2 p3 p4 p5 : Nat} {a : Nat} {y : MethodName} {code : ByteArray} {maxL : Nat} {as st0 : List am_V} (hd : decode M.2.1 pc = .ok (.invokespecial idx, 3)) (hq : pc + 3 = q) (hm : am_mok 2 M.1 idx y code maxL none na p1 p2 p3 p4 p5 = true) (ha0 : a ≠ 0) (hna : as.length = na) (hst : st0 = as.reverse ++ qr a :: st) (hw : (st.map am_cat).sum ≤ 8) (hf : d + 1 ≤ M.2.2.2.2.1.frames) (hlc : 8 + (maxL + 11) + lc ≤ M.2.2.2.2.1.locals) (hc : c ≤ M.2.2.2.2.1.cells) (hz : z ≤ M.2.2.2.2.1.slots) (hCt : ∀ r, x = some r → am_Ct η l y code maxL none d lc 0 0 (qr a :: as) n K I F (am_pS 0 (r, I) n K F)) (kk : ∀ v, t v = some r0 → Ok η l M Q q ls (st) n K I F c z) : am_cq x t = some r0 → Ok η l M Q pc ls st0 n K I F c z := by
  intro g
  cases hx : x with
  | none => rw [hx] at g; cases g
  | some p =>
    rw [hx] at g
    refine ok_callI hd hq hm ha0 hna hst hw hf hlc hc hz (hCt p hx) ?_
    intro v n' K' I' F' hp
    obtain ⟨rfl, rfl, rfl, rfl, rfl⟩ := hp
    exact kk p g
end OKC
