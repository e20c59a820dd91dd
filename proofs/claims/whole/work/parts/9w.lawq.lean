-- THE LAW: its end, and the script's row
def R_law : String := "SowingHouseLaw"
def lw_P (b : Addr) (xs : List Int32) (args : Array Value) (s : State) : Prop := args = #[.ref b] ∧ s.IntsAt b xs ∧ xs.length ≤ 2560 ∧ (Jvm.Cond.and given_1 narrow_1).before args s = true
def lw_Q (_ : Array Value) (s : State) (o : Outcome) (t : State) : Prop := o = .returned (some (.int 1)) ∧ Framed s o t [] 600000 7302250
def lw_Z (below : List Frame) (a : Array Value) (s : State) : State → Prop := fun t => ∃ o, t.status = .running ∧ Ended t below o ∧ lw_Q a s o t
/-- the law's own end, with 1 on the stack, nothing written that was there before, its room as the claim has it -/
theorem lw_ret {p : Program} {l : Launch} {e : Env} {s : State} {m : MethodId} {below : List Frame} {meth : Method} {c : Code} {b : Nat} (hx : p.tables.exec = Jvm.exec) (hb : c.code = code) (hr : meth.sig.returnType = ret) (hlocks : meth.locks = false) {pc : Nat} {H : Heap} {ls : Array Slot} (hdg : decode code pc = .ok (.ireturn, 1)) : W p l e room_1 s m #[Value.ref b] below meth c H [] 600000 7302250 (lw_Z below #[Value.ref b] s) (F0 m pc ls [.int 1]) := by
  intro T hT X
  obtain ⟨fs, hret, hrun, hended, hW, hframe⟩ := X.leave (v := some (.int 1)) (hlocks := hlocks) (fun h => by rw [hr] at h; cases h)
  have hmeth' : T.vm.method? m = some meth := X.method'
  refine ⟨T.setFrames fs, ?_, .returned (some (.int 1)), hrun, hended, rfl, ⟨_, rfl⟩, hW, hframe⟩
  jvm_step X.here [X.here.top, hx, hb, hdg, hmeth', hr, ret, narrow_b1]
  (try refine ⟨rfl, ?_⟩); (try refine ⟨rfl, ?_⟩)
  first | (intro acts; rw [hret _ acts rfl rfl rfl]) | rw [hret _ _ rfl rfl rfl]
  exact Steps.refl _
/-- what holds at the law's entry: the machine, the code, the tables' words (any of lw_tbl by 'hts w (by decide +kernel)'), the script of L ints xs at the cell b, what the Statement gives of the start (any of its parts by flat_of_before) -/
def lw_At (p : Program) (s : State) (m : MethodId) (meth : Method) (c : Code) (b L : Nat) (xs : Nat → Int32) : Prop :=
  p.tables.exec = Jvm.exec ∧ c.code = code ∧ meth.sig.returnType = ret ∧ c.maxLocals = 4 ∧ s.vm.findClass R_law = some m.cls ∧ (∀ w ∈ lw_tbl, w.before #[Value.ref b] s = true) ∧ va_X b L xs s s.heap ∧ b < s.heap.size ∧ meth.locks = false ∧ (Jvm.Cond.and given_1 narrow_1).before #[Value.ref b] s = true

/-- the law's activation -/
def M_law : am_M := (R_law, code, 4, some .boolean, room_1, false)
/-- the script as a function -/
def ls_y (xs : Nat → Int32) (x : Int) : Int := (xs x.toNat).toInt
def ls_A (η : am_E) (L : Nat) (xs : Nat → Int32) (args : Array Value) (s : State) : Prop := args = #[Value.ref η.2.2.2] ∧ va_X η.2.2.2 L xs s s.heap ∧ s.heap.size = η.2.2.1 + 1
def lq (η : am_E) (L : Nat) (xs : Nat → Int32) : am_QM := fun below args s t => ls_A η L xs args s → lw_Z below args s t
/-- the script's row in the memory -/
def ySc (L : Nat) (xs : Nat → Int32) (K : am_K) (I : am_I) : Prop := (K 1).1 = 100 ∧ (K 1).2 = (L : Int) ∧ ∀ x : Int, 0 ≤ x → x < (L : Int) → I 1 x = ls_y xs x
section LAWQ
variable {η : am_E} {l : Launch} {L : Nat} {xs : Nat → Int32} {pc : Nat} {ls : am_L} {st : List am_V} {n : Nat} {K : am_K} {I : am_I} {F : am_F} {c z : Nat}
theorem ok_scr (k : ySc L xs K I → Ok η l M_law (lq η L xs) pc ls st n K I F c z) : Ok η l M_law (lq η L xs) pc ls st n K I F c z := by
  intro p e s m args below meth cd H locs la hC hR hlo hl okl oks T hT X
  by_cases hA : ls_A η L xs args s
  · refine k ?_ p e s m args below meth cd H locs la hC hR hlo hl okl oks T hT X
    obtain ⟨-, ⟨scr, h1, h2, h3, h4, h5⟩, hs⟩ := hA
    obtain ⟨c', g1, g2, g3, g4⟩ := X.same.2.2.2.2.2 _ _ h1
    have g1' : H[η.2.2.2]? = some c' := by rw [← hT]; exact g1
    obtain ⟨⟨r1, r2, r3⟩, -, -, -, u1, u2, ⟨sc2, q1, q2, q3, q4, q5⟩, u4⟩ := hR
    rw [g1'] at q1
    obtain rfl := Option.some.inj q1
    have hLe : (K 1).2.toNat = L := by rw [← q4, g3, h4]
    have hL2 : (K 1).2 = (L : Int) := by omega
    refine ⟨u1, hL2, fun x a b => ?_⟩
    have hj : x.toNat < L := by omega
    have e1 := q5 x.toNat (by omega)
    rw [g4 x.toNat (fun hm => by have := hlo _ hm; simp only at this; omega), h5 x.toNat hj] at e1
    have e2 : xs x.toNat = Int32.ofInt (I 1 ((x.toNat : Nat) : Int)) := Value.int.inj (Option.some.inj e1)
    have e3 : ((x.toNat : Nat) : Int) = x := by omega
    rw [e3] at e2
    show I 1 x = (xs x.toNat).toInt
    have e4 := u4 x.toNat (by omega)
    rw [e3] at e4
    rw [e2, am_tIi e4]
  · exact ⟨_, Steps.refl _, fun h => absurd h hA⟩
theorem ok_lawret (hd : decode code pc = .ok (.ireturn, 1)) (hc : c ≤ 600000) (hz : z ≤ 7302250) : Ok η l M_law (lq η L xs) pc ls [qi 1] n K I F c z := by
  intro p e s m args below meth cd H locs la hC hR hlo hl okl oks T hT X
  by_cases hA : ls_A η L xs args s
  · obtain ⟨rfl, hx, hs⟩ := id hA
    obtain ⟨t, a1, b1⟩ := va_forget (Q := lw_Z below #[Value.ref η.2.2.2] s) (g := F0 m pc la [.int 1]) (fun q hq => by have := hlo q hq; omega) (W.widen hc hz (lw_ret hC.1 hC.2.1 hC.2.2.1 hC.2.2.2.2.2.2.1 hd)) T hT X
    exact ⟨t, a1, fun _ => b1⟩
  · exact ⟨_, Steps.refl _, fun h => absurd h hA⟩
theorem ls_in (x : Int) : am_inI (ls_y xs x) := am_rgI _
end LAWQ
