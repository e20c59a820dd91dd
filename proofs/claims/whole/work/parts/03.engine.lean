-- ENGINE: an abstract machine over pure memory. Values: int, long, reference (0 = null). Memory: n cells, K kinds, I ints, L longs, F references.
abbrev am_V : Type := Int ⊕ (Int ⊕ Nat)
abbrev qi (x : Int) : am_V := Sum.inl x
abbrev ql (x : Int) : am_V := Sum.inr (Sum.inl x)
abbrev qr (a : Nat) : am_V := Sum.inr (Sum.inr a)
abbrev am_inI (x : Int) : Prop := -2147483648 ≤ x ∧ x ≤ 2147483647
abbrev am_inL (x : Int) : Prop := -9223372036854775808 ≤ x ∧ x ≤ 9223372036854775807
def am_wI (x : Int) : Int := (x + 2147483648) % 4294967296 - 2147483648
def am_wL (x : Int) : Int := (x + 9223372036854775808) % 18446744073709551616 - 9223372036854775808
theorem am_wI_in (x : Int) : am_inI (am_wI x) := by unfold am_wI; constructor <;> omega
theorem am_wL_in (x : Int) : am_inL (am_wL x) := by unfold am_wL; constructor <;> omega
theorem am_wI_id {x : Int} (h : am_inI x) : am_wI x = x := by unfold am_wI; obtain ⟨h1, h2⟩ := h; omega
theorem am_wL_id {x : Int} (h : am_inL x) : am_wL x = x := by unfold am_wL; obtain ⟨h1, h2⟩ := h; omega
theorem am_bmodI (x : Int) : x.bmod 4294967296 = am_wI x := by
  unfold am_wI Int.bmod
  have h1 := Int.emod_nonneg x (show (4294967296 : Int) ≠ 0 by decide)
  have h2 := Int.emod_lt_of_pos x (show (0 : Int) < 4294967296 by decide)
  dsimp only
  split <;> omega
theorem am_bmodL (x : Int) : x.bmod 18446744073709551616 = am_wL x := by
  unfold am_wL Int.bmod
  have h1 := Int.emod_nonneg x (show (18446744073709551616 : Int) ≠ 0 by decide)
  have h2 := Int.emod_lt_of_pos x (show (0 : Int) < 18446744073709551616 by decide)
  dsimp only
  split <;> omega
theorem am_tI (x : Int) : (Int32.ofInt x).toInt = am_wI x := by
  rw [← am_bmodI]; exact Int32.toInt_ofInt
theorem am_tL (x : Int) : (Int64.ofInt x).toInt = am_wL x := by
  rw [← am_bmodL]; exact Int64.toInt_ofInt
theorem am_tIi {x : Int} (h : am_inI x) : (Int32.ofInt x).toInt = x := by rw [am_tI, am_wI_id h]
theorem am_tLi {x : Int} (h : am_inL x) : (Int64.ofInt x).toInt = x := by rw [am_tL, am_wL_id h]
theorem am_eqI {a b : Int32} (h : a.toInt = b.toInt) : a = b := Int32.toInt_inj.mp h
theorem am_eqL {a b : Int64} (h : a.toInt = b.toInt) : a = b := Int64.toInt_inj.mp h
theorem am_ofI (a : Int32) : Int32.ofInt a.toInt = a := by simp
theorem am_ofL (a : Int64) : Int64.ofInt a.toInt = a := by simp
theorem am_rgI (a : Int32) : am_inI a.toInt := by
  have h := am_wI_in a.toInt
  rw [← am_tI, am_ofI] at h
  exact h
theorem am_rgL (a : Int64) : am_inL a.toInt := by
  have h := am_wL_in a.toInt
  rw [← am_tL, am_ofL] at h
  exact h
theorem am_addI (x y : Int) : Int32.ofInt x + Int32.ofInt y = Int32.ofInt (am_wI (x + y)) := by
  apply am_eqI
  rw [am_tI, am_wI_id (am_wI_in _), Int32.toInt_add, am_tI, am_tI]
  rw [show (2 ^ 32 : Nat) = 4294967296 from rfl, am_bmodI]
  unfold am_wI; omega
theorem am_subI (x y : Int) : Int32.ofInt x - Int32.ofInt y = Int32.ofInt (am_wI (x - y)) := by
  apply am_eqI
  rw [am_tI, am_wI_id (am_wI_in _), Int32.toInt_sub, am_tI, am_tI]
  rw [show (2 ^ 32 : Nat) = 4294967296 from rfl, am_bmodI]
  unfold am_wI; omega
theorem am_mulI (x y : Int) : Int32.ofInt x * Int32.ofInt y = Int32.ofInt (am_wI (x * y)) := by
  rw [← Int32.ofInt_mul]
  apply am_eqI
  rw [am_tI, am_tI, am_wI_id (am_wI_in _)]
theorem am_addL (x y : Int) : Int64.ofInt x + Int64.ofInt y = Int64.ofInt (am_wL (x + y)) := by
  rw [← Int64.ofInt_add]
  apply am_eqL
  rw [am_tL, am_tL, am_wL_id (am_wL_in _)]
theorem am_subL (x y : Int) : Int64.ofInt x - Int64.ofInt y = Int64.ofInt (am_wL (x - y)) := by
  rw [← Int64.ofInt_sub]
  apply am_eqL
  rw [am_tL, am_tL, am_wL_id (am_wL_in _)]
theorem am_mulL (x y : Int) : Int64.ofInt x * Int64.ofInt y = Int64.ofInt (am_wL (x * y)) := by
  rw [← Int64.ofInt_mul]
  apply am_eqL
  rw [am_tL, am_tL, am_wL_id (am_wL_in _)]
theorem am_ltI {x y : Int} (hx : am_inI x) (hy : am_inI y) : Int32.ofInt x < Int32.ofInt y ↔ x < y := by
  rw [Int32.lt_iff_toInt_lt, am_tIi hx, am_tIi hy]
theorem am_leI {x y : Int} (hx : am_inI x) (hy : am_inI y) : Int32.ofInt x ≤ Int32.ofInt y ↔ x ≤ y := by
  rw [Int32.le_iff_toInt_le, am_tIi hx, am_tIi hy]
theorem am_eI {x y : Int} (hx : am_inI x) (hy : am_inI y) : Int32.ofInt x = Int32.ofInt y ↔ x = y := by
  constructor
  · intro h
    have h2 := congrArg Int32.toInt h
    rwa [am_tIi hx, am_tIi hy] at h2
  · intro h; rw [h]
theorem am_ltL {x y : Int} (hx : am_inL x) (hy : am_inL y) : Int64.ofInt x < Int64.ofInt y ↔ x < y := by
  rw [Int64.lt_iff_toInt_lt, am_tLi hx, am_tLi hy]
theorem am_eL {x y : Int} (hx : am_inL x) (hy : am_inL y) : Int64.ofInt x = Int64.ofInt y ↔ x = y := by
  constructor
  · intro h
    have h2 := congrArg Int64.toInt h
    rwa [am_tLi hx, am_tLi hy] at h2
  · intro h; rw [h]
/-- an int as an index -/
theorem am_clamp {x : Int} (hx : am_inI x) : (Int32.ofInt x).toNatClampNeg = x.toNat := by
  show (Int32.ofInt x).toInt.toNat = x.toNat
  rw [am_tIi hx]
abbrev am_I : Type := Nat → Int → Int
abbrev am_F : Type := Nat → Int → Nat
abbrev am_K : Type := Nat → Nat × Int
def am_u1 {α : Type} (K : Nat → α) (a : Nat) (v : α) : Nat → α := fun b => if b = a then v else K b
def am_u2 {α : Type} (I : Nat → Int → α) (a : Nat) (k : Int) (v : α) : Nat → Int → α := fun b j => if b = a ∧ j = k then v else I b j
def am_zr {α : Type} (I : Nat → Int → α) (a : Nat) (v : α) : Nat → Int → α := fun b j => if b = a then v else I b j
def am_cp {α : Type} (I : Nat → Int → α) (a0 : Nat) (sp : Int) (a : Nat) (dp m : Int) : Nat → Int → α := fun b j => if b = a ∧ dp ≤ j ∧ j < dp + m then I a0 (sp + (j - dp)) else I b j
/-- a name for a value that the program keeps -/
def am_lt {α β : Type} (v : α) (f : α → β) : β := f v
theorem am_u1_s {α : Type} (K : Nat → α) (a : Nat) (v : α) : am_u1 K a v a = v := if_pos rfl
theorem am_u1_n {α : Type} {K : Nat → α} {a b : Nat} {v : α} (h : b ≠ a) : am_u1 K a v b = K b := if_neg h
theorem am_u2_s {α : Type} (I : Nat → Int → α) (a : Nat) (k : Int) (v : α) : am_u2 I a k v a k = v := if_pos ⟨rfl, rfl⟩
theorem am_u2_a {α : Type} {I : Nat → Int → α} {a b : Nat} {k j : Int} {v : α} (h : b ≠ a) : am_u2 I a k v b j = I b j := if_neg (fun q => h q.1)
theorem am_u2_k {α : Type} {I : Nat → Int → α} {a b : Nat} {k j : Int} {v : α} (h : j ≠ k) : am_u2 I a k v b j = I b j := if_neg (fun q => h q.2)
theorem am_zr_s {α : Type} (I : Nat → Int → α) (a : Nat) (v : α) (j : Int) : am_zr I a v a j = v := if_pos rfl
theorem am_zr_a {α : Type} {I : Nat → Int → α} {a b : Nat} {j : Int} {v : α} (h : b ≠ a) : am_zr I a v b j = I b j := if_neg h
/-- what is fixed over a run of the law: the classes' numbers, the array classes, where new cells begin, the script's cell -/
abbrev am_E : Type := va_G × (Nat → ClassId) × Nat × Nat
def am_ad (η : am_E) (a : Nat) : Nat := if a = 1 then η.2.2.2 else η.2.2.1 + a - 1
def am_cv (η : am_E) : am_V → Value
  | .inl x => .int (Int32.ofInt x)
  | .inr (.inl x) => .long (Int64.ofInt x)
  | .inr (.inr 0) => .null
  | .inr (.inr (a + 1)) => .ref (am_ad η (a + 1))
def am_ok : am_V → Prop
  | .inl x => am_inI x
  | .inr (.inl x) => am_inL x
  | .inr (.inr _) => True
def am_cat : am_V → Nat
  | .inr (.inl _) => 2
  | _ => 1
theorem am_cat_cv (η : am_E) (v : am_V) : (am_cv η v).category = am_cat v := by
  match v with
  | .inl x => rfl
  | .inr (.inl x) => rfl
  | .inr (.inr 0) => rfl
  | .inr (.inr (a + 1)) => rfl
theorem am_cv_r (η : am_E) {a : Nat} (h : a ≠ 0) : am_cv η (qr a) = .ref (am_ad η a) := by
  match a, h with
  | a + 1, _ => rfl
/-- a loop: the step's function, from what it answers when no round is left -/
def am_it {α : Type} (s : α → α) (z : α) : Nat → α
  | 0 => z
  | f + 1 => s (am_it s z f)
def am_iand (x y : Int) : Int := (Int32.ofInt x &&& Int32.ofInt y).toInt
def am_ior (x y : Int) : Int := (Int32.ofInt x ||| Int32.ofInt y).toInt
def am_ixor (x y : Int) : Int := (Int32.ofInt x ^^^ Int32.ofInt y).toInt
def am_ishl (x y : Int) : Int := (Int32.ofInt x <<< (Int32.ofInt y &&& 31)).toInt
def am_ishr (x y : Int) : Int := (Int32.ofInt x >>> (Int32.ofInt y &&& 31)).toInt
def am_land (x y : Int) : Int := (Int64.ofInt x &&& Int64.ofInt y).toInt
def am_lor (x y : Int) : Int := (Int64.ofInt x ||| Int64.ofInt y).toInt
def am_lxor (x y : Int) : Int := (Int64.ofInt x ^^^ Int64.ofInt y).toInt
def am_lshl (x y : Int) : Int := (Int64.ofInt x <<< ((Int32.ofInt y).toInt64 &&& 63)).toInt
def am_lshr (x y : Int) : Int := (Int64.ofInt x >>> ((Int32.ofInt y).toInt64 &&& 63)).toInt
def am_lushr (x y : Int) : Int := (((Int64.ofInt x).toUInt64 >>> ((Int32.ofInt y).toInt64.toUInt64 &&& Int64.toUInt64 63)).toInt64).toInt
def am_idiv (x y : Int) : Int := (Int32.ofInt x / Int32.ofInt y).toInt
def am_irem (x y : Int) : Int := (Int32.ofInt x - Int32.ofInt x / Int32.ofInt y * Int32.ofInt y).toInt
def am_ldiv (x y : Int) : Int := (Int64.ofInt x / Int64.ofInt y).toInt
def am_lrem (x y : Int) : Int := (Int64.ofInt x - Int64.ofInt x / Int64.ofInt y * Int64.ofInt y).toInt
def am_max (x y : Int) : Int := if x < y then y else x
def am_min (x y : Int) : Int := if y < x then y else x
def am_ty : List FieldType := [.int, .boolean, .long, .array .int, .object "SowingHouse$Player"]
theorem am_ty0 : am_ty[0]? = some .int := rfl
theorem am_ty1 : am_ty[1]? = some .boolean := rfl
theorem am_ty2 : am_ty[2]? = some .long := rfl
-- THE RELATION. am_ty: the element types of the arrays that are made (tag 100 + place); vwCl: the classes (tag = place)
def am_fc (d : String) : Nat := if d = "J" then 1 else if d = "I" then 0 else if d = "Z" then 0 else 2
def am_ac (t : Nat) : Nat := if t < 102 then 0 else if t = 102 then 1 else 2
def am_sv (η : am_E) (I : am_I) (F : am_F) (t : Nat) (a : Nat) (k : Int) : Value :=
  if t = 0 then am_cv η (qi (I a k)) else if t = 1 then am_cv η (ql (I a k)) else am_cv η (qr (F a k))
def am_sok (t : Nat) (x : Int) : Prop := (t = 0 → am_inI x) ∧ (t = 1 → am_inL x)
def am_fv (η : am_E) (I : am_I) (F : am_F) (T : u_T) (a k : Nat) : Value := am_sv η I F (am_fc (T k).2.2.1) a (k : Int)
def am_av (η : am_E) (I : am_I) (F : am_F) (t a j : Nat) : Value := am_sv η I F (am_ac t) a (j : Int)
def am_tys (η : am_E) : List (ClassId × FieldType) := (List.range am_ty.length).map (fun i => (η.2.1 i, am_ty.getD i .int))
/-- a cell of a kind: (class, 0), or (100 + type, length) -/
def am_at (η : am_E) (I : am_I) (F : am_F) (a : Nat) (kd : Nat × Int) (H : Heap) : Prop :=
  (kd.1 < 100 → ∃ r : vw_C, vwCl[kd.1]? = some r ∧ t_OB (am_ad η a) (η.1.1 kd.1) r.2.2 (η.1.2 kd.1) H (am_fv η I F r.2.1 a) ∧ ∀ k, k < r.2.2 → am_sok (am_fc (r.2.1 k).2.2.1) (I a (k : Int))) ∧
  (100 ≤ kd.1 → kd.1 < 200 → 0 ≤ kd.2 ∧ H[am_ad η a]? = some (arrV (η.2.1 (kd.1 - 100)) kd.2.toNat (am_av η I F kd.1 a)) ∧ ∀ j : Nat, (j : Int) < kd.2 → am_sok (am_ac kd.1) (I a (j : Int)))
def am_R (η : am_E) (s : State) (n : Nat) (K : am_K) (I : am_I) (F : am_F) (H : Heap) : Prop :=
  (H.size = η.2.2.1 + n - 1 ∧ 2 ≤ n ∧ η.2.2.2 < η.2.2.1 + 1) ∧ (∀ a, 2 ≤ a → am_at η I F a (K a) H) ∧ (∀ a, n ≤ a → K a = (999, 0)) ∧ K 0 = (999, 0) ∧
  ((K 1).1 = 100 ∧ 0 ≤ (K 1).2 ∧ va_X η.2.2.2 (K 1).2.toNat (fun j => Int32.ofInt (I 1 (j : Int))) s H ∧ ∀ j : Nat, (j : Int) < (K 1).2 → am_inI (I 1 (j : Int)))
theorem am_R.moved {η : am_E} {u U : State} {n : Nat} {K : am_K} {I : am_I} {F : am_F} {H : Heap} (hvm : u.vm.Alike U.vm) (h : am_R η u n K I F H) : am_R η U n K I F H := by
  obtain ⟨h1, h2, h3, h4, h5, h6, h7, h8⟩ := h
  exact ⟨h1, h2, h3, h4, h5, h6, h7.moved hvm, h8⟩
/-- a kind that is no 999 is a cell that is there -/
theorem am_R.lt {η : am_E} {s : State} {n : Nat} {K : am_K} {I : am_I} {F : am_F} {H : Heap} (h : am_R η s n K I F H) {a : Nat} (hk : (K a).1 ≠ 999) : a ≠ 0 ∧ a < n := by
  obtain ⟨h1, h2, h3, h4, -⟩ := h
  refine ⟨fun e => hk (by rw [e, h4]), Nat.not_le.mp fun e => hk (by rw [h3 a e])⟩
/-- the static facts of an activation: own class, code, locals, answer, room, whether a constructor -/
abbrev am_M : Type := String × ByteArray × Nat × Option FieldType × Room × Bool
def am_gw : List Cond := lw_tbl.filter goodWord
/-- the word at a place of the tables -/
def am_pl (p : Nat) (w : Cond) : Bool := decide (lw_tbl[p]? = some w) && goodWord w
theorem am_pl_in {p : Nat} {w : Cond} (h : am_pl p w = true) : w ∈ am_gw := by
  unfold am_pl at h
  simp only [Bool.and_eq_true, decide_eq_true_eq] at h
  exact List.mem_filter.mpr ⟨List.mem_of_getElem? h.1, h.2⟩
/-- arrays of references: their classes are there -/
def am_AO (s : State) : Prop := va_AO "SowingHouse$Player" s ∧ ∃ (c0 c1 : ClassId) (k : Class), s.vm.findClass (FieldType.array .int).toString = some c0 ∧ (s.vm.classes.findIdx? fun x => match x.kind with | .array component _ => component == c0 | _ => false) = some c1 ∧ s.vm.classes[c1]? = some k ∧ k.kind = .array c0 (.array .int) ∧ s.vm.findClass ("[" ++ (FieldType.array .int).toString) = some c1
theorem am_AO_moved {u U : State} (hvm : u.vm.Alike U.vm) (h : am_AO u) : am_AO U := by
  obtain ⟨h0, c0, c1, k, h1, h2, h3, h4, h5⟩ := h
  obtain ⟨k', hk', he⟩ := hvm.2.2 _ _ h3
  refine ⟨va_AO.moved hvm h0, c0, c1, k', by rw [hvm.findClass]; exact h1, ?_, hk', by rw [he]; exact h4, by rw [hvm.findClass]; exact h5⟩
  rw [hvm.findIdx?_eqK _ (fun _ => rfl)]
  exact h2
def am_C (η : am_E) (M : am_M) (p : Program) (s : State) (m : MethodId) (args : Array Value) (meth : Method) (cd : Code) : Prop :=
  p.tables.exec = Jvm.exec ∧ cd.code = M.2.1 ∧ meth.sig.returnType = M.2.2.2.1 ∧ cd.maxLocals = M.2.2.1 ∧ s.vm.findClass M.1 = some m.cls ∧ (∀ w ∈ am_gw, w.before args s = true) ∧ meth.locks = false ∧ (M.2.2.2.2.2 = true → meth.name = "<init>") ∧ va_K η.1 vwCl (am_tys η) s ∧ am_AO s
abbrev am_L : Type := List (Nat × am_V)
def am_lm (η : am_E) (ls : am_L) : List (Nat × Value) := ls.map (fun q => (q.1, am_cv η q.2))
abbrev am_QM : Type := List Frame → Array Value → State → State → Prop
/-- THE JUDGEMENT: from pc, with these locals, this stack, this memory, c cells and z slots made, the method comes to its end -/
def Ok (η : am_E) (l : Launch) (M : am_M) (Q : am_QM) (pc : Nat) (ls : am_L) (st : List am_V) (n : Nat) (K : am_K) (I : am_I) (F : am_F) (c z : Nat) : Prop :=
  ∀ (p : Program) (e : Env) (s : State) (m : MethodId) (args : Array Value) (below : List Frame) (meth : Method) (cd : Code) (H : Heap) (locs : List Loc) (la : Array Slot),
    am_C η M p s m args meth cd → am_R η s n K I F H → (∀ q ∈ locs, η.2.2.1 + 1 ≤ q.base) → lv_has la M.2.2.1 (am_lm η ls) → (∀ q ∈ ls, am_ok q.2) → (∀ v ∈ st, am_ok v) →
    W p l e M.2.2.2.2.1 s m args below meth cd H locs c z (Q below args s) (F0 m pc la (st.map (am_cv η)))
/-- the same from fewer locals -/
def am_pick (ls : am_L) : List Nat → am_L
  | [] => []
  | j :: js => match ls[j]? with
    | some v => v :: am_pick ls js
    | none => am_pick ls js
theorem am_pick_mem (ls : am_L) : ∀ (js : List Nat) (q : Nat × am_V), q ∈ am_pick ls js → q ∈ ls
  | [], q, h => by cases h
  | j :: js, q, h => by
    unfold am_pick at h
    cases hj : ls[j]? with
    | none => rw [hj] at h; exact am_pick_mem ls js q h
    | some v =>
      rw [hj] at h
      rcases List.mem_cons.mp h with rfl | h
      · exact List.mem_of_getElem? hj
      · exact am_pick_mem ls js q h
theorem ok_pick {η : am_E} {l : Launch} {M : am_M} {Q : am_QM} {pc : Nat} {ls ls' : am_L} {st : List am_V} {n : Nat} {K : am_K} {I : am_I} {F : am_F} {c z : Nat} (js : List Nat) (h : am_pick ls js = ls') (k : Ok η l M Q pc ls' st n K I F c z) : Ok η l M Q pc ls st n K I F c z := by
  subst h
  intro p e s m args below meth cd H locs la hC hR hlo hl okl oks
  refine k p e s m args below meth cd H locs la hC hR hlo ⟨hl.1, hl.2.1, fun q hq => ?_⟩ (fun q hq => okl q (am_pick_mem ls js q hq)) oks
  unfold am_lm at hq
  obtain ⟨x, hx, rfl⟩ := List.mem_map.mp hq
  exact hl.2.2 _ (List.mem_map.mpr ⟨x, am_pick_mem ls js x hx, rfl⟩)
