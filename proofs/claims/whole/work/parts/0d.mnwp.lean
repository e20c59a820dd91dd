-- ARRAYS OF ARRAYS: the model's law
section MNWP
variable {E : CtlPost} {e : Env} {d : Bool} {acts : List Action} {s T : State} {cA cI cc : ClassId} {kA kI : Class} {g : JFrame}
/-- an array whose slots all hold its default -/
theorem mn_arr {cN cM : ClassId} {kN : Class} {ty : FieldType} {len : Nat} {v : Value} {Q : Addr → Pre} (hk : s.vm.classes[cN]? = some kN) (hkd : kN.kind = .array cM ty) (hL : len ≤ e.platform.arrayLengthLimit) (hB : len * componentBytes ty ≤ e.platform.maxHeapBytes) (hf : fits ty v = true) (hv : v.isDefault = true) (hC : s.heap.size < e.platform.maxCells) (hS : s.slotsUsed + len ≤ e.platform.maxSlots) (hQ : Q s.heap.size d acts (s.pushCell (arrV cN len (fun _ => v)))) : wp (Jvm.newArray cN len v) Q E e d acts s := by
  rw [← arrV_new] at hQ
  have hA : allocActs (Array.replicate len v) s.heap.size acts = acts := by
    have : ((Array.replicate len v).all (·.isDefault)) = true := by rw [Array.all_replicate]; split <;> simp [hv]
    unfold allocActs; rw [if_pos this]
  simp only [Jvm.newArray, Jvm.arrayFits, wp_bind', W.ask, W.ite, Nat.not_lt.mpr hL, if_false, wp_pure', W.theClass, hk, hkd, Nat.not_lt.mpr hB, W.alloc, W.stop, Option.some.injEq, exists_eq_left', Array.size_replicate, hA, gt_iff_lt]
  rw [if_neg (by omega)]
  refine ⟨hC, hS, fun i w hw => ?_, hQ⟩
  rw [Array.getElem?_replicate] at hw
  split at hw
  · cases hw; simp [State.fitsSlot, State.slotType?, hk, hkd, hf]
  · cases hw
theorem mn_top (f : JFrame) (N M : Nat) : ∀ i, mn_st (T.setTop f) cA cI N M i = (mn_st T cA cI N M i).setTop f
  | 0 => rfl
  | i + 1 => by simp only [mn_st, mn_top f N M i, State.heap_setTop, State.pushCell_setTop, State.setCell_setTop]
theorem mn_vm (N M : Nat) : ∀ i, (mn_st T cA cI N M i).vm = T.vm ∧ (mn_st T cA cI N M i).slotsUsed = T.slotsUsed + N + i * M
  | 0 => ⟨rfl, by simp [mn_st, mn_out, arrV_size]⟩
  | i + 1 => by
    obtain ⟨a, b⟩ := mn_vm N M i
    refine ⟨by simp [mn_st, a], ?_⟩
    have e1 : (mn_in cI M).slots.size = M := arrV_size _ _ _
    have e2 : (mn_out cA N T.heap.size (i + 1)).slots.size = N := arrV_size _ _ _
    simp [mn_st, b, e1, Nat.succ_mul]
    omega
theorem mn_make {n m : Int32} {Q : Addr → Pre} (hA : s.vm.classes[cA]? = some kA) (hkA : kA.kind = .array cI (.array .int)) (hI : s.vm.classes[cI]? = some kI) (hkI : kI.kind = .array cc .int) (hn : ¬ n < 0) (hm : ¬ m < 0) (hL1 : n.toNatClampNeg ≤ e.platform.arrayLengthLimit) (hB1 : n.toNatClampNeg * 4 ≤ e.platform.maxHeapBytes) (hL2 : m.toNatClampNeg ≤ e.platform.arrayLengthLimit) (hB2 : m.toNatClampNeg * 4 ≤ e.platform.maxHeapBytes) (hC : s.heap.size + 1 + n.toNatClampNeg ≤ e.platform.maxCells) (hS : s.slotsUsed + n.toNatClampNeg + n.toNatClampNeg * m.toNatClampNeg ≤ e.platform.maxSlots) (hQ : ∀ d' acts', Q s.heap.size d' acts' (mn_st s cA cI n.toNatClampNeg m.toNatClampNeg n.toNatClampNeg)) : wp (multianewarray.make cA [n, m]) Q E e d acts s := by
  have z0 := Nat.zero_le (n.toNatClampNeg * m.toNatClampNeg)
  rw [multianewarray.make]
  simp only [wp_bind', W.ite, hn, if_false, wp_pure', W.theClass, hA, hkA, Option.some.injEq, exists_eq_left']
  refine mn_arr hA hkA hL1 hB1 rfl rfl (by omega) (by omega) ?_
  have ef : ([m].find? (· < 0)) = none := by simp [hm]
  simp only [ef]
  rw [ite_self, wp_bind', Std.Legacy.Range.forIn_eq_forIn_range']
  have sz : ([:n.toNatClampNeg] : Std.Legacy.Range).size = n.toNatClampNeg := by simp [Std.Legacy.Range.size]
  rw [sz]
  have s0 : s.pushCell (arrV cA n.toNatClampNeg (fun _ => Value.null)) = mn_st s cA cI n.toNatClampNeg m.toNatClampNeg 0 := by
    show _ = s.pushCell (mn_out cA n.toNatClampNeg s.heap.size 0)
    unfold mn_out
    rw [am_arrV (f := fun j => if j < 0 then Value.ref (s.heap.size + 1 + j) else Value.null) (g := fun _ => Value.null) (fun j _ => if_neg (Nat.not_lt_zero j))]
  rw [s0]
  generalize hN : n.toNatClampNeg = N at *
  generalize hM : m.toNatClampNeg = M at *
  refine wp_forIn_inv (fun l t => ∃ i, i + l.length = N ∧ l = List.range' i l.length ∧ t = mn_st s cA cI N M i) _ _ ⟨0, by simp, by simp, rfl⟩ ?_ ?_
  · rintro x l t d1 a1 Q1 ⟨i, hi, hl, rfl⟩ nxt
    rw [List.length_cons] at hi hl
    rw [List.range'_succ] at hl
    obtain ⟨rfl, hl2⟩ := List.cons.inj hl
    obtain ⟨h1, h2, -, -⟩ := mn_heap (T := s) (cA := cA) (cI := cI) (N := N) (M := M) x
    obtain ⟨v1, v2⟩ := mn_vm (T := s) (cA := cA) (cI := cI) N M x
    have mul : x * M + M ≤ N * M := by
      have := Nat.mul_le_mul_right M (show x + 1 ≤ N by omega)
      rw [Nat.succ_mul] at this; exact this
    rw [wp_bind', multianewarray.make]
    simp only [wp_bind', W.ite, hm, if_false, wp_pure', W.theClass, v1, hI, hkI, Option.some.injEq, exists_eq_left']
    rw [hM]
    refine mn_arr (by rw [v1]; exact hI) hkI hL2 hB2 rfl rfl (by omega) (by omega) ?_
    have lt : s.heap.size < (mn_st s cA cI N M x).heap.size := by omega
    simp only [wp_bind', W.writeLoc, wp_pure']
    refine ⟨mn_out cA N s.heap.size x, by rw [State.heap_pushCell_of_lt (h := lt)]; exact h2, by simp [mn_out, arrV], by unfold mn_out; rw [arrV_size]; omega, ?_, nxt _ _ _ ⟨x + 1, by omega, hl2, ?_⟩⟩
    · simp [State.fitsSlot, State.slotType?, mn_out, arrV, v1, hA, hkA]
      rfl
    · rw [h1, mn_set]
      rfl
  · rintro t d1 a1 ⟨i, hi, hl, rfl⟩
    rw [List.length_nil, Nat.add_zero] at hi
    subst hi
    simp only [wp_pure']
    exact hQ _ _
end MNWP
