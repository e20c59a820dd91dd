-- ARRAYS OF ARRAYS: the states on the way
def mn_out (cA : ClassId) (N h i : Nat) : Cell := arrV cA N (fun j => if j < i then .ref (h + 1 + j) else .null)
def mn_in (cI : ClassId) (M : Nat) : Cell := arrV cI M (fun _ => .int 0)
def mn_st (T : State) (cA cI : ClassId) (N M : Nat) : Nat → State
  | 0 => T.pushCell (mn_out cA N T.heap.size 0)
  | i + 1 => ((mn_st T cA cI N M i).pushCell (mn_in cI M)).setCell T.heap.size (mn_out cA N T.heap.size (i + 1))
theorem mn_set (cA : ClassId) (N h i : Nat) : (mn_out cA N h i).setSlot i (.ref (h + 1 + i)) = mn_out cA N h (i + 1) := by
  unfold mn_out
  rw [arrV_store]
  refine am_arrV (fun j _ => ?_)
  unfold updV
  by_cases q : j = i
  · rw [if_pos q, if_pos (by omega), q]
  · rw [if_neg q]
    dsimp only
    by_cases w : j < i
    · rw [if_pos w, if_pos (by omega)]
    · rw [if_neg w, if_neg (by omega)]
section MNST
variable {T : State} {cA cI : ClassId} {N M : Nat}
theorem mn_heap : ∀ i : Nat, (mn_st T cA cI N M i).heap.size = T.heap.size + 1 + i ∧ (mn_st T cA cI N M i).heap[T.heap.size]? = some (mn_out cA N T.heap.size i) ∧ (∀ q, q < T.heap.size → (mn_st T cA cI N M i).heap[q]? = T.heap[q]?) ∧ (∀ j, j < i → (mn_st T cA cI N M i).heap[T.heap.size + 1 + j]? = some (mn_in cI M))
  | 0 => ⟨by simp [mn_st], by simp [mn_st], fun q hq => State.heap_pushCell_of_lt _ _ hq, fun j hj => absurd hj (Nat.not_lt_zero j)⟩
  | i + 1 => by
    obtain ⟨a, b, c, d⟩ := mn_heap i
    have lt : T.heap.size < (mn_st T cA cI N M i).heap.size := by omega
    have hb : ((mn_st T cA cI N M i).pushCell (mn_in cI M)).heap[T.heap.size]? = some (mn_out cA N T.heap.size i) := by rw [State.heap_pushCell_of_lt (h := lt)]; exact b
    refine ⟨?_, State.heap_setCell_self hb, fun q hq => ?_, fun j hj => ?_⟩
    · simp [mn_st, State.setCell, a]; omega
    · show (((mn_st T cA cI N M i).pushCell (mn_in cI M)).setCell T.heap.size _).heap[q]? = _
      have l2 : q < (mn_st T cA cI N M i).heap.size := by omega
      rw [State.heap_setCell_other (Nat.ne_of_gt hq), State.heap_pushCell_of_lt (h := l2)]
      exact c q hq
    · show (((mn_st T cA cI N M i).pushCell (mn_in cI M)).setCell T.heap.size _).heap[T.heap.size + 1 + j]? = _
      have ne : T.heap.size ≠ T.heap.size + 1 + j := by omega
      rw [State.heap_setCell_other ne]
      by_cases w : j < i
      · have l2 : T.heap.size + 1 + j < (mn_st T cA cI N M i).heap.size := by omega
        rw [State.heap_pushCell_of_lt (h := l2)]; exact d j w
      · rw [show T.heap.size + 1 + j = (mn_st T cA cI N M i).heap.size by omega]
        exact State.heap_pushCell_size _ _
theorem mn_stand {p : Program} {l : Launch} {e : Env} {R : Room} {s : State} {m : MethodId} {args : Array Value} {below : List Frame} {meth : Method} {c : Code} {locs : List Loc} {cells slots : Nat} (X : Stand p l e R s m args below meth c T locs cells slots) : ∀ i : Nat, ∃ L : List Loc, (∀ q ∈ L, q.base = T.heap.size) ∧ Stand p l e R s m args below meth c (mn_st T cA cI N M i) (locs ++ L) (cells + 1 + i) (slots + N + i * M)
  | 0 => by
    have h := X.pushed (mn_out cA N T.heap.size 0)
    have e1 : (mn_out cA N T.heap.size 0).slots.size = N := arrV_size _ _ _
    rw [e1] at h
    refine ⟨[], fun q hq => absurd hq (List.not_mem_nil), ?_⟩
    rw [List.append_nil, Nat.add_zero, Nat.zero_mul, Nat.add_zero]
    exact h
  | i + 1 => by
    obtain ⟨L, hL, Xi⟩ := mn_stand X i
    obtain ⟨a, b, -, -⟩ := mn_heap (T := T) (cA := cA) (cI := cI) (N := N) (M := M) i
    have lt : T.heap.size < (mn_st T cA cI N M i).heap.size := by omega
    have hb : ((mn_st T cA cI N M i).pushCell (mn_in cI M)).heap[T.heap.size]? = some (mn_out cA N T.heap.size i) := by rw [State.heap_pushCell_of_lt (h := lt)]; exact b
    have h := (Xi.pushed (mn_in cI M)).stored hb i (.ref (T.heap.size + 1 + i))
    have e1 : (mn_in cI M).slots.size = M := arrV_size _ _ _
    rw [e1, mn_set] at h
    refine ⟨L ++ [⟨T.heap.size, i⟩], fun q hq => ?_, ?_⟩
    · rcases List.mem_append.mp hq with w | w
      · exact hL q w
      · rw [List.mem_singleton.mp w]
    · rw [← List.append_assoc, Nat.succ_mul, show slots + N + (i * M + M) = slots + N + i * M + M by omega]
      exact h
end MNST
