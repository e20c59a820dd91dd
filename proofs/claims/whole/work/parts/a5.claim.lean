-- THE CLAIM
section WHOLE
variable {s : State} {args : Array Value}
theorem wi_0 : ∀ w ∈ u_ws RX0 TX0 9, w ∈ lw_tbl := by decide +kernel
theorem wj_0 : Cond.instantiable RX0 9 ∈ lw_tbl := by decide +kernel
theorem wi_1 : ∀ w ∈ u_ws RX1 TX1 15, w ∈ lw_tbl := by decide +kernel
theorem wj_1 : Cond.instantiable RX1 15 ∈ lw_tbl := by decide +kernel
theorem wi_2 : ∀ w ∈ u_ws RX2 TX2 5, w ∈ lw_tbl := by decide +kernel
theorem wj_2 : Cond.instantiable RX2 5 ∈ lw_tbl := by decide +kernel
theorem wi_3 : ∀ w ∈ u_ws RX3 TX3 3, w ∈ lw_tbl := by decide +kernel
theorem wj_3 : Cond.instantiable RX3 3 ∈ lw_tbl := by decide +kernel
theorem wi_4 : ∀ w ∈ u_ws RX4 TX4 4, w ∈ lw_tbl := by decide +kernel
theorem wj_4 : Cond.instantiable RX4 4 ∈ lw_tbl := by decide +kernel
theorem wi_5 : ∀ w ∈ u_ws RX5 TX5 2, w ∈ lw_tbl := by decide +kernel
theorem wj_5 : Cond.instantiable RX5 2 ∈ lw_tbl := by decide +kernel
theorem wi_6 : ∀ w ∈ u_ws RX6 TX6 3, w ∈ lw_tbl := by decide +kernel
theorem wj_6 : Cond.instantiable RX6 3 ∈ lw_tbl := by decide +kernel
theorem wi_7 : ∀ w ∈ u_ws RX7 TX7 7, w ∈ lw_tbl := by decide +kernel
theorem wj_7 : Cond.instantiable RX7 7 ∈ lw_tbl := by decide +kernel
theorem wi_8 : ∀ w ∈ u_ws RX8 TX8 7, w ∈ lw_tbl := by decide +kernel
theorem wj_8 : Cond.instantiable RX8 7 ∈ lw_tbl := by decide +kernel
theorem wi_9 : ∀ w ∈ u_ws RX9 TX9 13, w ∈ lw_tbl := by decide +kernel
theorem wj_9 : Cond.instantiable RX9 13 ∈ lw_tbl := by decide +kernel
theorem wi_10 : ∀ w ∈ u_ws RX10 TX10 7, w ∈ lw_tbl := by decide +kernel
theorem wj_10 : Cond.instantiable RX10 7 ∈ lw_tbl := by decide +kernel
theorem wi_11 : ∀ w ∈ u_ws RX11 TX11 10, w ∈ lw_tbl := by decide +kernel
theorem wj_11 : Cond.instantiable RX11 10 ∈ lw_tbl := by decide +kernel
theorem wi_12 : ∀ w ∈ u_ws RX12 TX12 46, w ∈ lw_tbl := by decide +kernel
theorem wj_12 : Cond.instantiable RX12 46 ∈ lw_tbl := by decide +kernel
theorem wk_all (hts : ∀ w ∈ lw_tbl, w.before args s = true) (k : Nat) : ∃ (cC : ClassId) (iS : Nat → Nat), ∀ q : vw_C, vwCl[k]? = some q → u_Kn s q.1 q.2.1 q.2.2 cC iS := by
  match k with
  | 0 =>
    obtain ⟨c, i, h⟩ := u_known (C := RX0) (T := TX0) (N := 9) (n := 9) hts wi_0 (hts _ wj_0)
    exact ⟨c, i, fun q hq => by cases hq; exact h⟩
  | 1 =>
    obtain ⟨c, i, h⟩ := u_known (C := RX1) (T := TX1) (N := 15) (n := 15) hts wi_1 (hts _ wj_1)
    exact ⟨c, i, fun q hq => by cases hq; exact h⟩
  | 2 =>
    obtain ⟨c, i, h⟩ := u_known (C := RX2) (T := TX2) (N := 5) (n := 5) hts wi_2 (hts _ wj_2)
    exact ⟨c, i, fun q hq => by cases hq; exact h⟩
  | 3 =>
    obtain ⟨c, i, h⟩ := u_known (C := RX3) (T := TX3) (N := 3) (n := 3) hts wi_3 (hts _ wj_3)
    exact ⟨c, i, fun q hq => by cases hq; exact h⟩
  | 4 =>
    obtain ⟨c, i, h⟩ := u_known (C := RX4) (T := TX4) (N := 4) (n := 4) hts wi_4 (hts _ wj_4)
    exact ⟨c, i, fun q hq => by cases hq; exact h⟩
  | 5 =>
    obtain ⟨c, i, h⟩ := u_known (C := RX5) (T := TX5) (N := 2) (n := 2) hts wi_5 (hts _ wj_5)
    exact ⟨c, i, fun q hq => by cases hq; exact h⟩
  | 6 =>
    obtain ⟨c, i, h⟩ := u_known (C := RX6) (T := TX6) (N := 3) (n := 3) hts wi_6 (hts _ wj_6)
    exact ⟨c, i, fun q hq => by cases hq; exact h⟩
  | 7 =>
    obtain ⟨c, i, h⟩ := u_known (C := RX7) (T := TX7) (N := 7) (n := 7) hts wi_7 (hts _ wj_7)
    exact ⟨c, i, fun q hq => by cases hq; exact h⟩
  | 8 =>
    obtain ⟨c, i, h⟩ := u_known (C := RX8) (T := TX8) (N := 7) (n := 7) hts wi_8 (hts _ wj_8)
    exact ⟨c, i, fun q hq => by cases hq; exact h⟩
  | 9 =>
    obtain ⟨c, i, h⟩ := u_known (C := RX9) (T := TX9) (N := 13) (n := 13) hts wi_9 (hts _ wj_9)
    exact ⟨c, i, fun q hq => by cases hq; exact h⟩
  | 10 =>
    obtain ⟨c, i, h⟩ := u_known (C := RX10) (T := TX10) (N := 7) (n := 7) hts wi_10 (hts _ wj_10)
    exact ⟨c, i, fun q hq => by cases hq; exact h⟩
  | 11 =>
    obtain ⟨c, i, h⟩ := u_known (C := RX11) (T := TX11) (N := 10) (n := 10) hts wi_11 (hts _ wj_11)
    exact ⟨c, i, fun q hq => by cases hq; exact h⟩
  | 12 =>
    obtain ⟨c, i, h⟩ := u_known (C := RX12) (T := TX12) (N := 46) (n := 46) hts wi_12 (hts _ wj_12)
    exact ⟨c, i, fun q hq => by cases hq; exact h⟩
  | k + 13 => exact ⟨0, fun _ => 0, fun q hq => by simp [vwCl] at hq⟩
/-- an array class of a plain type -/
theorem wa_of {ty : FieldType} (h : (Cond.arrayClass ty).before args s = true) : ∃ cA : ClassId, ArrOfT s cA ty ∧ s.vm.findClass ("[" ++ ty.toString) = some cA := by
  obtain ⟨cA, kA, comp, h1, h2, h3⟩ := Cond.arrayClass_spec h
  exact ⟨cA, fun N z => ⟨(fun k h => by cases h), kA, h2, comp, h3⟩, h1⟩
/-- the array class over int[], as the machine finds it -/
theorem wo_of (h : (Cond.arrayOver (.array .int)).before args s = true) : ∃ (c0 c1 : ClassId) (k : Class), s.vm.findClass (FieldType.array .int).toString = some c0 ∧ (s.vm.classes.findIdx? fun x => match x.kind with | .array component _ => component == c0 | _ => false) = some c1 ∧ s.vm.classes[c1]? = some k ∧ k.kind = .array c0 (.array .int) ∧ s.vm.findClass ("[" ++ (FieldType.array .int).toString) = some c1 := by
  unfold Cond.before at h
  simp only [Cond.holds, Cond.value, beq_iff_eq] at h
  cases hc : s.vm.findClass (FieldType.array .int).toString with
  | none => simp [hc] at h
  | some c0 =>
    simp only [hc, Option.bind_some, Option.bind_eq_some_iff, Option.map_eq_some_iff] at h
    obtain ⟨c1, hi, k, hk, hb⟩ := h
    obtain ⟨hlt, hp, -⟩ := Array.findIdx?_eq_some_iff_getElem.mp hi
    have hkk : s.vm.classes[c1] = k := (Array.getElem?_eq_some_iff.mp hk).2
    rw [hkk] at hp
    cases hkind : k.kind with
    | array component ty =>
      rw [hkind] at hb hp
      simp at hb hp
      exact ⟨c0, c1, k, rfl, hi, hk, by rw [hkind, hp, hb.1], hb.2⟩
    | _ => rw [hkind] at hb; simp at hb
theorem w_ai : Cond.arrayClass .int ∈ lw_tbl := by decide +kernel
theorem w_az : Cond.arrayClass .boolean ∈ lw_tbl := by decide +kernel
theorem w_aj : Cond.arrayClass .long ∈ lw_tbl := by decide +kernel
theorem w_oa : Cond.arrayOver (.array .int) ∈ lw_tbl := by decide +kernel
theorem w_op : Cond.arrayOver (.object "SowingHouse$Player") ∈ lw_tbl := by decide +kernel
/-- what the tables say, for the engine -/
theorem w_eta (hts : ∀ w ∈ lw_tbl, w.before args s = true) (b0 b : Nat) : ∃ η : am_E, η.2.2.1 = b0 ∧ η.2.2.2 = b ∧ va_K η.1 vwCl (am_tys η) s ∧ am_AO s := by
  have hk := wk_all hts
  obtain ⟨ci, i1, i2⟩ := wa_of (hts _ w_ai)
  obtain ⟨cz, z1, z2⟩ := wa_of (hts _ w_az)
  obtain ⟨cj, j1, j2⟩ := wa_of (hts _ w_aj)
  obtain ⟨c0, c1, k, o1, o2, o3, o4, o5⟩ := wo_of (hts _ w_oa)
  have hp : va_AO "SowingHouse$Player" s := va_AO.of (hts _ w_op)
  obtain ⟨cq, cp, kp, p1, p2, p3, p4, p5⟩ := Cond.arrayOver_spec (hts _ w_op)
  refine ⟨((fun k => Classical.choose (hk k), fun k => Classical.choose (Classical.choose_spec (hk k))), (fun j => if j = 0 then ci else if j = 1 then cz else if j = 2 then cj else if j = 3 then c1 else cp), b0, b), rfl, rfl, ⟨fun k q hq => Classical.choose_spec (Classical.choose_spec (hk k)) q hq, fun j q hq => ?_⟩, hp, c0, c1, k, o1, o2, o3, o4, o5⟩
  match j, hq with
  | 0, hq => cases hq; exact ⟨i1, i2⟩
  | 1, hq => cases hq; exact ⟨z1, z2⟩
  | 2, hq => cases hq; exact ⟨j1, j2⟩
  | 3, hq => cases hq; exact ⟨fun N z => ⟨(fun k h => by cases h), k, o3, c0, o4⟩, o5⟩
  | 4, hq => cases hq; exact ⟨fun N z => ⟨(fun k h => by cases h), kp, p3, cq, p4⟩, kp, cq, p3, p4, p1, p5⟩
  | j + 5, hq => simp [am_tys, am_ty] at hq
end WHOLE
theorem whole_start {p : Program} {e : Env} {s : State} {m : MethodId} {below : List Frame} {meth : Method} {c : Code} (l : Launch) {b L : Nat} {xs : Nat → Int32} (hL : L ≤ 2560) (C0 : lw_At p s m meth c b L xs) : W p l e room_1 s m #[Value.ref b] below meth c s.heap [] 0 0 (lw_Z below #[Value.ref b] s) (entryFrame m ([Value.ref b] : List Value).toArray 4) := by
  obtain ⟨hx, hb, hr, hml, hown, hts, hX, hbl, hlocks, hgv⟩ := id C0
  obtain ⟨η, e1, e2, hK, hO⟩ := w_eta hts (s.heap.size - 1) b
  have hl := lv_entry ([Value.ref b]) (n := 4) (Nat.le_of_ble_eq_true rfl)
  rw [lg_entry_eq]
  generalize (lg_sl ([Value.ref b]) ++ List.replicate (4 - (lg_sl ([Value.ref b])).length) Slot.unset).toArray = la at hl ⊢
  have hl : lv_has la 4 [(0, .ref b)] := hl
  have hlm : am_lm η [(0, qr 1)] = [(0, Value.ref b)] := by
    show [(0, Value.ref (am_ad η 1))] = [(0, Value.ref b)]
    unfold am_ad
    rw [if_pos rfl, e2]
  have hR : am_R η s 2 (K0z L) (fun _ x => ls_y xs x) F0z s.heap := by
    refine ⟨⟨by rw [e1]; omega, by omega, by rw [e1, e2]; omega⟩, fun a ha => ?_, fun a ha => ?_, rfl, rfl, ?_, ?_, fun j hj => ls_in _⟩
    · have hk : K0z L a = (999, 0) := by unfold K0z; rw [if_neg (by omega)]
      rw [hk]
      exact ⟨fun h => absurd h (by decide), fun h1 h2 => absurd h2 (by decide)⟩
    · unfold K0z; rw [if_neg (by omega)]
    · show (0 : Int) ≤ (L : Int)
      omega
    · rw [e2]
      have e3 : (fun j : Nat => Int32.ofInt (ls_y xs (j : Int))) = xs := by
        funext j
        show Int32.ofInt (xs ((j : Int).toNat)).toInt = xs j
        rw [am_ofI, Int.toNat_natCast]
      show va_X b ((L : Int).toNat) (fun j : Nat => Int32.ofInt (ls_y xs (j : Int))) s s.heap
      rw [e3, Int.toNat_natCast]
      exact hX
  have hW := law_ok (η := η) (l := l) (xs := xs) (I0 := fun _ x => ls_y xs x) hL p e s m #[Value.ref b] below meth c s.heap [] la ⟨hx, hb, hr, hml, hown, fun w hw => hts w (List.mem_filter.mp hw).1, hlocks, (fun h => by cases h), hK, hO⟩ hR (fun q hq => by cases hq) (by rw [hlm]; exact hl) (fun q hq => by rw [List.mem_singleton.mp hq]; trivial) (fun v hv => by cases hv)
  intro T hT X
  obtain ⟨t, a1, b1⟩ := hW T hT X
  exact ⟨t, a1, b1 ⟨by rw [e2], by rw [e2]; exact hX, by rw [e1]; omega⟩⟩
set_option maxHeartbeats 4000000 in
theorem lw_walk (l : Launch) (b : Addr) (xs : List Int32) : MetFree l x (headSpec (Jvm.Cond.code x code maxLocals ret :: tables_1) room_1) (lw_P b xs) (fun _ _ _ _ _ => True) lw_Q := by
  refine MetFree.of_bodyS (code := code) (maxLocals := maxLocals) (ret := ret) (by decide) ?_ ?_
  · intro args s m h hn
    obtain ⟨meth, c, h1, h2, h3, h4, h5, h6, -, -⟩ := Cond.code_spec hn (atoms_spec (ws := Jvm.Cond.code x code maxLocals ret :: tables_1) h _ List.mem_cons_self)
    exact ⟨meth, c, h1, h2, h3, h4, h5, h6⟩
  · intro p e s m args below meth c s₁ B hml0 hP _
    obtain ⟨rfl, hx, hbd, hgv⟩ := hP
    obtain ⟨scr, harrAt, hlist, hof, hsmall⟩ := hx
    obtain ⟨hcb, hkn, -, -⟩ := State.arrayAt?_spec harrAt
    have hown : s.vm.findClass R_law = some m.cls := findClass_of_methodNamed B.named
    have hts0 : ∀ c ∈ (Jvm.Cond.code x code maxLocals ret :: tables_1), c.before #[Value.ref b] s = true := atoms_spec (ws := Jvm.Cond.code x code maxLocals ret :: tables_1) B.pre
    have hts : ∀ w ∈ lw_tbl, w.before #[Value.ref b] s = true := k2_hts_sels lw_privs (fun w hw => hts0 w (List.mem_cons_of_mem _ hw)) lw_privs_ok
    have hml : c.maxLocals = 4 := B.maxLocals_eq (hts0 _ List.mem_cons_self)
    have X₀ : Stand p l e room_1 s m #[Value.ref b] below meth c s₁ [] 0 0 := Stand.of_body B
    have hh0 : s₁.heap = s.heap := by rw [B.state]; rfl
    have hsz : scr.slots.size = xs.length := by rw [← Array.length_toList, hlist, List.length_map]
    have hval : ∀ j : Nat, j < xs.length → scr.slots[j]? = some (.int (xs.getD j 0)) := fun j hj => by
      rw [← Array.getElem?_toList, hlist]
      simp [hj]
    have hbl : b < s.heap.size := (Array.getElem?_eq_some_iff.mp hcb).1
    have hX : va_X b xs.length (fun j => xs.getD j 0) s s.heap := ⟨scr, hcb, hof, hkn, hsz, hval⟩
    have K : W p l e room_1 s m #[Value.ref b] below meth c s₁.heap [] 0 0 (lw_Z below #[Value.ref b] s) (entryFrame m ([Value.ref b] : List Value).toArray 4) := by
      rw [hh0]
      exact whole_start l hbd ⟨B.exec, B.bytes, B.returns, hml, hown, hts, hX, hbl, B.notSynchronized, hgv⟩
    obtain ⟨t, a1, o, b1, b2, b3⟩ := K s₁ rfl X₀
    exact ⟨t, o, a1, b1, b2, b3⟩
theorem lw_pre_spec {args : Array Value} {s : State} (h : (Jvm.Cond.and given_1 narrow_1).before args s = true) (hr : rest_1_c.before args s = true) : ∃ (b : Addr) (xs : List Int32), lw_P b xs args s := by
  have hs := flat_of_before _ h
  have hq := flat_of_before _ hr
  have hc : (Cond.count 1).before args s = true := hs _ (by decide +kernel)
  have harr : (Cond.arrayOf (.arg 0) .int).before args s = true := hs _ (by decide +kernel)
  have hle : (Cond.le (.length (.arg 0)) (.int 2560)).before args s = true := hs _ (by decide +kernel)
  have hlen : (Cond.isInt (.length (.arg 0))).before args s = true := hq _ (by decide +kernel)
  have hall : (Cond.all (.arg 0) (.isInt (.elem (.arg 0) (.index 0)))).before args s = true := hq _ (by decide +kernel)
  obtain ⟨b, xs, hb, hx⟩ := State.ints_of_pre rfl harr hlen hall
  have hsm : xs.length < 2 ^ 31 := hx.choose_spec.2.2.2
  have hev : (Term.length (.arg 0)).eval args s none [] s = some (.int xs.length.toInt32) := hx.length_eval hb
  have hv := Cond.le_ints hev (show (Term.int 2560).eval args s none [] s = some (.int 2560) from rfl)
  have hd : xs.length.toInt32 ≤ 2560 := by
    simpa [Cond.before, Cond.holds, hv] using hle
  have hN : xs.length ≤ 2560 := (Int32.ofNat_le_ofNat hsm (by decide)).mp (show Int32.ofNat xs.length ≤ Int32.ofNat 2560 from hd)
  exact ⟨b, xs, Cond.one_arg hc (show args[0]? = some (.ref b) from hb), hx, hN, h⟩
theorem lw_comes (l : Launch) : Comes l x (Jvm.Cond.code x code maxLocals ret :: tables_1) room_1 (fun tb e args s => Calls_1 tb e args s ∧ rest_1 tb e args s ∧ Pre_1 tb e args s)
    (fun _ _ args s o t => lw_Q args s o t) := by
  intro p e ha hc hk s m args below hf hfit hheap happ hpre
  obtain ⟨b, xs, hP⟩ := lw_pre_spec hpre.2.2 hpre.2.1
  obtain ⟨k, o, h1, h2, h3, hQ⟩ := lw_walk l b xs p e ha hc hk s m args below hf ((Spec.applies_iff_loose hf).mp happ).1 hP trivial
  exact ⟨k, o, h1, h2, h3, hQ⟩
theorem lw_frame {s t : State} {o : Outcome} {args : Array Value} (h : Framed s o t [] 600000 7302250) :
    Framed s o t (fieldLocs frame_1_writes args s ++ arrayLocs frame_1_arrays args s ++ staticLocs frame_1_statics s) 600000 7302250 := h
theorem lw_limb (L : Cond) (hL : ∀ (args : Array Value) (s t : State), L.after args s (.returned (some (.int 1))) t = true) :
    ArmFor flags0 classFile x code maxLocals ret World_1 tables_1 room_1 Calls_1 rest_1 Pre_1
      (fun tb e a s o t => postC L tb e a s o t ∧ Framed s o t (fieldLocs frame_1_writes a s ++ arrayLocs frame_1_arrays a s ++ staticLocs frame_1_statics s) 600000 7302250) := by
  intro l _ _ _ p e ha hc hk s m args below hf hfit hheap happ hpre
  obtain ⟨k, o, h1, h2, h3, rfl, hF⟩ := lw_comes l p e ha hc hk s m args below hf hfit hheap happ hpre
  exact ⟨k, _, h1, h2, h3, hL args s _, lw_frame hF⟩
theorem i_vc : Claimed_1_1 ∧ Claimed_1_2 := ⟨lw_limb limb_1_1 (fun args s t => by simp [limb_1_1, Cond.after, Cond.holds, Cond.value]), lw_limb limb_1_2 (fun args s t => Cond.after_iff.mpr (by
  first | (rw [show limb_1_2 = Cond.eq .result (.int 1) from rfl, Cond.eq_ints (x := 1) (y := 1) rfl rfl]; simp; done) | (simp [limb_1_2, Cond.value, Term.eval]; done)))⟩

