-- THE MEMORY'S RULES
def am_fd (ci k : Nat) : String := match vwCl[ci]? with
  | some r => (r.2.1 k).2.2.1
  | none => ""
def am_fin (ci k : Nat) : Bool := match vwCl[ci]? with
  | some r => (r.2.1 k).2.2.2
  | none => false
def am_dc (ci k : Nat) : String := match vwCl[ci]? with
  | some r => (r.2.1 k).1
  | none => ""
theorem am_fd_eq {ci k : Nat} {C : String} {T : u_T} {N : Nat} (h : vwCl[ci]? = some (C, T, N)) : am_fd ci k = (T k).2.2.1 := by unfold am_fd; rw [h]
theorem am_fin_eq {ci k : Nat} {C : String} {T : u_T} {N : Nat} (h : vwCl[ci]? = some (C, T, N)) : am_fin ci k = (T k).2.2.2 := by unfold am_fin; rw [h]
theorem am_dc_eq {ci k : Nat} {C : String} {T : u_T} {N : Nat} (h : vwCl[ci]? = some (C, T, N)) : am_dc ci k = (T k).1 := by unfold am_dc; rw [h]
def am_isR (t : FieldType) : Bool := match t with
  | .object _ => true
  | .array _ => true
  | _ => false
theorem am_nar {η : am_E} {t : FieldType} (h : am_isR t = true) (x : Nat) : narrow t (am_cv η (qr x)) = am_cv η (qr x) := by
  cases t <;> first | (cases h; done) | rfl
theorem am_fit {η : am_E} {t : FieldType} (h : am_isR t = true) (x : Nat) : fits t (am_cv η (qr x)) = true := by
  match x with
  | 0 => cases t <;> first | (cases h; done) | rfl
  | x + 1 => cases t <;> first | (cases h; done) | rfl
def am_tyf (T : u_T) (k : Nat) : FieldType := (parseFieldDescriptor (T k).2.2.1).getD .int
def am_clsb (r : vw_C) : Bool := ((List.range r.2.2).all fun k => (parseFieldDescriptor (r.2.1 k).2.2.1).isSome && decide (defaultValue (am_tyf r.2.1 k) = (if am_fc (r.2.1 k).2.2.1 = 0 then .int 0 else if am_fc (r.2.1 k).2.2.1 = 1 then .long 0 else .null)) && (List.range r.2.2).all fun j => decide (k = j) || decide ((r.2.1 k).2.1 ≠ (r.2.1 j).2.1))
def am_clsok (r : vw_C) : Prop := am_clsb r = true ∧ ∀ w ∈ u_ws r.1 r.2.1 r.2.2, w ∈ am_gw
theorem am_uin {C : String} {T : u_T} {N : Nat} (ps : List Nat) (h : (List.range N).all (fun k => am_pl (ps.getD k 0) (u_lay C T k)) = true) : ∀ w ∈ u_ws C T N, w ∈ am_gw := by
  intro w hw
  obtain ⟨k, hk, rfl⟩ := List.mem_map.mp hw
  exact am_pl_in (List.all_eq_true.mp h k hk)
theorem am_cls_0 : am_clsok (RX0, TX0, 9) := ⟨by decide +kernel, am_uin [327, 329, 331, 333, 335, 337, 339, 341, 343] (by decide +kernel)⟩
theorem am_cls_1 : am_clsok (RX1, TX1, 15) := ⟨by decide +kernel, am_uin [134, 136, 138, 140, 142, 144, 146, 148, 150, 152, 154, 156, 158, 160, 162] (by decide +kernel)⟩
theorem am_cls_2 : am_clsok (RX2, TX2, 5) := ⟨by decide +kernel, am_uin [441, 443, 445, 447, 449] (by decide +kernel)⟩
theorem am_cls_3 : am_clsok (RX3, TX3, 3) := ⟨by decide +kernel, am_uin [276, 278, 280] (by decide +kernel)⟩
theorem am_cls_4 : am_clsok (RX4, TX4, 4) := ⟨by decide +kernel, am_uin [295, 297, 299, 301] (by decide +kernel)⟩
theorem am_cls_5 : am_clsok (RX5, TX5, 2) := ⟨by decide +kernel, am_uin [462, 464] (by decide +kernel)⟩
theorem am_cls_6 : am_clsok (RX6, TX6, 3) := ⟨by decide +kernel, am_uin [223, 225, 227] (by decide +kernel)⟩
theorem am_cls_7 : am_clsok (RX7, TX7, 7) := ⟨by decide +kernel, am_uin [363, 365, 367, 369, 371, 373, 375] (by decide +kernel)⟩
theorem am_cls_8 : am_clsok (RX8, TX8, 7) := ⟨by decide +kernel, am_uin [193, 195, 197, 199, 201, 203, 205] (by decide +kernel)⟩
theorem am_cls_9 : am_clsok (RX9, TX9, 13) := ⟨by decide +kernel, am_uin [399, 401, 403, 405, 407, 409, 411, 413, 415, 417, 419, 421, 423] (by decide +kernel)⟩
theorem am_cls_10 : am_clsok (RX10, TX10, 7) := ⟨by decide +kernel, am_uin [252, 254, 256, 258, 260, 262, 264] (by decide +kernel)⟩
theorem am_cls_11 : am_clsok (RX11, TX11, 10) := ⟨by decide +kernel, am_uin [544, 546, 548, 550, 552, 554, 556, 558, 560, 562] (by decide +kernel)⟩
theorem am_cls_12 : am_clsok (RX12, TX12, 46) := ⟨by decide +kernel, am_uin [1137, 1139, 1141, 1143, 1145, 1147, 1149, 1151, 1153, 1155, 1157, 1159, 1161, 1163, 1165, 1167, 1169, 1171, 1173, 1175, 1177, 1179, 1181, 1183, 1185, 1187, 1189, 1191, 1193, 1195, 1197, 1199, 1201, 1203, 1205, 1207, 1209, 1211, 1213, 1215, 1217, 1219, 1221, 1223, 1225, 1227] (by decide +kernel)⟩
theorem am_cls : ∀ r ∈ vwCl, am_clsok r := List.forall_mem_cons.mpr ⟨am_cls_0, List.forall_mem_cons.mpr ⟨am_cls_1, List.forall_mem_cons.mpr ⟨am_cls_2, List.forall_mem_cons.mpr ⟨am_cls_3, List.forall_mem_cons.mpr ⟨am_cls_4, List.forall_mem_cons.mpr ⟨am_cls_5, List.forall_mem_cons.mpr ⟨am_cls_6, List.forall_mem_cons.mpr ⟨am_cls_7, List.forall_mem_cons.mpr ⟨am_cls_8, List.forall_mem_cons.mpr ⟨am_cls_9, List.forall_mem_cons.mpr ⟨am_cls_10, List.forall_mem_cons.mpr ⟨am_cls_11, List.forall_mem_cons.mpr ⟨am_cls_12, fun _ h => absurd h List.not_mem_nil⟩⟩⟩⟩⟩⟩⟩⟩⟩⟩⟩⟩⟩
theorem am_clsat {r : vw_C} (h : am_clsok r) : (∀ k, k < r.2.2 → parseFieldDescriptor (r.2.1 k).2.2.1 = some (am_tyf r.2.1 k) ∧ defaultValue (am_tyf r.2.1 k) = (if am_fc (r.2.1 k).2.2.1 = 0 then .int 0 else if am_fc (r.2.1 k).2.2.1 = 1 then .long 0 else .null) ∧ ∀ j, j < r.2.2 → k ≠ j → (r.2.1 k).2.1 ≠ (r.2.1 j).2.1) ∧ ∀ w ∈ u_ws r.1 r.2.1 r.2.2, w ∈ am_gw := by
  obtain ⟨h1, h2⟩ := h
  unfold am_clsb at h1
  refine ⟨fun k hk => ?_, h2⟩
  have h3 := List.all_eq_true.mp h1 k (List.mem_range.mpr hk)
  simp only [Bool.and_eq_true, decide_eq_true_eq] at h3
  obtain ⟨⟨h4, h5⟩, h6⟩ := h3
  refine ⟨?_, h5, fun j hj hkj => ?_⟩
  · unfold am_tyf
    cases hp : parseFieldDescriptor (r.2.1 k).2.2.1 with
    | none => rw [hp] at h4; cases h4
    | some t => rfl
  · have h7 := List.all_eq_true.mp h6 j (List.mem_range.mpr hj)
    simp only [Bool.or_eq_true, decide_eq_true_eq] at h7
    rcases h7 with h | h
    · exact absurd h hkj
    · exact h
theorem am_uws (ci : Nat) (r : vw_C) (h : vwCl[ci]? = some r) : ∀ w ∈ u_ws r.1 r.2.1 r.2.2, w ∈ am_gw := (am_clsat (am_cls r (List.mem_of_getElem? h))).2
theorem am_tyok (ci : Nat) (r : vw_C) (h : vwCl[ci]? = some r) : ∀ k, k < r.2.2 → parseFieldDescriptor (r.2.1 k).2.2.1 = some (am_tyf r.2.1 k) := fun k hk => ((am_clsat (am_cls r (List.mem_of_getElem? h))).1 k hk).1
theorem am_nmok (ci : Nat) (r : vw_C) (h : vwCl[ci]? = some r) : ∀ a, a < r.2.2 → ∀ b, b < r.2.2 → a ≠ b → (r.2.1 a).2.1 ≠ (r.2.1 b).2.1 := fun a ha b hb hab => ((am_clsat (am_cls r (List.mem_of_getElem? h))).1 a ha).2.2 b hb hab
def am_fok (own : String) (idx ci k t p : Nat) : Bool := match vwCl[ci]? with
  | some r => decide (ci < 100) && decide (k < r.2.2) && decide (am_fc (r.2.1 k).2.2.1 = t) && am_pl p (Cond.fieldLink own idx (r.2.1 k).1 (r.2.1 k).2.1 (r.2.1 k).2.2.1)
  | none => false
theorem am_fok_spec {own : String} {idx ci k t p : Nat} (h : am_fok own idx ci k t p = true) : ci < 100 ∧ ∃ (C : String) (T : u_T) (N : Nat), vwCl[ci]? = some (C, T, N) ∧ k < N ∧ am_fc (T k).2.2.1 = t ∧ Cond.fieldLink own idx (T k).1 (T k).2.1 (T k).2.2.1 ∈ am_gw := by
  unfold am_fok at h
  split at h
  · rename_i r hr
    obtain ⟨C, T, N⟩ := r
    simp only [Bool.and_eq_true, decide_eq_true_eq] at h
    exact ⟨h.1.1.1, C, T, N, hr, h.1.1.2, h.1.2, am_pl_in h.2⟩
  · cases h
theorem am_ad_ne {η : am_E} {a b : Nat} (ha : 2 ≤ a) (hb : 2 ≤ b) (h : b ≠ a) : am_ad η b ≠ am_ad η a := by
  unfold am_ad
  rw [if_neg (by omega), if_neg (by omega)]
  omega
theorem am_sv_eq {η : am_E} {I I' : am_I} {F F' : am_F} {t a : Nat} {k : Int} (hI : I' a k = I a k) (hF : F' a k = F a k) : am_sv η I' F' t a k = am_sv η I F t a k := by unfold am_sv; rw [hI, hF]
theorem am_at_kept {η : am_E} {I I' : am_I} {F F' : am_F} {b : Nat} {kd : Nat × Int} {H H' : Heap} (h : am_at η I F b kd H) (hH : H'[am_ad η b]? = H[am_ad η b]?) (hI : ∀ k, I' b k = I b k) (hF : ∀ k, F' b k = F b k) : am_at η I' F' b kd H' := by
  refine ⟨fun h1 => ?_, fun h1 h2 => ?_⟩
  · obtain ⟨r, hr, ho, hs⟩ := h.1 h1
    refine ⟨r, hr, (ho.kept hH).to (fun k _ => ?_), fun k hk => by rw [hI]; exact hs k hk⟩
    exact (am_sv_eq (hI _) (hF _)).symm
  · obtain ⟨h3, h4, h5⟩ := h.2 h1 h2
    refine ⟨h3, ?_, fun j hj => by rw [hI]; exact h5 j hj⟩
    rw [hH, h4]
    have e : am_av η I' F' kd.1 b = am_av η I F kd.1 b := by funext j; exact am_sv_eq (hI _) (hF _)
    rw [e]
/-- one cell is written -/
theorem am_R_put {η : am_E} {s : State} {n : Nat} {K : am_K} {I I' : am_I} {F F' : am_F} {H H' : Heap} {a : Nat} (hR : am_R η s n K I F H) (ha : 2 ≤ a) (han : a < n) (hz : H'.size = H.size) (ho : ∀ q, q ≠ am_ad η a → H'[q]? = H[q]?)
    (hI : ∀ b, b ≠ a → ∀ k, I' b k = I b k) (hF : ∀ b, b ≠ a → ∀ k, F' b k = F b k) (h1 : am_at η I' F' a (K a) H') : am_R η s n K I' F' H' := by
  obtain ⟨⟨e1, e2, e3⟩, g2, g3, g4, g5, g6, g7, g8⟩ := hR
  have hb1 : (η.2.2.2 : Nat) ≠ am_ad η a := by unfold am_ad; rw [if_neg (by omega)]; omega
  refine ⟨⟨hz.trans e1, e2, e3⟩, fun b hb => ?_, g3, g4, g5, g6, ?_, fun j hj => ?_⟩
  · by_cases hba : b = a
    · subst hba; exact h1
    · exact am_at_kept (g2 b hb) (ho _ (am_ad_ne ha hb hba)) (hI b hba) (hF b hba)
  · have e4 : (fun j : Nat => Int32.ofInt (I' 1 (j : Int))) = (fun j : Nat => Int32.ofInt (I 1 (j : Int))) := by funext j; rw [hI 1 (by omega)]
    rw [e4]; exact g7.kept (ho _ hb1)
  · rw [hI 1 (by omega)]; exact g8 j hj
section OKM
variable {η : am_E} {l : Launch} {M : am_M} {Q : am_QM} {pc q : Nat} {ls : am_L} {st : List am_V} {n : Nat} {K : am_K} {I : am_I} {F : am_F} {c z : Nat} {G : Prop} {ρ : Type} {r0 : ρ}
theorem ok_getI {idx ci a k p0 : Nat} {x : Int} (hd : decode M.2.1 pc = .ok (.getfield idx, 3)) (hq : pc + 3 = q) (hf : am_fok M.1 idx ci k 0 p0 = true) (hk : (K a).1 = ci) (hx : I a (k : Int) = x) (kk : G → Ok η l M Q q ls (qi x :: st) n K I F c z) : G → Ok η l M Q pc ls (qr a :: st) n K I F c z := by
  subst hq; subst hx; subst hk
  intro g p e s m args below meth cd H locs la hC hR hlo hl okl oks
  obtain ⟨hci, C, T, N, hc, hkN, ht, hlk⟩ := am_fok_spec hf
  obtain ⟨ha0, han⟩ := hR.lt (a := a) (by omega)
  have ha1 : a ≠ 1 := fun h => by have := hR.2.2.2.2.1; rw [h] at hci; omega
  obtain ⟨r, hr, ⟨cell, q1, q2, q3, q4⟩, hsk⟩ := (hR.2.1 a (by omega)).1 hci
  cases hc.symm.trans hr
  have hts := hC.2.2.2.2.2.1
  have hK := hC.2.2.2.2.2.2.2.2.1
  obtain ⟨hS, hfc, kC, hkC, hkind⟩ := hK.1 _ _ hc
  obtain ⟨cf, kf, fi, f, hi, hsl⟩ := hS k hkN
  have w := kk g p e s m args below meth cd H locs la hC hR hlo hl okl (am_okc (v := qi (I a (k : Int))) ((hsk k hkN).1 ht) (am_okt oks))
  show W _ _ _ _ _ _ _ _ _ _ _ _ _ _ _ (F0 m pc la (am_cv η (qr a) :: st.map (am_cv η)))
  rw [am_cv_r η ha0]
  refine W.getf hC.1 hC.2.1 hC.2.2.2.2.1 (hts _ hlk) hi (u_facts hfc hkC (u_lays hts (am_uws _ _ hc) hkN) hi).1 q1 (by rw [q3]; exact fun h => by cases h) (v := am_cv η (qi (I a (k : Int)))) ?_ rfl rfl hd w
  rw [hsl, q4 k hkN]
  unfold am_fv am_sv
  rw [if_pos ht]
theorem ok_getL {idx ci a k p0 : Nat} {x : Int} (hd : decode M.2.1 pc = .ok (.getfield idx, 3)) (hq : pc + 3 = q) (hf : am_fok M.1 idx ci k 1 p0 = true) (hk : (K a).1 = ci) (hx : I a (k : Int) = x) (kk : G → Ok η l M Q q ls (ql x :: st) n K I F c z) : G → Ok η l M Q pc ls (qr a :: st) n K I F c z := by
  subst hq; subst hx; subst hk
  intro g p e s m args below meth cd H locs la hC hR hlo hl okl oks
  obtain ⟨hci, C, T, N, hc, hkN, ht, hlk⟩ := am_fok_spec hf
  obtain ⟨ha0, han⟩ := hR.lt (a := a) (by omega)
  have ha1 : a ≠ 1 := fun h => by have := hR.2.2.2.2.1; rw [h] at hci; omega
  obtain ⟨r, hr, ⟨cell, q1, q2, q3, q4⟩, hsk⟩ := (hR.2.1 a (by omega)).1 hci
  cases hc.symm.trans hr
  have hts := hC.2.2.2.2.2.1
  have hK := hC.2.2.2.2.2.2.2.2.1
  obtain ⟨hS, hfc, kC, hkC, hkind⟩ := hK.1 _ _ hc
  obtain ⟨cf, kf, fi, f, hi, hsl⟩ := hS k hkN
  have w := kk g p e s m args below meth cd H locs la hC hR hlo hl okl (am_okc (v := ql (I a (k : Int))) ((hsk k hkN).2 ht) (am_okt oks))
  show W _ _ _ _ _ _ _ _ _ _ _ _ _ _ _ (F0 m pc la (am_cv η (qr a) :: st.map (am_cv η)))
  rw [am_cv_r η ha0]
  refine W.getf hC.1 hC.2.1 hC.2.2.2.2.1 (hts _ hlk) hi (u_facts hfc hkC (u_lays hts (am_uws _ _ hc) hkN) hi).1 q1 (by rw [q3]; exact fun h => by cases h) (v := am_cv η (ql (I a (k : Int)))) ?_ rfl rfl hd w
  rw [hsl, q4 k hkN]
  unfold am_fv am_sv
  rw [if_neg (by rw [ht]; decide), if_pos ht]
theorem ok_getR {idx ci a k p0 : Nat} {x : Nat} (hd : decode M.2.1 pc = .ok (.getfield idx, 3)) (hq : pc + 3 = q) (hf : am_fok M.1 idx ci k 2 p0 = true) (hk : (K a).1 = ci) (hx : F a (k : Int) = x) (kk : G → Ok η l M Q q ls (qr x :: st) n K I F c z) : G → Ok η l M Q pc ls (qr a :: st) n K I F c z := by
  subst hq; subst hx; subst hk
  intro g p e s m args below meth cd H locs la hC hR hlo hl okl oks
  obtain ⟨hci, C, T, N, hc, hkN, ht, hlk⟩ := am_fok_spec hf
  obtain ⟨ha0, han⟩ := hR.lt (a := a) (by omega)
  have ha1 : a ≠ 1 := fun h => by have := hR.2.2.2.2.1; rw [h] at hci; omega
  obtain ⟨r, hr, ⟨cell, q1, q2, q3, q4⟩, hsk⟩ := (hR.2.1 a (by omega)).1 hci
  cases hc.symm.trans hr
  have hts := hC.2.2.2.2.2.1
  have hK := hC.2.2.2.2.2.2.2.2.1
  obtain ⟨hS, hfc, kC, hkC, hkind⟩ := hK.1 _ _ hc
  obtain ⟨cf, kf, fi, f, hi, hsl⟩ := hS k hkN
  have w := kk g p e s m args below meth cd H locs la hC hR hlo hl okl (am_okc (v := qr (F a (k : Int))) trivial (am_okt oks))
  show W _ _ _ _ _ _ _ _ _ _ _ _ _ _ _ (F0 m pc la (am_cv η (qr a) :: st.map (am_cv η)))
  rw [am_cv_r η ha0]
  refine W.getf hC.1 hC.2.1 hC.2.2.2.2.1 (hts _ hlk) hi (u_facts hfc hkC (u_lays hts (am_uws _ _ hc) hkN) hi).1 q1 (by rw [q3]; exact fun h => by cases h) (v := am_cv η (qr (F a (k : Int)))) ?_ rfl rfl hd w
  rw [hsl, q4 k hkN]
  unfold am_fv am_sv
  rw [if_neg (by rw [ht]; decide), if_neg (by rw [ht]; decide)]
theorem ok_putI {idx ci a k p0 : Nat} {x : Int} {f : am_I → Option ρ} (hd : decode M.2.1 pc = .ok (.putfield idx, 3)) (hq : pc + 3 = q) (hf : am_fok M.1 idx ci k 0 p0 = true) (hk : (K a).1 = ci) (hty : parseFieldDescriptor (am_fd ci k) = some .int) (hfin : am_fin ci k = false) (kk : ∀ I', f I' = some r0 → Ok η l M Q q ls (st) n K I' F c z) : am_lt (am_u2 I a (k : Int) x) f = some r0 → Ok η l M Q pc ls (qi x :: qr a :: st) n K I F c z := by
  subst hq; subst hk
  intro g p e s m args below meth cd H locs la hC hR hlo hl okl oks
  obtain ⟨hci, C, T, N, hc, hkN, ht, hlk⟩ := am_fok_spec hf
  obtain ⟨ha0, han⟩ := hR.lt (a := a) (by omega)
  have ha1 : a ≠ 1 := fun h => by have := hR.2.2.2.2.1; rw [h] at hci; omega
  obtain ⟨r, hr, ⟨cell, q1, q2, q3, q4⟩, hsk⟩ := (hR.2.1 a (by omega)).1 hci
  cases hc.symm.trans hr
  have hts := hC.2.2.2.2.2.1
  have hK := hC.2.2.2.2.2.2.2.2.1
  have hap := va_apart (own := M.1) hts (am_uws _ _ hc) (am_tyf T) (am_tyok _ _ hc) (am_nmok _ _ hc) hK hc
  obtain ⟨hS, hfc, kC, hkC, hkind⟩ := hK.1 _ _ hc
  obtain ⟨cf, kf, fi, f, hi, hsl⟩ := hS k hkN
  have hlay := hts _ (am_uws _ _ hc _ (u_in_lay hkN))
  unfold u_lay at hlay
  have hst := (u_facts hfc hkC (u_lays hts (am_uws _ _ hc) hkN) hi).1
  show W _ _ _ _ _ _ _ _ _ _ _ _ _ _ _ (F0 m pc la (am_cv η (qi x) :: am_cv η (qr a) :: st.map (am_cv η)))
  rw [am_cv_r η ha0]
  rw [if_neg (by rw [← am_fin_eq hc, hfin]; decide)] at hlay
  have h6 := u_store hfc hkC hkind hlay hi (ty := .int) (v := am_cv η (qi x)) (by rw [← am_fd_eq hc]; exact hty) rfl rfl
  refine W.putK hC.1 hC.2.1 (f := f) ⟨hC.2.2.2.2.1, hts _ hlk, ⟨_, _, _, hi⟩, hst⟩ (by rw [q2]; exact h6) q1 q3 (by rw [hsl]; exact k2_hasslot (q4 k hkN)) rfl rfl hd fun H' e1 e2 e3 => ?_
  rw [hsl] at e1
  refine kk _ g p e s m args below meth cd H' _ la hC (am_R_put hR (by omega) han e2 e3 (fun b hb j => am_u2_a hb) (fun _ _ _ => rfl) ⟨fun _ => ⟨_, hc, t_OB.to (V := updV (am_fv η I F T a) k (am_cv η (qi x))) ⟨_, e1, q2, q3, t_set q4 hap hkN _⟩ (fun j _ => ?_), fun j hjN => ⟨fun h0 => by by_cases hj : j = k; (· subst hj; rw [am_u2_s]; exact am_okh oks); (· rw [am_u2_k (by omega)]; exact (hsk j hjN).1 h0), fun h0 => by by_cases hj : j = k; (· subst hj; rw [am_u2_s]; rw [ht] at h0; cases h0); (· rw [am_u2_k (by omega)]; exact (hsk j hjN).2 h0)⟩⟩, fun h => absurd h (by omega)⟩) (fun y hy => ?_) hl okl (am_okt (am_okt oks))
  · unfold updV
    by_cases hj : j = k
    · subst hj
      rw [if_pos rfl]; unfold am_fv am_sv
      simp only [ht, am_u2_s]
      try rfl
    · rw [if_neg hj]; unfold am_fv am_sv; simp only [am_u2_k (show (j : Int) ≠ (k : Int) by omega)]
  · rcases List.mem_append.mp hy with h | h
    · exact hlo y h
    · rw [List.mem_singleton.mp h]
      show η.2.2.1 + 1 ≤ am_ad η a
      unfold am_ad; rw [if_neg ha1]; omega
theorem ok_putZ {idx ci a k p0 : Nat} {x : Int} {f : am_I → Option ρ} (hd : decode M.2.1 pc = .ok (.putfield idx, 3)) (hq : pc + 3 = q) (hf : am_fok M.1 idx ci k 0 p0 = true) (hk : (K a).1 = ci) (hty : parseFieldDescriptor (am_fd ci k) = some .boolean) (hx : x = 0 ∨ x = 1) (hfin : am_fin ci k = false) (kk : ∀ I', f I' = some r0 → Ok η l M Q q ls (st) n K I' F c z) : am_lt (am_u2 I a (k : Int) x) f = some r0 → Ok η l M Q pc ls (qi x :: qr a :: st) n K I F c z := by
  subst hq; subst hk
  intro g p e s m args below meth cd H locs la hC hR hlo hl okl oks
  obtain ⟨hci, C, T, N, hc, hkN, ht, hlk⟩ := am_fok_spec hf
  obtain ⟨ha0, han⟩ := hR.lt (a := a) (by omega)
  have ha1 : a ≠ 1 := fun h => by have := hR.2.2.2.2.1; rw [h] at hci; omega
  obtain ⟨r, hr, ⟨cell, q1, q2, q3, q4⟩, hsk⟩ := (hR.2.1 a (by omega)).1 hci
  cases hc.symm.trans hr
  have hts := hC.2.2.2.2.2.1
  have hK := hC.2.2.2.2.2.2.2.2.1
  have hap := va_apart (own := M.1) hts (am_uws _ _ hc) (am_tyf T) (am_tyok _ _ hc) (am_nmok _ _ hc) hK hc
  obtain ⟨hS, hfc, kC, hkC, hkind⟩ := hK.1 _ _ hc
  obtain ⟨cf, kf, fi, f, hi, hsl⟩ := hS k hkN
  have hlay := hts _ (am_uws _ _ hc _ (u_in_lay hkN))
  unfold u_lay at hlay
  have hst := (u_facts hfc hkC (u_lays hts (am_uws _ _ hc) hkN) hi).1
  show W _ _ _ _ _ _ _ _ _ _ _ _ _ _ _ (F0 m pc la (am_cv η (qi x) :: am_cv η (qr a) :: st.map (am_cv η)))
  rw [am_cv_r η ha0]
  rw [if_neg (by rw [← am_fin_eq hc, hfin]; decide)] at hlay
  have h6 := u_store hfc hkC hkind hlay hi (ty := .boolean) (v := am_cv η (qi x)) (by rw [← am_fd_eq hc]; exact hty) (by rcases hx with rfl | rfl <;> rfl) (by rcases hx with rfl | rfl <;> rfl)
  refine W.putK hC.1 hC.2.1 (f := f) ⟨hC.2.2.2.2.1, hts _ hlk, ⟨_, _, _, hi⟩, hst⟩ (by rw [q2]; exact h6) q1 q3 (by rw [hsl]; exact k2_hasslot (q4 k hkN)) rfl rfl hd fun H' e1 e2 e3 => ?_
  rw [hsl] at e1
  refine kk _ g p e s m args below meth cd H' _ la hC (am_R_put hR (by omega) han e2 e3 (fun b hb j => am_u2_a hb) (fun _ _ _ => rfl) ⟨fun _ => ⟨_, hc, t_OB.to (V := updV (am_fv η I F T a) k (am_cv η (qi x))) ⟨_, e1, q2, q3, t_set q4 hap hkN _⟩ (fun j _ => ?_), fun j hjN => ⟨fun h0 => by by_cases hj : j = k; (· subst hj; rw [am_u2_s]; exact am_okh oks); (· rw [am_u2_k (by omega)]; exact (hsk j hjN).1 h0), fun h0 => by by_cases hj : j = k; (· subst hj; rw [am_u2_s]; rw [ht] at h0; cases h0); (· rw [am_u2_k (by omega)]; exact (hsk j hjN).2 h0)⟩⟩, fun h => absurd h (by omega)⟩) (fun y hy => ?_) hl okl (am_okt (am_okt oks))
  · unfold updV
    by_cases hj : j = k
    · subst hj
      rw [if_pos rfl]; unfold am_fv am_sv
      simp only [ht, am_u2_s]
      try rfl
    · rw [if_neg hj]; unfold am_fv am_sv; simp only [am_u2_k (show (j : Int) ≠ (k : Int) by omega)]
  · rcases List.mem_append.mp hy with h | h
    · exact hlo y h
    · rw [List.mem_singleton.mp h]
      show η.2.2.1 + 1 ≤ am_ad η a
      unfold am_ad; rw [if_neg ha1]; omega
theorem ok_putL {idx ci a k p0 : Nat} {x : Int} {f : am_I → Option ρ} (hd : decode M.2.1 pc = .ok (.putfield idx, 3)) (hq : pc + 3 = q) (hf : am_fok M.1 idx ci k 1 p0 = true) (hk : (K a).1 = ci) (hty : parseFieldDescriptor (am_fd ci k) = some .long) (hfin : am_fin ci k = false) (kk : ∀ I', f I' = some r0 → Ok η l M Q q ls (st) n K I' F c z) : am_lt (am_u2 I a (k : Int) x) f = some r0 → Ok η l M Q pc ls (ql x :: qr a :: st) n K I F c z := by
  subst hq; subst hk
  intro g p e s m args below meth cd H locs la hC hR hlo hl okl oks
  obtain ⟨hci, C, T, N, hc, hkN, ht, hlk⟩ := am_fok_spec hf
  obtain ⟨ha0, han⟩ := hR.lt (a := a) (by omega)
  have ha1 : a ≠ 1 := fun h => by have := hR.2.2.2.2.1; rw [h] at hci; omega
  obtain ⟨r, hr, ⟨cell, q1, q2, q3, q4⟩, hsk⟩ := (hR.2.1 a (by omega)).1 hci
  cases hc.symm.trans hr
  have hts := hC.2.2.2.2.2.1
  have hK := hC.2.2.2.2.2.2.2.2.1
  have hap := va_apart (own := M.1) hts (am_uws _ _ hc) (am_tyf T) (am_tyok _ _ hc) (am_nmok _ _ hc) hK hc
  obtain ⟨hS, hfc, kC, hkC, hkind⟩ := hK.1 _ _ hc
  obtain ⟨cf, kf, fi, f, hi, hsl⟩ := hS k hkN
  have hlay := hts _ (am_uws _ _ hc _ (u_in_lay hkN))
  unfold u_lay at hlay
  have hst := (u_facts hfc hkC (u_lays hts (am_uws _ _ hc) hkN) hi).1
  show W _ _ _ _ _ _ _ _ _ _ _ _ _ _ _ (F0 m pc la (am_cv η (ql x) :: am_cv η (qr a) :: st.map (am_cv η)))
  rw [am_cv_r η ha0]
  rw [if_neg (by rw [← am_fin_eq hc, hfin]; decide)] at hlay
  have h6 := u_store hfc hkC hkind hlay hi (ty := .long) (v := am_cv η (ql x)) (by rw [← am_fd_eq hc]; exact hty) rfl rfl
  refine W.putK hC.1 hC.2.1 (f := f) ⟨hC.2.2.2.2.1, hts _ hlk, ⟨_, _, _, hi⟩, hst⟩ (by rw [q2]; exact h6) q1 q3 (by rw [hsl]; exact k2_hasslot (q4 k hkN)) rfl rfl hd fun H' e1 e2 e3 => ?_
  rw [hsl] at e1
  refine kk _ g p e s m args below meth cd H' _ la hC (am_R_put hR (by omega) han e2 e3 (fun b hb j => am_u2_a hb) (fun _ _ _ => rfl) ⟨fun _ => ⟨_, hc, t_OB.to (V := updV (am_fv η I F T a) k (am_cv η (ql x))) ⟨_, e1, q2, q3, t_set q4 hap hkN _⟩ (fun j _ => ?_), fun j hjN => ⟨fun h0 => by by_cases hj : j = k; (· subst hj; rw [am_u2_s]; rw [ht] at h0; cases h0); (· rw [am_u2_k (by omega)]; exact (hsk j hjN).1 h0), fun h0 => by by_cases hj : j = k; (· subst hj; rw [am_u2_s]; exact am_okh oks); (· rw [am_u2_k (by omega)]; exact (hsk j hjN).2 h0)⟩⟩, fun h => absurd h (by omega)⟩) (fun y hy => ?_) hl okl (am_okt (am_okt oks))
  · unfold updV
    by_cases hj : j = k
    · subst hj
      rw [if_pos rfl]; unfold am_fv am_sv
      simp only [ht, am_u2_s]
      try rfl
    · rw [if_neg hj]; unfold am_fv am_sv; simp only [am_u2_k (show (j : Int) ≠ (k : Int) by omega)]
  · rcases List.mem_append.mp hy with h | h
    · exact hlo y h
    · rw [List.mem_singleton.mp h]
      show η.2.2.1 + 1 ≤ am_ad η a
      unfold am_ad; rw [if_neg ha1]; omega
theorem ok_putR {idx ci a k p0 : Nat} {x : Nat} {f : am_F → Option ρ} (hd : decode M.2.1 pc = .ok (.putfield idx, 3)) (hq : pc + 3 = q) (hf : am_fok M.1 idx ci k 2 p0 = true) (hk : (K a).1 = ci) {ty : FieldType} (hty : parseFieldDescriptor (am_fd ci k) = some ty) (htr : am_isR ty = true) (hfin : am_fin ci k = false) (kk : ∀ F', f F' = some r0 → Ok η l M Q q ls (st) n K I F' c z) : am_lt (am_u2 F a (k : Int) x) f = some r0 → Ok η l M Q pc ls (qr x :: qr a :: st) n K I F c z := by
  subst hq; subst hk
  intro g p e s m args below meth cd H locs la hC hR hlo hl okl oks
  obtain ⟨hci, C, T, N, hc, hkN, ht, hlk⟩ := am_fok_spec hf
  obtain ⟨ha0, han⟩ := hR.lt (a := a) (by omega)
  have ha1 : a ≠ 1 := fun h => by have := hR.2.2.2.2.1; rw [h] at hci; omega
  obtain ⟨r, hr, ⟨cell, q1, q2, q3, q4⟩, hsk⟩ := (hR.2.1 a (by omega)).1 hci
  cases hc.symm.trans hr
  have hts := hC.2.2.2.2.2.1
  have hK := hC.2.2.2.2.2.2.2.2.1
  have hap := va_apart (own := M.1) hts (am_uws _ _ hc) (am_tyf T) (am_tyok _ _ hc) (am_nmok _ _ hc) hK hc
  obtain ⟨hS, hfc, kC, hkC, hkind⟩ := hK.1 _ _ hc
  obtain ⟨cf, kf, fi, f, hi, hsl⟩ := hS k hkN
  have hlay := hts _ (am_uws _ _ hc _ (u_in_lay hkN))
  unfold u_lay at hlay
  have hst := (u_facts hfc hkC (u_lays hts (am_uws _ _ hc) hkN) hi).1
  show W _ _ _ _ _ _ _ _ _ _ _ _ _ _ _ (F0 m pc la (am_cv η (qr x) :: am_cv η (qr a) :: st.map (am_cv η)))
  rw [am_cv_r η ha0]
  rw [if_neg (by rw [← am_fin_eq hc, hfin]; decide)] at hlay
  have h6 := u_store hfc hkC hkind hlay hi (ty := ty) (v := am_cv η (qr x)) (by rw [← am_fd_eq hc]; exact hty) (am_nar htr x) (am_fit htr x)
  refine W.putK hC.1 hC.2.1 (f := f) ⟨hC.2.2.2.2.1, hts _ hlk, ⟨_, _, _, hi⟩, hst⟩ (by rw [q2]; exact h6) q1 q3 (by rw [hsl]; exact k2_hasslot (q4 k hkN)) rfl rfl hd fun H' e1 e2 e3 => ?_
  rw [hsl] at e1
  refine kk _ g p e s m args below meth cd H' _ la hC (am_R_put hR (by omega) han e2 e3 (fun _ _ _ => rfl) (fun b hb j => am_u2_a hb) ⟨fun _ => ⟨_, hc, t_OB.to (V := updV (am_fv η I F T a) k (am_cv η (qr x))) ⟨_, e1, q2, q3, t_set q4 hap hkN _⟩ (fun j _ => ?_), fun j hjN => hsk j hjN⟩, fun h => absurd h (by omega)⟩) (fun y hy => ?_) hl okl (am_okt (am_okt oks))
  · unfold updV
    by_cases hj : j = k
    · subst hj
      rw [if_pos rfl]; unfold am_fv am_sv
      simp only [ht, am_u2_s]
      try rfl
    · rw [if_neg hj]; unfold am_fv am_sv; simp only [am_u2_k (show (j : Int) ≠ (k : Int) by omega)]
  · rcases List.mem_append.mp hy with h | h
    · exact hlo y h
    · rw [List.mem_singleton.mp h]
      show η.2.2.1 + 1 ≤ am_ad η a
      unfold am_ad; rw [if_neg ha1]; omega
theorem ok_putIF {idx ci a k p0 : Nat} {x : Int} {f : am_I → Option ρ} (hd : decode M.2.1 pc = .ok (.putfield idx, 3)) (hq : pc + 3 = q) (hf : am_fok M.1 idx ci k 0 p0 = true) (hk : (K a).1 = ci) (hty : parseFieldDescriptor (am_fd ci k) = some .int) (hfin : am_fin ci k = true) (hini : M.2.2.2.2.2 = true) (hown : am_dc ci k = M.1) (kk : ∀ I', f I' = some r0 → Ok η l M Q q ls (st) n K I' F c z) : am_lt (am_u2 I a (k : Int) x) f = some r0 → Ok η l M Q pc ls (qi x :: qr a :: st) n K I F c z := by
  subst hq; subst hk
  intro g p e s m args below meth cd H locs la hC hR hlo hl okl oks
  obtain ⟨hci, C, T, N, hc, hkN, ht, hlk⟩ := am_fok_spec hf
  obtain ⟨ha0, han⟩ := hR.lt (a := a) (by omega)
  have ha1 : a ≠ 1 := fun h => by have := hR.2.2.2.2.1; rw [h] at hci; omega
  obtain ⟨r, hr, ⟨cell, q1, q2, q3, q4⟩, hsk⟩ := (hR.2.1 a (by omega)).1 hci
  cases hc.symm.trans hr
  have hts := hC.2.2.2.2.2.1
  have hK := hC.2.2.2.2.2.2.2.2.1
  have hap := va_apart (own := M.1) hts (am_uws _ _ hc) (am_tyf T) (am_tyok _ _ hc) (am_nmok _ _ hc) hK hc
  obtain ⟨hS, hfc, kC, hkC, hkind⟩ := hK.1 _ _ hc
  obtain ⟨cf, kf, fi, f, hi, hsl⟩ := hS k hkN
  have hlay := hts _ (am_uws _ _ hc _ (u_in_lay hkN))
  unfold u_lay at hlay
  have hst := (u_facts hfc hkC (u_lays hts (am_uws _ _ hc) hkN) hi).1
  show W _ _ _ _ _ _ _ _ _ _ _ _ _ _ _ (F0 m pc la (am_cv η (qi x) :: am_cv η (qr a) :: st.map (am_cv η)))
  rw [am_cv_r η ha0]
  rw [if_pos (by rw [← am_fin_eq hc]; exact hfin)] at hlay
  have hcf : m.cls = cf := by
    obtain ⟨_, _, c', _, _, _, -, -, hf', -, -, -, hown2, -⟩ := Cond.laysFinal_spec hlay
    have e1 : c' = cf := by have := hi.symm.trans hf'; simp at this; exact this.1.symm
    rw [show (T k).1 = M.1 by rw [← am_dc_eq hc]; exact hown] at hown2
    rw [← e1]; exact Option.some.inj (hC.2.2.2.2.1.symm.trans hown2)
  have h6 := u_fits hfc hkC hkind (Or.inr hlay) hi (ty := .int) (v := am_cv η (qi x)) (by rw [← am_fd_eq hc]; exact hty) rfl rfl
  refine W.putFinK hC.1 hC.2.1 hC.2.2.2.2.1 (hts _ hlk) hi hst hcf (hC.2.2.2.2.2.2.2.1 hini) (by rw [q2]; exact h6) q1 q3 (by rw [hsl]; exact k2_hasslot (q4 k hkN)) rfl rfl hd fun H' e1 e2 e3 => ?_
  rw [hsl] at e1
  refine kk _ g p e s m args below meth cd H' _ la hC (am_R_put hR (by omega) han e2 e3 (fun b hb j => am_u2_a hb) (fun _ _ _ => rfl) ⟨fun _ => ⟨_, hc, t_OB.to (V := updV (am_fv η I F T a) k (am_cv η (qi x))) ⟨_, e1, q2, q3, t_set q4 hap hkN _⟩ (fun j _ => ?_), fun j hjN => ⟨fun h0 => by by_cases hj : j = k; (· subst hj; rw [am_u2_s]; exact am_okh oks); (· rw [am_u2_k (by omega)]; exact (hsk j hjN).1 h0), fun h0 => by by_cases hj : j = k; (· subst hj; rw [am_u2_s]; rw [ht] at h0; cases h0); (· rw [am_u2_k (by omega)]; exact (hsk j hjN).2 h0)⟩⟩, fun h => absurd h (by omega)⟩) (fun y hy => ?_) hl okl (am_okt (am_okt oks))
  · unfold updV
    by_cases hj : j = k
    · subst hj
      rw [if_pos rfl]; unfold am_fv am_sv
      simp only [ht, am_u2_s]
      try rfl
    · rw [if_neg hj]; unfold am_fv am_sv; simp only [am_u2_k (show (j : Int) ≠ (k : Int) by omega)]
  · rcases List.mem_append.mp hy with h | h
    · exact hlo y h
    · rw [List.mem_singleton.mp h]
      show η.2.2.1 + 1 ≤ am_ad η a
      unfold am_ad; rw [if_neg ha1]; omega
theorem ok_putZF {idx ci a k p0 : Nat} {x : Int} {f : am_I → Option ρ} (hd : decode M.2.1 pc = .ok (.putfield idx, 3)) (hq : pc + 3 = q) (hf : am_fok M.1 idx ci k 0 p0 = true) (hk : (K a).1 = ci) (hty : parseFieldDescriptor (am_fd ci k) = some .boolean) (hx : x = 0 ∨ x = 1) (hfin : am_fin ci k = true) (hini : M.2.2.2.2.2 = true) (hown : am_dc ci k = M.1) (kk : ∀ I', f I' = some r0 → Ok η l M Q q ls (st) n K I' F c z) : am_lt (am_u2 I a (k : Int) x) f = some r0 → Ok η l M Q pc ls (qi x :: qr a :: st) n K I F c z := by
  subst hq; subst hk
  intro g p e s m args below meth cd H locs la hC hR hlo hl okl oks
  obtain ⟨hci, C, T, N, hc, hkN, ht, hlk⟩ := am_fok_spec hf
  obtain ⟨ha0, han⟩ := hR.lt (a := a) (by omega)
  have ha1 : a ≠ 1 := fun h => by have := hR.2.2.2.2.1; rw [h] at hci; omega
  obtain ⟨r, hr, ⟨cell, q1, q2, q3, q4⟩, hsk⟩ := (hR.2.1 a (by omega)).1 hci
  cases hc.symm.trans hr
  have hts := hC.2.2.2.2.2.1
  have hK := hC.2.2.2.2.2.2.2.2.1
  have hap := va_apart (own := M.1) hts (am_uws _ _ hc) (am_tyf T) (am_tyok _ _ hc) (am_nmok _ _ hc) hK hc
  obtain ⟨hS, hfc, kC, hkC, hkind⟩ := hK.1 _ _ hc
  obtain ⟨cf, kf, fi, f, hi, hsl⟩ := hS k hkN
  have hlay := hts _ (am_uws _ _ hc _ (u_in_lay hkN))
  unfold u_lay at hlay
  have hst := (u_facts hfc hkC (u_lays hts (am_uws _ _ hc) hkN) hi).1
  show W _ _ _ _ _ _ _ _ _ _ _ _ _ _ _ (F0 m pc la (am_cv η (qi x) :: am_cv η (qr a) :: st.map (am_cv η)))
  rw [am_cv_r η ha0]
  rw [if_pos (by rw [← am_fin_eq hc]; exact hfin)] at hlay
  have hcf : m.cls = cf := by
    obtain ⟨_, _, c', _, _, _, -, -, hf', -, -, -, hown2, -⟩ := Cond.laysFinal_spec hlay
    have e1 : c' = cf := by have := hi.symm.trans hf'; simp at this; exact this.1.symm
    rw [show (T k).1 = M.1 by rw [← am_dc_eq hc]; exact hown] at hown2
    rw [← e1]; exact Option.some.inj (hC.2.2.2.2.1.symm.trans hown2)
  have h6 := u_fits hfc hkC hkind (Or.inr hlay) hi (ty := .boolean) (v := am_cv η (qi x)) (by rw [← am_fd_eq hc]; exact hty) (by rcases hx with rfl | rfl <;> rfl) (by rcases hx with rfl | rfl <;> rfl)
  refine W.putFinK hC.1 hC.2.1 hC.2.2.2.2.1 (hts _ hlk) hi hst hcf (hC.2.2.2.2.2.2.2.1 hini) (by rw [q2]; exact h6) q1 q3 (by rw [hsl]; exact k2_hasslot (q4 k hkN)) rfl rfl hd fun H' e1 e2 e3 => ?_
  rw [hsl] at e1
  refine kk _ g p e s m args below meth cd H' _ la hC (am_R_put hR (by omega) han e2 e3 (fun b hb j => am_u2_a hb) (fun _ _ _ => rfl) ⟨fun _ => ⟨_, hc, t_OB.to (V := updV (am_fv η I F T a) k (am_cv η (qi x))) ⟨_, e1, q2, q3, t_set q4 hap hkN _⟩ (fun j _ => ?_), fun j hjN => ⟨fun h0 => by by_cases hj : j = k; (· subst hj; rw [am_u2_s]; exact am_okh oks); (· rw [am_u2_k (by omega)]; exact (hsk j hjN).1 h0), fun h0 => by by_cases hj : j = k; (· subst hj; rw [am_u2_s]; rw [ht] at h0; cases h0); (· rw [am_u2_k (by omega)]; exact (hsk j hjN).2 h0)⟩⟩, fun h => absurd h (by omega)⟩) (fun y hy => ?_) hl okl (am_okt (am_okt oks))
  · unfold updV
    by_cases hj : j = k
    · subst hj
      rw [if_pos rfl]; unfold am_fv am_sv
      simp only [ht, am_u2_s]
      try rfl
    · rw [if_neg hj]; unfold am_fv am_sv; simp only [am_u2_k (show (j : Int) ≠ (k : Int) by omega)]
  · rcases List.mem_append.mp hy with h | h
    · exact hlo y h
    · rw [List.mem_singleton.mp h]
      show η.2.2.1 + 1 ≤ am_ad η a
      unfold am_ad; rw [if_neg ha1]; omega
theorem ok_putLF {idx ci a k p0 : Nat} {x : Int} {f : am_I → Option ρ} (hd : decode M.2.1 pc = .ok (.putfield idx, 3)) (hq : pc + 3 = q) (hf : am_fok M.1 idx ci k 1 p0 = true) (hk : (K a).1 = ci) (hty : parseFieldDescriptor (am_fd ci k) = some .long) (hfin : am_fin ci k = true) (hini : M.2.2.2.2.2 = true) (hown : am_dc ci k = M.1) (kk : ∀ I', f I' = some r0 → Ok η l M Q q ls (st) n K I' F c z) : am_lt (am_u2 I a (k : Int) x) f = some r0 → Ok η l M Q pc ls (ql x :: qr a :: st) n K I F c z := by
  subst hq; subst hk
  intro g p e s m args below meth cd H locs la hC hR hlo hl okl oks
  obtain ⟨hci, C, T, N, hc, hkN, ht, hlk⟩ := am_fok_spec hf
  obtain ⟨ha0, han⟩ := hR.lt (a := a) (by omega)
  have ha1 : a ≠ 1 := fun h => by have := hR.2.2.2.2.1; rw [h] at hci; omega
  obtain ⟨r, hr, ⟨cell, q1, q2, q3, q4⟩, hsk⟩ := (hR.2.1 a (by omega)).1 hci
  cases hc.symm.trans hr
  have hts := hC.2.2.2.2.2.1
  have hK := hC.2.2.2.2.2.2.2.2.1
  have hap := va_apart (own := M.1) hts (am_uws _ _ hc) (am_tyf T) (am_tyok _ _ hc) (am_nmok _ _ hc) hK hc
  obtain ⟨hS, hfc, kC, hkC, hkind⟩ := hK.1 _ _ hc
  obtain ⟨cf, kf, fi, f, hi, hsl⟩ := hS k hkN
  have hlay := hts _ (am_uws _ _ hc _ (u_in_lay hkN))
  unfold u_lay at hlay
  have hst := (u_facts hfc hkC (u_lays hts (am_uws _ _ hc) hkN) hi).1
  show W _ _ _ _ _ _ _ _ _ _ _ _ _ _ _ (F0 m pc la (am_cv η (ql x) :: am_cv η (qr a) :: st.map (am_cv η)))
  rw [am_cv_r η ha0]
  rw [if_pos (by rw [← am_fin_eq hc]; exact hfin)] at hlay
  have hcf : m.cls = cf := by
    obtain ⟨_, _, c', _, _, _, -, -, hf', -, -, -, hown2, -⟩ := Cond.laysFinal_spec hlay
    have e1 : c' = cf := by have := hi.symm.trans hf'; simp at this; exact this.1.symm
    rw [show (T k).1 = M.1 by rw [← am_dc_eq hc]; exact hown] at hown2
    rw [← e1]; exact Option.some.inj (hC.2.2.2.2.1.symm.trans hown2)
  have h6 := u_fits hfc hkC hkind (Or.inr hlay) hi (ty := .long) (v := am_cv η (ql x)) (by rw [← am_fd_eq hc]; exact hty) rfl rfl
  refine W.putFinK hC.1 hC.2.1 hC.2.2.2.2.1 (hts _ hlk) hi hst hcf (hC.2.2.2.2.2.2.2.1 hini) (by rw [q2]; exact h6) q1 q3 (by rw [hsl]; exact k2_hasslot (q4 k hkN)) rfl rfl hd fun H' e1 e2 e3 => ?_
  rw [hsl] at e1
  refine kk _ g p e s m args below meth cd H' _ la hC (am_R_put hR (by omega) han e2 e3 (fun b hb j => am_u2_a hb) (fun _ _ _ => rfl) ⟨fun _ => ⟨_, hc, t_OB.to (V := updV (am_fv η I F T a) k (am_cv η (ql x))) ⟨_, e1, q2, q3, t_set q4 hap hkN _⟩ (fun j _ => ?_), fun j hjN => ⟨fun h0 => by by_cases hj : j = k; (· subst hj; rw [am_u2_s]; rw [ht] at h0; cases h0); (· rw [am_u2_k (by omega)]; exact (hsk j hjN).1 h0), fun h0 => by by_cases hj : j = k; (· subst hj; rw [am_u2_s]; exact am_okh oks); (· rw [am_u2_k (by omega)]; exact (hsk j hjN).2 h0)⟩⟩, fun h => absurd h (by omega)⟩) (fun y hy => ?_) hl okl (am_okt (am_okt oks))
  · unfold updV
    by_cases hj : j = k
    · subst hj
      rw [if_pos rfl]; unfold am_fv am_sv
      simp only [ht, am_u2_s]
      try rfl
    · rw [if_neg hj]; unfold am_fv am_sv; simp only [am_u2_k (show (j : Int) ≠ (k : Int) by omega)]
  · rcases List.mem_append.mp hy with h | h
    · exact hlo y h
    · rw [List.mem_singleton.mp h]
      show η.2.2.1 + 1 ≤ am_ad η a
      unfold am_ad; rw [if_neg ha1]; omega
theorem ok_putRF {idx ci a k p0 : Nat} {x : Nat} {f : am_F → Option ρ} (hd : decode M.2.1 pc = .ok (.putfield idx, 3)) (hq : pc + 3 = q) (hf : am_fok M.1 idx ci k 2 p0 = true) (hk : (K a).1 = ci) {ty : FieldType} (hty : parseFieldDescriptor (am_fd ci k) = some ty) (htr : am_isR ty = true) (hfin : am_fin ci k = true) (hini : M.2.2.2.2.2 = true) (hown : am_dc ci k = M.1) (kk : ∀ F', f F' = some r0 → Ok η l M Q q ls (st) n K I F' c z) : am_lt (am_u2 F a (k : Int) x) f = some r0 → Ok η l M Q pc ls (qr x :: qr a :: st) n K I F c z := by
  subst hq; subst hk
  intro g p e s m args below meth cd H locs la hC hR hlo hl okl oks
  obtain ⟨hci, C, T, N, hc, hkN, ht, hlk⟩ := am_fok_spec hf
  obtain ⟨ha0, han⟩ := hR.lt (a := a) (by omega)
  have ha1 : a ≠ 1 := fun h => by have := hR.2.2.2.2.1; rw [h] at hci; omega
  obtain ⟨r, hr, ⟨cell, q1, q2, q3, q4⟩, hsk⟩ := (hR.2.1 a (by omega)).1 hci
  cases hc.symm.trans hr
  have hts := hC.2.2.2.2.2.1
  have hK := hC.2.2.2.2.2.2.2.2.1
  have hap := va_apart (own := M.1) hts (am_uws _ _ hc) (am_tyf T) (am_tyok _ _ hc) (am_nmok _ _ hc) hK hc
  obtain ⟨hS, hfc, kC, hkC, hkind⟩ := hK.1 _ _ hc
  obtain ⟨cf, kf, fi, f, hi, hsl⟩ := hS k hkN
  have hlay := hts _ (am_uws _ _ hc _ (u_in_lay hkN))
  unfold u_lay at hlay
  have hst := (u_facts hfc hkC (u_lays hts (am_uws _ _ hc) hkN) hi).1
  show W _ _ _ _ _ _ _ _ _ _ _ _ _ _ _ (F0 m pc la (am_cv η (qr x) :: am_cv η (qr a) :: st.map (am_cv η)))
  rw [am_cv_r η ha0]
  rw [if_pos (by rw [← am_fin_eq hc]; exact hfin)] at hlay
  have hcf : m.cls = cf := by
    obtain ⟨_, _, c', _, _, _, -, -, hf', -, -, -, hown2, -⟩ := Cond.laysFinal_spec hlay
    have e1 : c' = cf := by have := hi.symm.trans hf'; simp at this; exact this.1.symm
    rw [show (T k).1 = M.1 by rw [← am_dc_eq hc]; exact hown] at hown2
    rw [← e1]; exact Option.some.inj (hC.2.2.2.2.1.symm.trans hown2)
  have h6 := u_fits hfc hkC hkind (Or.inr hlay) hi (ty := ty) (v := am_cv η (qr x)) (by rw [← am_fd_eq hc]; exact hty) (am_nar htr x) (am_fit htr x)
  refine W.putFinK hC.1 hC.2.1 hC.2.2.2.2.1 (hts _ hlk) hi hst hcf (hC.2.2.2.2.2.2.2.1 hini) (by rw [q2]; exact h6) q1 q3 (by rw [hsl]; exact k2_hasslot (q4 k hkN)) rfl rfl hd fun H' e1 e2 e3 => ?_
  rw [hsl] at e1
  refine kk _ g p e s m args below meth cd H' _ la hC (am_R_put hR (by omega) han e2 e3 (fun _ _ _ => rfl) (fun b hb j => am_u2_a hb) ⟨fun _ => ⟨_, hc, t_OB.to (V := updV (am_fv η I F T a) k (am_cv η (qr x))) ⟨_, e1, q2, q3, t_set q4 hap hkN _⟩ (fun j _ => ?_), fun j hjN => hsk j hjN⟩, fun h => absurd h (by omega)⟩) (fun y hy => ?_) hl okl (am_okt (am_okt oks))
  · unfold updV
    by_cases hj : j = k
    · subst hj
      rw [if_pos rfl]; unfold am_fv am_sv
      simp only [ht, am_u2_s]
      try rfl
    · rw [if_neg hj]; unfold am_fv am_sv; simp only [am_u2_k (show (j : Int) ≠ (k : Int) by omega)]
  · rcases List.mem_append.mp hy with h | h
    · exact hlo y h
    · rw [List.mem_singleton.mp h]
      show η.2.2.1 + 1 ≤ am_ad η a
      unfold am_ad; rw [if_neg ha1]; omega
end OKM
