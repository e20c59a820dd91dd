theorem am_tys_at (η : am_E) {i : Nat} {t : FieldType} (h : am_ty[i]? = some t) : (am_tys η)[i]? = some (η.2.1 i, t) := by
  have hi := (List.getElem?_eq_some_iff.mp h).1
  unfold am_tys
  rw [List.getElem?_map, List.getElem?_range hi]
  simp [h]
theorem am_inx {x N : Int} (hx : am_inI x) (h0 : 0 ≤ x) (h1 : x < N) : ¬ (Int32.ofInt x < 0 ∨ N.toNat ≤ (Int32.ofInt x).toNatClampNeg) := by
  rw [am_clamp hx]
  have e0 : (0 : Int32) = Int32.ofInt 0 := rfl
  rw [e0, am_ltI hx (by decide)]
  omega
theorem am_tn {x : Int} (h : 0 ≤ x) : ((x.toNat : Nat) : Int) = x := by omega
section OKN
variable {η : am_E} {l : Launch} {M : am_M} {Q : am_QM} {pc q : Nat} {ls : am_L} {st : List am_V} {n : Nat} {K : am_K} {I : am_I} {F : am_F} {c z : Nat} {G : Prop} {ρ : Type} {r0 : ρ}
theorem ok_iaload {a : Nat} {x v : Int} (hd : decode M.2.1 pc = .ok (.iaload, 1)) (hq : pc + 1 = q) (hk : (K a).1 = 100) (h0 : 0 ≤ x) (h1 : x < (K a).2) (hv : I a x = v) (kk : G → Ok η l M Q q ls (qi v :: st) n K I F c z) : G → Ok η l M Q pc ls (qi x :: qr a :: st) n K I F c z := by
  subst hq; subst hv
  intro g p e s m args below meth cd H locs la hC hR hlo hl okl oks
  obtain ⟨ha0, han⟩ := hR.lt (a := a) (by omega)
  have hx : am_inI x := am_okh oks
  have hxt := am_tn h0
  have hsk : am_inI (I a x) := by
    by_cases ha1 : a = 1
    · subst ha1
      have := hR.2.2.2.2.2.2.2 x.toNat (by omega)
      rw [hxt] at this; exact this
    · have := ((hR.2.1 a (by omega)).2 (by omega) (by omega)).2.2 x.toNat (by omega)
      rw [hxt, hk] at this; exact this.1 rfl
  have w := kk g p e s m args below meth cd H locs la hC hR hlo hl okl (am_okc (v := qi (I a x)) hsk (am_okt (am_okt oks)))
  show W _ _ _ _ _ _ _ _ _ _ _ _ _ _ _ (F0 m pc la (am_cv η (qi x) :: am_cv η (qr a) :: st.map (am_cv η)))
  rw [am_cv_r η ha0]
  by_cases ha1 : a = 1
  · subst ha1
    obtain ⟨scr, g1, g2, g3, g4, g5⟩ := hR.2.2.2.2.2.2.1
    refine W.iald (v := am_cv η (qi (I 1 x))) hC.1 hC.2.1 g1 g2 g3 (by rw [g4]; exact am_inx hx h0 h1) (by rw [am_clamp hx]; have := g5 x.toNat (by omega); simp only [hxt] at this; exact this) rfl rfl hd w
  · obtain ⟨-, hc2, -⟩ := (hR.2.1 a (by omega)).2 (by omega) (by omega)
    rw [hk] at hc2
    refine W.iald (v := am_cv η (qi (I a x))) hC.1 hC.2.1 hc2 ((hC.2.2.2.2.2.2.2.2.1.2 0 _ (am_tys_at η am_ty0)).1 _ _) (fun h => by cases h) (by rw [arrV_size]; exact am_inx hx h0 h1) (by rw [am_clamp hx, arrV_read _ _ (by omega)]; unfold am_av; rw [hxt]; rfl) rfl rfl hd w
theorem ok_baload {a : Nat} {x v : Int} (hd : decode M.2.1 pc = .ok (.baload, 1)) (hq : pc + 1 = q) (hk : (K a).1 = 101) (h0 : 0 ≤ x) (h1 : x < (K a).2) (hv : I a x = v) (kk : G → Ok η l M Q q ls (qi v :: st) n K I F c z) : G → Ok η l M Q pc ls (qi x :: qr a :: st) n K I F c z := by
  subst hq; subst hv
  intro g p e s m args below meth cd H locs la hC hR hlo hl okl oks
  obtain ⟨ha0, han⟩ := hR.lt (a := a) (by omega)
  have hx : am_inI x := am_okh oks
  have hxt := am_tn h0
  have ha1 : a ≠ 1 := fun h => by have := hR.2.2.2.2.1; rw [h] at hk; omega
  obtain ⟨-, hc2, hs2⟩ := (hR.2.1 a (by omega)).2 (by omega) (by omega)
  have hsk : am_inI (I a x) := by
    have := hs2 x.toNat (by omega)
    rw [hxt, hk] at this; exact this.1 rfl
  have w := kk g p e s m args below meth cd H locs la hC hR hlo hl okl (am_okc (v := qi (I a x)) hsk (am_okt (am_okt oks)))
  show W _ _ _ _ _ _ _ _ _ _ _ _ _ _ _ (F0 m pc la (am_cv η (qi x) :: am_cv η (qr a) :: st.map (am_cv η)))
  rw [am_cv_r η ha0]
  rw [hk] at hc2
  refine W.zald (v := am_cv η (qi (I a x))) hC.1 hC.2.1 hc2 ((hC.2.2.2.2.2.2.2.2.1.2 1 _ (am_tys_at η am_ty1)).1 _ _) (fun h => by cases h) (by rw [arrV_size]; exact am_inx hx h0 h1) (by rw [am_clamp hx, arrV_read _ _ (by omega)]; unfold am_av; rw [hxt]; rfl) rfl rfl hd w
theorem ok_laload {a : Nat} {x v : Int} (hd : decode M.2.1 pc = .ok (.laload, 1)) (hq : pc + 1 = q) (hk : (K a).1 = 102) (h0 : 0 ≤ x) (h1 : x < (K a).2) (hv : I a x = v) (kk : G → Ok η l M Q q ls (ql v :: st) n K I F c z) : G → Ok η l M Q pc ls (qi x :: qr a :: st) n K I F c z := by
  subst hq; subst hv
  intro g p e s m args below meth cd H locs la hC hR hlo hl okl oks
  obtain ⟨ha0, han⟩ := hR.lt (a := a) (by omega)
  have hx : am_inI x := am_okh oks
  have hxt := am_tn h0
  have ha1 : a ≠ 1 := fun h => by have := hR.2.2.2.2.1; rw [h] at hk; omega
  obtain ⟨-, hc2, hs2⟩ := (hR.2.1 a (by omega)).2 (by omega) (by omega)
  have hsk : am_inL (I a x) := by
    have := hs2 x.toNat (by omega)
    rw [hxt, hk] at this; exact this.2 rfl
  have w := kk g p e s m args below meth cd H locs la hC hR hlo hl okl (am_okc (v := ql (I a x)) hsk (am_okt (am_okt oks)))
  show W _ _ _ _ _ _ _ _ _ _ _ _ _ _ _ (F0 m pc la (am_cv η (qi x) :: am_cv η (qr a) :: st.map (am_cv η)))
  rw [am_cv_r η ha0]
  rw [hk] at hc2
  refine W.lald (v := am_cv η (ql (I a x))) hC.1 hC.2.1 hc2 ((hC.2.2.2.2.2.2.2.2.1.2 2 _ (am_tys_at η am_ty2)).1 _ _) (fun h => by cases h) (by rw [arrV_size]; exact am_inx hx h0 h1) (by rw [am_clamp hx, arrV_read _ _ (by omega)]; unfold am_av; rw [hxt]; rfl) rfl rfl hd w
theorem ok_aaload {a i v : Nat} {x : Int} {ty : FieldType} (hd : decode M.2.1 pc = .ok (.aaload, 1)) (hq : pc + 1 = q) (hk : (K a).1 = 103 + i) (hi : i < 90) (hty : am_ty[3 + i]? = some ty) (htr : ty.isReference = true) (h0 : 0 ≤ x) (h1 : x < (K a).2) (hv : F a x = v) (kk : G → Ok η l M Q q ls (qr v :: st) n K I F c z) : G → Ok η l M Q pc ls (qi x :: qr a :: st) n K I F c z := by
  subst hq; subst hv
  intro g p e s m args below meth cd H locs la hC hR hlo hl okl oks
  obtain ⟨ha0, han⟩ := hR.lt (a := a) (by omega)
  have hx : am_inI x := am_okh oks
  have hxt := am_tn h0
  have ha1 : a ≠ 1 := fun h => by have := hR.2.2.2.2.1; rw [h] at hk; omega
  have w := kk g p e s m args below meth cd H locs la hC hR hlo hl okl (am_okc (v := qr (F a x)) trivial (am_okt (am_okt oks)))
  show W _ _ _ _ _ _ _ _ _ _ _ _ _ _ _ (F0 m pc la (am_cv η (qi x) :: am_cv η (qr a) :: st.map (am_cv η)))
  rw [am_cv_r η ha0]
  obtain ⟨-, hc2, -⟩ := (hR.2.1 a (by omega)).2 (by omega) (by omega)
  rw [hk, show 103 + i - 100 = 3 + i by omega] at hc2
  refine W.aald (v := am_cv η (qr (F a x))) hC.1 hC.2.1 hc2 ((hC.2.2.2.2.2.2.2.2.1.2 (3 + i) _ (am_tys_at η hty)).1 _ _) htr (fun h => by cases h) (by rw [arrV_size]; exact am_inx hx h0 h1) (by rw [am_clamp hx, arrV_read _ _ (by omega)]; unfold am_av am_sv am_ac; rw [hxt, if_neg (by omega : ¬ 103 + i < 102), if_neg (by omega : ¬ 103 + i = 102)]; rfl) rfl rfl hd w
theorem ok_arraylength {a : Nat} {i : Nat} {ty : FieldType} {x : Int} (hd : decode M.2.1 pc = .ok (.arraylength, 1)) (hq : pc + 1 = q) (hk : (K a).1 = 100 + i) (hi : i < 90) (hty : am_ty[i]? = some ty) (hv : (K a).2 = x) (hr : am_inI x) (kk : G → Ok η l M Q q ls (qi x :: st) n K I F c z) : G → Ok η l M Q pc ls (qr a :: st) n K I F c z := by
  subst hq; subst hv
  intro g p e s m args below meth cd H locs la hC hR hlo hl okl oks
  obtain ⟨ha0, han⟩ := hR.lt (a := a) (by omega)
  have w := kk g p e s m args below meth cd H locs la hC hR hlo hl okl (am_okc (v := qi (K a).2) hr (am_okt oks))
  have e1 : 0 ≤ (K a).2 → Nat.toInt32 (K a).2.toNat = Int32.ofInt (K a).2 := by
    intro h
    conv => rhs; rw [← am_tn h]
    first | rfl | exact (Int32.ofInt_natCast _).symm | simp
  show W _ _ _ _ _ _ _ _ _ _ _ _ _ _ _ (F0 m pc la (am_cv η (qr a) :: st.map (am_cv η)))
  rw [am_cv_r η ha0]
  by_cases ha1 : a = 1
  · subst ha1
    obtain ⟨scr, g1, g2, g3, g4, g5⟩ := hR.2.2.2.2.2.2.1
    exact W.alen (n := Int32.ofInt (K 1).2) hC.1 hC.2.1 g1 g2 (by rw [g4]; exact e1 hR.2.2.2.2.2.1) rfl rfl hd w
  · obtain ⟨hz0, hc2, -⟩ := (hR.2.1 a (by omega)).2 (by omega) (by omega)
    rw [hk, show 100 + i - 100 = i by omega] at hc2
    exact W.alen (n := Int32.ofInt (K a).2) hC.1 hC.2.1 hc2 ((hC.2.2.2.2.2.2.2.2.1.2 i _ (am_tys_at η hty)).1 _ _) (by rw [arrV_size]; exact e1 hz0) rfl rfl hd w
theorem ok_iastore {a : Nat} {x y : Int} {f : am_I → Option ρ} (hd : decode M.2.1 pc = .ok (.iastore, 1)) (hq : pc + 1 = q) (hk : (K a).1 = 100) (ha1 : a ≠ 1) (h0 : 0 ≤ x) (h1 : x < (K a).2) (kk : ∀ I', f I' = some r0 → Ok η l M Q q ls (st) n K I' F c z) : am_lt (am_u2 I a x y) f = some r0 → Ok η l M Q pc ls (qi y :: qi x :: qr a :: st) n K I F c z := by
  subst hq
  intro g p e s m args below meth cd H locs la hC hR hlo hl okl oks
  obtain ⟨ha0, han⟩ := hR.lt (a := a) (by omega)
  have hx : am_inI x := am_okh (am_okt oks)
  have hxt := am_tn h0
  show W _ _ _ _ _ _ _ _ _ _ _ _ _ _ _ (F0 m pc la (am_cv η (qi y) :: am_cv η (qi x) :: am_cv η (qr a) :: st.map (am_cv η)))
  rw [am_cv_r η ha0]
  obtain ⟨hz0, hc2, hs2⟩ := (hR.2.1 a (by omega)).2 (by omega) (by omega)
  rw [hk] at hc2 hs2
  refine W.iast hC.1 hC.2.1 hc2 ((hC.2.2.2.2.2.2.2.2.1.2 0 _ (am_tys_at η am_ty0)).1 _ _) (fun h => by cases h) (by rw [arrV_size]; exact am_inx hx h0 h1) rfl rfl hd fun H' e1 e2 e3 => ?_
  rw [arrV_store, am_clamp hx] at e1
  refine kk _ g p e s m args below meth cd H' _ la hC (am_R_put hR (by omega) han e2 e3 (fun b hb j => am_u2_a hb) (fun _ _ _ => rfl) ⟨fun h => absurd h (by omega), fun _ _ => ⟨hz0, ?_, fun j hjl => ?_⟩⟩) (fun y hy => ?_) hl okl (am_okt (am_okt (am_okt oks)))
  · rw [e1, hk]
    congr 2
    funext j
    unfold updV
    by_cases hj : j = x.toNat
    · subst hj
      rw [if_pos rfl]; unfold am_av am_sv; simp only [hxt, am_u2_s]
      rfl
    · rw [if_neg hj]; unfold am_av am_sv; simp only [am_u2_k (show (j : Int) ≠ x by omega)]
  · rw [hk]
    by_cases hj : (j : Int) = x
    · rw [hj, am_u2_s]; exact ⟨fun _ => am_okh oks, fun h => absurd h (by decide)⟩
    · rw [am_u2_k hj]; exact hs2 j hjl
  · rcases List.mem_append.mp hy with h | h
    · exact hlo y h
    · rw [List.mem_singleton.mp h]
      show η.2.2.1 + 1 ≤ am_ad η a
      unfold am_ad; rw [if_neg ha1]; omega
theorem ok_bastore {a : Nat} {x y : Int} {f : am_I → Option ρ} (hd : decode M.2.1 pc = .ok (.bastore, 1)) (hq : pc + 1 = q) (hk : (K a).1 = 101) (ha1 : a ≠ 1) (h0 : 0 ≤ x) (h1 : x < (K a).2) (hz1 : y = 0 ∨ y = 1) (kk : ∀ I', f I' = some r0 → Ok η l M Q q ls (st) n K I' F c z) : am_lt (am_u2 I a x y) f = some r0 → Ok η l M Q pc ls (qi y :: qi x :: qr a :: st) n K I F c z := by
  subst hq
  intro g p e s m args below meth cd H locs la hC hR hlo hl okl oks
  obtain ⟨ha0, han⟩ := hR.lt (a := a) (by omega)
  have hx : am_inI x := am_okh (am_okt oks)
  have hxt := am_tn h0
  show W _ _ _ _ _ _ _ _ _ _ _ _ _ _ _ (F0 m pc la (am_cv η (qi y) :: am_cv η (qi x) :: am_cv η (qr a) :: st.map (am_cv η)))
  rw [am_cv_r η ha0]
  obtain ⟨hz0, hc2, hs2⟩ := (hR.2.1 a (by omega)).2 (by omega) (by omega)
  rw [hk] at hc2 hs2
  refine W.zast hC.1 hC.2.1 hc2 ((hC.2.2.2.2.2.2.2.2.1.2 1 _ (am_tys_at η am_ty1)).1 _ _) (fun h => by cases h) (by rw [arrV_size]; exact am_inx hx h0 h1) rfl rfl hd fun H' e1 e2 e3 => ?_
  rw [arrV_store, am_clamp hx] at e1
  refine kk _ g p e s m args below meth cd H' _ la hC (am_R_put hR (by omega) han e2 e3 (fun b hb j => am_u2_a hb) (fun _ _ _ => rfl) ⟨fun h => absurd h (by omega), fun _ _ => ⟨hz0, ?_, fun j hjl => ?_⟩⟩) (fun y hy => ?_) hl okl (am_okt (am_okt (am_okt oks)))
  · rw [e1, hk]
    congr 2
    funext j
    unfold updV
    by_cases hj : j = x.toNat
    · subst hj
      rw [if_pos rfl]; unfold am_av am_sv; simp only [hxt, am_u2_s]
      rcases hz1 with rfl | rfl <;> rfl
    · rw [if_neg hj]; unfold am_av am_sv; simp only [am_u2_k (show (j : Int) ≠ x by omega)]
  · rw [hk]
    by_cases hj : (j : Int) = x
    · rw [hj, am_u2_s]; exact ⟨fun _ => am_okh oks, fun h => absurd h (by decide)⟩
    · rw [am_u2_k hj]; exact hs2 j hjl
  · rcases List.mem_append.mp hy with h | h
    · exact hlo y h
    · rw [List.mem_singleton.mp h]
      show η.2.2.1 + 1 ≤ am_ad η a
      unfold am_ad; rw [if_neg ha1]; omega
theorem ok_lastore {a : Nat} {x y : Int} {f : am_I → Option ρ} (hd : decode M.2.1 pc = .ok (.lastore, 1)) (hq : pc + 1 = q) (hk : (K a).1 = 102) (ha1 : a ≠ 1) (h0 : 0 ≤ x) (h1 : x < (K a).2) (kk : ∀ I', f I' = some r0 → Ok η l M Q q ls (st) n K I' F c z) : am_lt (am_u2 I a x y) f = some r0 → Ok η l M Q pc ls (ql y :: qi x :: qr a :: st) n K I F c z := by
  subst hq
  intro g p e s m args below meth cd H locs la hC hR hlo hl okl oks
  obtain ⟨ha0, han⟩ := hR.lt (a := a) (by omega)
  have hx : am_inI x := am_okh (am_okt oks)
  have hxt := am_tn h0
  show W _ _ _ _ _ _ _ _ _ _ _ _ _ _ _ (F0 m pc la (am_cv η (ql y) :: am_cv η (qi x) :: am_cv η (qr a) :: st.map (am_cv η)))
  rw [am_cv_r η ha0]
  obtain ⟨hz0, hc2, hs2⟩ := (hR.2.1 a (by omega)).2 (by omega) (by omega)
  rw [hk] at hc2 hs2
  refine W.last hC.1 hC.2.1 hc2 ((hC.2.2.2.2.2.2.2.2.1.2 2 _ (am_tys_at η am_ty2)).1 _ _) (fun h => by cases h) (by rw [arrV_size]; exact am_inx hx h0 h1) rfl rfl hd fun H' e1 e2 e3 => ?_
  rw [arrV_store, am_clamp hx] at e1
  refine kk _ g p e s m args below meth cd H' _ la hC (am_R_put hR (by omega) han e2 e3 (fun b hb j => am_u2_a hb) (fun _ _ _ => rfl) ⟨fun h => absurd h (by omega), fun _ _ => ⟨hz0, ?_, fun j hjl => ?_⟩⟩) (fun y hy => ?_) hl okl (am_okt (am_okt (am_okt oks)))
  · rw [e1, hk]
    congr 2
    funext j
    unfold updV
    by_cases hj : j = x.toNat
    · subst hj
      rw [if_pos rfl]; unfold am_av am_sv; simp only [hxt, am_u2_s]
      rfl
    · rw [if_neg hj]; unfold am_av am_sv; simp only [am_u2_k (show (j : Int) ≠ x by omega)]
  · rw [hk]
    by_cases hj : (j : Int) = x
    · rw [hj, am_u2_s]; exact ⟨fun h => absurd h (by decide), fun _ => am_okh oks⟩
    · rw [am_u2_k hj]; exact hs2 j hjl
  · rcases List.mem_append.mp hy with h | h
    · exact hlo y h
    · rw [List.mem_singleton.mp h]
      show η.2.2.1 + 1 ≤ am_ad η a
      unfold am_ad; rw [if_neg ha1]; omega
/-- a cell is made -/
theorem am_R_new {η : am_E} {s : State} {n : Nat} {K : am_K} {I : am_I} {F : am_F} {H H' : Heap} {kd : Nat × Int} (hR : am_R η s n K I F H) (hz : H'.size = H.size + 1) (ho : ∀ q, q < H.size → H'[q]? = H[q]?) (h1 : am_at η (am_zr I n 0) (am_zr F n 0) n kd H') : am_R η s (n + 1) (am_u1 K n kd) (am_zr I n 0) (am_zr F n 0) H' := by
  obtain ⟨⟨e1, e2, e3⟩, g2, g3, g4, g5, g6, g7, g8⟩ := hR
  refine ⟨⟨by rw [hz, e1]; omega, by omega, e3⟩, fun b hb => ?_, fun b hb => ?_, ?_, ?_, ?_, ?_, fun j hj => ?_⟩
  · by_cases hbn : b = n
    · subst hbn; rw [am_u1_s]; exact h1
    · rw [am_u1_n hbn]
      by_cases hlt : b < n
      · refine am_at_kept (g2 b hb) (ho _ ?_) (fun _ => am_zr_a hbn) (fun _ => am_zr_a hbn)
        unfold am_ad; rw [if_neg (by omega), e1]; omega
      · rw [g3 b (by omega)]
        exact ⟨fun h => absurd h (by decide), fun _ h => absurd h (by decide)⟩
  · rw [am_u1_n (by omega)]; exact g3 b (by omega)
  · rw [am_u1_n (by omega)]; exact g4
  · rw [am_u1_n (by omega)]; exact g5
  · rw [am_u1_n (by omega)]; exact g6
  · rw [am_u1_n (by omega)]
    have e4 : (fun j : Nat => Int32.ofInt (am_zr I n 0 1 (j : Int))) = (fun j : Nat => Int32.ofInt (I 1 (j : Int))) := by funext j; rw [am_zr_a (by omega)]
    rw [e4]; exact g7.kept (ho _ (by rw [e1]; omega))
  · rw [am_u1_n (by omega)] at hj
    rw [am_zr_a (by omega)]; exact g8 j hj
theorem am_ad_n {η : am_E} {n : Nat} (h : 2 ≤ n) : am_ad η n = η.2.2.1 + n - 1 := by unfold am_ad; rw [if_neg (by omega)]
def am_nok (own : String) (idx ci N p1 p2 p3 : Nat) : Bool := match vwCl[ci]? with
  | some r => decide (ci < 100) && decide (r.2.2 = N) && am_pl p1 (Cond.classLink own idx r.1) && am_pl p2 (Cond.instantiable r.1 N) && am_pl p3 (Cond.initialized r.1)
  | none => false
theorem am_sok0 (t : Nat) : am_sok t 0 := ⟨fun _ => by decide, fun _ => by decide⟩
theorem ok_new {idx ci N p1 p2 p3 : Nat} {f : am_I → am_F → Option ρ} (hd : decode M.2.1 pc = .ok (.new idx, 3)) (hq : pc + 3 = q) (hf : am_nok M.1 idx ci N p1 p2 p3 = true) (hc : c + 1 ≤ M.2.2.2.2.1.cells) (hs : z + N ≤ M.2.2.2.2.1.slots) (kk : ∀ I' F', f I' F' = some r0 → Ok η l M Q q ls (qr n :: st) (n + 1) (am_u1 K n (ci, 0)) I' F' (c + 1) (z + N)) : am_lt (am_zr I n 0) (fun I' => am_lt (am_zr F n 0) (fun F' => f I' F')) = some r0 → Ok η l M Q pc ls (st) n K I F c z := by
  subst hq
  intro g p e s m args below meth cd H locs la hC hR hlo hl okl oks
  unfold am_nok at hf
  split at hf
  · rename_i r hr
    obtain ⟨C, T, N'⟩ := r
    simp only [Bool.and_eq_true, decide_eq_true_eq] at hf
    obtain ⟨⟨⟨⟨hci, rfl⟩, hl1⟩, hl2⟩, hl3⟩ := hf
    replace hl1 := am_pl_in hl1
    replace hl2 := am_pl_in hl2
    replace hl3 := am_pl_in hl3
    have hts := hC.2.2.2.2.2.1
    have hK := hC.2.2.2.2.2.2.2.2.1
    have hKn := hK.1 _ _ hr
    have hsz := hR.1.1
    refine W.newcK hC.1 hC.2.1 hC.2.2.2.2.1 (hts _ hl1) (hts _ hl2) (hts _ hl3) rfl hd hc hs hKn.2.1 rfl fun H' kC hkC e1 z1 o1 => ?_
    have hn2 := hR.1.2.1
    have w := kk _ _ g p e s m args below meth cd H' locs la hC (am_R_new (kd := (ci, 0)) hR z1 o1 ⟨fun _ => ⟨_, hr, ?_, fun k hk => ?_⟩, fun h => absurd h (by dsimp only; omega)⟩) hlo hl okl (am_okc (v := qr n) trivial oks)
    · rw [List.map_cons, am_cv_r η (by omega), am_ad_n hn2, ← hsz] at w
      exact w
    · rw [am_ad_n hn2, ← hsz]
      refine (u_born (am_tyf T) hts (am_uws _ _ hr) hKn hkC e1 (am_tyok _ _ hr)).to (fun k hk => ?_)
      rw [((am_clsat (am_cls _ (List.mem_of_getElem? hr))).1 k hk).2.1]
      unfold am_fv am_sv
      rw [am_zr_s, am_zr_s]
      split
      · rfl
      · split <;> rfl
    · rw [am_zr_s]; exact am_sok0 _
  · cases hf
theorem ok_newi {x : Int} {f : am_I → am_F → Option ρ} (hd : decode M.2.1 pc = .ok (.newarray .int, 2)) (hq : pc + 2 = q) (hx0 : 0 ≤ x) (hN : x ≤ 60000000) (hw : Cond.arrayClass .int ∈ am_gw) (hc : c + 1 ≤ M.2.2.2.2.1.cells) (hs : z + x.toNat ≤ M.2.2.2.2.1.slots) (kk : ∀ I' F', f I' F' = some r0 → Ok η l M Q q ls (qr n :: st) (n + 1) (am_u1 K n (100 + 0, x)) I' F' (c + 1) (z + x.toNat)) : am_lt (am_zr I n 0) (fun I' => am_lt (am_zr F n 0) (fun F' => f I' F')) = some r0 → Ok η l M Q pc ls (qi x :: st) n K I F c z := by
  subst hq
  intro g p e s m args below meth cd H locs la hC hR hlo hl okl oks
  have hxi : am_inI x := am_okh oks
  have hsz := hR.1.1
  have hn2 := hR.1.2.1
  refine va_newaK (atype := .int) (N := x.toNat) hC.1 hC.2.1 (hC.2.2.2.2.2.1 _ hw) rfl hd rfl (by have e0 : (0 : Int32) = Int32.ofInt 0 := rfl; rw [e0, am_ltI hxi (by decide)]; omega) (by rw [am_clamp hxi]) (by show x.toNat * 4 ≤ 536870912; omega) hc hs rfl fun H' cA e1 z1 o1 hA hfa => ?_
  have hcA : cA = η.2.1 0 := Option.some.inj (hfa.symm.trans (hC.2.2.2.2.2.2.2.2.1.2 0 _ (am_tys_at η am_ty0)).2)
  have w := kk _ _ g p e s m args below meth cd H' locs la hC (am_R_new (kd := (100 + 0, x)) hR z1 o1 ⟨fun h => absurd h (by dsimp only; omega), fun _ _ => ⟨hx0, ?_, fun j hj => ?_⟩⟩) hlo hl okl (am_okc (v := qr n) trivial (am_okt oks))
  · rw [List.map_cons, am_cv_r η (by omega), am_ad_n hn2, ← hsz] at w
    exact w
  · rw [am_ad_n hn2, ← hsz, e1, hcA]
    congr 2
    funext j
    unfold am_av am_sv
    rw [am_zr_s, am_zr_s]
    rfl
  · rw [am_zr_s]; exact am_sok0 _
theorem ok_newz {x : Int} {f : am_I → am_F → Option ρ} (hd : decode M.2.1 pc = .ok (.newarray .boolean, 2)) (hq : pc + 2 = q) (hx0 : 0 ≤ x) (hN : x ≤ 60000000) (hw : Cond.arrayClass .boolean ∈ am_gw) (hc : c + 1 ≤ M.2.2.2.2.1.cells) (hs : z + x.toNat ≤ M.2.2.2.2.1.slots) (kk : ∀ I' F', f I' F' = some r0 → Ok η l M Q q ls (qr n :: st) (n + 1) (am_u1 K n (100 + 1, x)) I' F' (c + 1) (z + x.toNat)) : am_lt (am_zr I n 0) (fun I' => am_lt (am_zr F n 0) (fun F' => f I' F')) = some r0 → Ok η l M Q pc ls (qi x :: st) n K I F c z := by
  subst hq
  intro g p e s m args below meth cd H locs la hC hR hlo hl okl oks
  have hxi : am_inI x := am_okh oks
  have hsz := hR.1.1
  have hn2 := hR.1.2.1
  refine va_newaK (atype := .boolean) (N := x.toNat) hC.1 hC.2.1 (hC.2.2.2.2.2.1 _ hw) rfl hd rfl (by have e0 : (0 : Int32) = Int32.ofInt 0 := rfl; rw [e0, am_ltI hxi (by decide)]; omega) (by rw [am_clamp hxi]) (by show x.toNat * 1 ≤ 536870912; omega) hc hs rfl fun H' cA e1 z1 o1 hA hfa => ?_
  have hcA : cA = η.2.1 1 := Option.some.inj (hfa.symm.trans (hC.2.2.2.2.2.2.2.2.1.2 1 _ (am_tys_at η am_ty1)).2)
  have w := kk _ _ g p e s m args below meth cd H' locs la hC (am_R_new (kd := (100 + 1, x)) hR z1 o1 ⟨fun h => absurd h (by dsimp only; omega), fun _ _ => ⟨hx0, ?_, fun j hj => ?_⟩⟩) hlo hl okl (am_okc (v := qr n) trivial (am_okt oks))
  · rw [List.map_cons, am_cv_r η (by omega), am_ad_n hn2, ← hsz] at w
    exact w
  · rw [am_ad_n hn2, ← hsz, e1, hcA]
    congr 2
    funext j
    unfold am_av am_sv
    rw [am_zr_s, am_zr_s]
    rfl
  · rw [am_zr_s]; exact am_sok0 _
theorem ok_newl {x : Int} {f : am_I → am_F → Option ρ} (hd : decode M.2.1 pc = .ok (.newarray .long, 2)) (hq : pc + 2 = q) (hx0 : 0 ≤ x) (hN : x ≤ 60000000) (hw : Cond.arrayClass .long ∈ am_gw) (hc : c + 1 ≤ M.2.2.2.2.1.cells) (hs : z + x.toNat ≤ M.2.2.2.2.1.slots) (kk : ∀ I' F', f I' F' = some r0 → Ok η l M Q q ls (qr n :: st) (n + 1) (am_u1 K n (100 + 2, x)) I' F' (c + 1) (z + x.toNat)) : am_lt (am_zr I n 0) (fun I' => am_lt (am_zr F n 0) (fun F' => f I' F')) = some r0 → Ok η l M Q pc ls (qi x :: st) n K I F c z := by
  subst hq
  intro g p e s m args below meth cd H locs la hC hR hlo hl okl oks
  have hxi : am_inI x := am_okh oks
  have hsz := hR.1.1
  have hn2 := hR.1.2.1
  refine va_newaK (atype := .long) (N := x.toNat) hC.1 hC.2.1 (hC.2.2.2.2.2.1 _ hw) rfl hd rfl (by have e0 : (0 : Int32) = Int32.ofInt 0 := rfl; rw [e0, am_ltI hxi (by decide)]; omega) (by rw [am_clamp hxi]) (by show x.toNat * 8 ≤ 536870912; omega) hc hs rfl fun H' cA e1 z1 o1 hA hfa => ?_
  have hcA : cA = η.2.1 2 := Option.some.inj (hfa.symm.trans (hC.2.2.2.2.2.2.2.2.1.2 2 _ (am_tys_at η am_ty2)).2)
  have w := kk _ _ g p e s m args below meth cd H' locs la hC (am_R_new (kd := (100 + 2, x)) hR z1 o1 ⟨fun h => absurd h (by dsimp only; omega), fun _ _ => ⟨hx0, ?_, fun j hj => ?_⟩⟩) hlo hl okl (am_okc (v := qr n) trivial (am_okt oks))
  · rw [List.map_cons, am_cv_r η (by omega), am_ad_n hn2, ← hsz] at w
    exact w
  · rw [am_ad_n hn2, ← hsz, e1, hcA]
    congr 2
    funext j
    unfold am_av am_sv
    rw [am_zr_s, am_zr_s]
    rfl
  · rw [am_zr_s]; exact am_sok0 _
end OKN
