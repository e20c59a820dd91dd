-- THE MODEL: a move, whole
/-- what a move leaves, where its last seed fell, whether it is long -/
def gm_mv (A C : Int) (lk : Int → Int) (kd mr lo hi : Int) (c : Int → Int) (who p : Int) : (Int → Int) × Int × Int :=
  if kd = 1 then
    (if (gm_rl (gm_nx A C lk 1 (-1)) mr.toNat (gm_s1 (gm_nx A C lk 1 (-1)) (c, p))).2 = 0 ∧ gm_sd A (gm_rl (gm_nx A C lk 1 (-1)) mr.toNat (gm_s1 (gm_nx A C lk 1 (-1)) (c, p))).1.2 = who
     then gm_tc A C who (gm_rl (gm_nx A C lk 1 (-1)) mr.toNat (gm_s1 (gm_nx A C lk 1 (-1)) (c, p))).1.2 (gm_rl (gm_nx A C lk 1 (-1)) mr.toNat (gm_s1 (gm_nx A C lk 1 (-1)) (c, p))).1.1
     else (gm_rl (gm_nx A C lk 1 (-1)) mr.toNat (gm_s1 (gm_nx A C lk 1 (-1)) (c, p))).1.1,
     (gm_rl (gm_nx A C lk 1 (-1)) mr.toNat (gm_s1 (gm_nx A C lk 1 (-1)) (c, p))).1.2, (gm_rl (gm_nx A C lk 1 (-1)) mr.toNat (gm_s1 (gm_nx A C lk 1 (-1)) (c, p))).2)
  else if kd = 3 then
    (if (gm_s1 (gm_nx A C lk 1 who) (c, p)).1 (gm_s1 (gm_nx A C lk 1 who) (c, p)).2 = 1 then gm_tc A C who (gm_s1 (gm_nx A C lk 1 who) (c, p)).2 (gm_s1 (gm_nx A C lk 1 who) (c, p)).1 else (gm_s1 (gm_nx A C lk 1 who) (c, p)).1, (gm_s1 (gm_nx A C lk 1 who) (c, p)).2, 0)
  else if kd = 2 then
    (gm_ch A who lo hi (gm_nx A C lk (-1) (-1)) 32 (gm_s1 (gm_nx A C lk 1 (-1)) (c, p)).1 (gm_s1 (gm_nx A C lk 1 (-1)) (c, p)).2, (gm_s1 (gm_nx A C lk 1 (-1)) (c, p)).2, 0)
  else ((gm_s1 (gm_nx A C lk 1 (-1)) (c, p)).1, (gm_s1 (gm_nx A C lk 1 (-1)) (c, p)).2, 0)
def gm_ld (A : Int) (c d : Int → Int) : Int → Int := fun j => if 0 ≤ j ∧ j < A then c j else d j
theorem gm_mv_st {R C A : Int} (hg : gm_g R C A) {lk : Int → Int} {kd mr lo hi : Int} {c : Int → Int} {who p : Int} (hs : gm_st A lk c) (h0 : 0 ≤ p) (h1 : p < A) (hl : lk p = 0) (hw : gm_sd A p = who) : gm_st A lk (gm_mv A C lk kd mr lo hi c who p).1 ∧ gm_tot A (gm_mv A C lk kd mr lo hi c who p).1 ≤ gm_tot A c ∧ 0 ≤ (gm_mv A C lk kd mr lo hi c who p).2.1 ∧ (gm_mv A C lk kd mr lo hi c who p).2.1 < A ∧ ((gm_mv A C lk kd mr lo hi c who p).2.2 = 0 ∨ (gm_mv A C lk kd mr lo hi c who p).2.2 = 1) := by
  obtain ⟨ex1, ex2⟩ := gm_ex_live hg h0 h1 hl
  rw [hw] at ex2
  have go1 := gm_go_nx hg (st := 1) (Or.inl rfl) ex1
  have go2 := gm_go_nx hg (st := 1) (Or.inl rfl) ex2
  have gob := gm_go_nx hg (st := -1) (Or.inr rfl) ex1
  obtain ⟨s1, s2, s3, s4, s5⟩ := gm_s1_st (s := (c, p)) go1 h0 h1 hl hs
  obtain ⟨u1, u2, u3, u4, u5⟩ := gm_s1_st (s := (c, p)) go2 h0 h1 hl hs
  unfold gm_mv
  by_cases k1 : kd = 1
  · rw [if_pos k1]
    obtain ⟨r1, r2, r3, r4, r5, r6⟩ := gm_rl_st go1 mr.toNat _ s3 s4 s5 s1
    have e : gm_tot A (gm_rl (gm_nx A C lk 1 (-1)) mr.toNat (gm_s1 (gm_nx A C lk 1 (-1)) (c, p))).1.1 = gm_tot A c := r2.trans s2
    dsimp only
    split
    · obtain ⟨t1, t2⟩ := gm_tc_st (C := C) (who := who) (p := (gm_rl (gm_nx A C lk 1 (-1)) mr.toNat (gm_s1 (gm_nx A C lk 1 (-1)) (c, p))).1.2) r1
      exact ⟨t1, by omega, r3, r4, r6⟩
    · exact ⟨r1, by omega, r3, r4, r6⟩
  · rw [if_neg k1]
    have eu : gm_tot A (gm_s1 (gm_nx A C lk 1 who) (c, p)).1 = gm_tot A c := u2
    have es : gm_tot A (gm_s1 (gm_nx A C lk 1 (-1)) (c, p)).1 = gm_tot A c := s2
    by_cases k3 : kd = 3
    · rw [if_pos k3]
      dsimp only
      split
      · obtain ⟨t1, t2⟩ := gm_tc_st (C := C) (who := who) (p := (gm_s1 (gm_nx A C lk 1 who) (c, p)).2) u1
        exact ⟨t1, by omega, u3, u4, Or.inl rfl⟩
      · exact ⟨u1, by omega, u3, u4, Or.inl rfl⟩
    · rw [if_neg k3]
      by_cases k2 : kd = 2
      · rw [if_pos k2]
        obtain ⟨t1, t2⟩ := gm_ch_st (who := who) (low := lo) (high := hi) gob 32 _ _ s3 s4 s5 s1
        exact ⟨t1, by show gm_tot A (gm_ch A who lo hi (gm_nx A C lk (-1) (-1)) 32 _ _) ≤ _; omega, s3, s4, Or.inl rfl⟩
      · rw [if_neg k2]
        exact ⟨s1, by show gm_tot A (gm_s1 _ _).1 ≤ _; omega, s3, s4, Or.inl rfl⟩
section MOD5
variable {N : Nat} {K : am_K} {F : am_F} {I : am_I} {R C A : Int}
theorem m_relay_l (hm : mw K F) (h : mg I R C A) (hw : mW I C A) (hN : 2000000 < N) (hex : gm_ex A C (I 86) (-1)) {who : Int} (hmr : 1 ≤ I 85 7 ∧ I 85 7 ≤ 50) : ∀ (r f : Nat) (c : Int → Int) (la n : Int), r < f → n = I 85 7 + 1 - r → 1 ≤ n → 0 ≤ la → la < A → I 86 la = 0 → gm_st A (I 86) c → 
    X12_make_h68 N K F 85 f (am_mk I c 0 0 la) who n = some (0, am_mk I
      (if (gm_rl (gm_nx A C (I 86) 1 (-1)) r (c, la)).2 = 0 ∧ gm_sd A (gm_rl (gm_nx A C (I 86) 1 (-1)) r (c, la)).1.2 = who then gm_tc A C who (gm_rl (gm_nx A C (I 86) 1 (-1)) r (c, la)).1.2 (gm_rl (gm_nx A C (I 86) 1 (-1)) r (c, la)).1.1 else (gm_rl (gm_nx A C (I 86) 1 (-1)) r (c, la)).1.1)
      (gm_tot A c - gm_tot A (if (gm_rl (gm_nx A C (I 86) 1 (-1)) r (c, la)).2 = 0 ∧ gm_sd A (gm_rl (gm_nx A C (I 86) 1 (-1)) r (c, la)).1.2 = who then gm_tc A C who (gm_rl (gm_nx A C (I 86) 1 (-1)) r (c, la)).1.2 (gm_rl (gm_nx A C (I 86) 1 (-1)) r (c, la)).1.1 else (gm_rl (gm_nx A C (I 86) 1 (-1)) r (c, la)).1.1))
      (gm_rl (gm_nx A C (I 86) 1 (-1)) r (c, la)).2 (gm_rl (gm_nx A C (I 86) 1 (-1)) r (c, la)).1.2) := by
  have hA := h.A
  have go := gm_go_nx h.g (st := 1) (Or.inl rfl) hex
  -- the end of the relay
  have hend : ∀ (c : Int → Int) (la n lg : Int), 0 ≤ la → la < A → gm_st A (I 86) c → (lg = 0 ∨ lg = 1) → (I 85 7 < n ↔ lg = 1) → X12_make_b105 N K F 85 (am_mk I c 0 0 la) who n = some (0, am_mk I (if lg = 0 ∧ gm_sd A la = who then gm_tc A C who la c else c) (gm_tot A c - gm_tot A (if lg = 0 ∧ gm_sd A la = who then gm_tc A C who la c else c)) lg la) := by
    intro c la n lg h0 h1 hc hlg hn
    unfold X12_make_b105 X12_make_b120 X12_make_b151 X12_make_b254
    simp only [am_mk_85 (show (7 : Int) < 17 ∨ 19 < (7 : Int) by omega), mwK_85 hm, am_lt, am_mk_u18, am_mk_18, am_mk_19]
    rcases hlg with rfl | rfl
    · rw [if_neg (fun w => absurd (hn.mp w) (by decide)), if_pos trivial, if_pos (Or.inl trivial), if_pos trivial, m_sideOf (h.mk _ _ _ _) h0 (by omega), am_cq_s]
      by_cases hs : gm_sd A la = who
      · rw [if_pos hs, m_takeColumn hm h (by omega) hc (by decide) h0 h1, am_cl_s, if_pos ⟨rfl, hs⟩]
        congr 3
        omega
      · rw [if_neg hs, if_neg (fun w => hs w.2)]
        congr 3
        omega
    · rw [if_pos (hn.mpr rfl), if_pos trivial, if_pos (Or.inr trivial), if_neg (by decide), if_neg (fun w => absurd w.1 (by decide))]
      congr 3
      omega
  intro r
  induction r with
  | zero =>
    intro f c la n hf hn hn1 h0 h1 hl hc
    obtain ⟨f, rfl⟩ : ∃ g, f = g + 1 := ⟨f - 1, by omega⟩
    have he := hend c la n 1 h0 h1 hc (Or.inr rfl) (by omega)
    unfold gm_rl
    dsimp only
    rw [← he]
    show X12_make_s68 N K F 85 (X12_make_h68 N K F 85 f) _ who n = _
    generalize X12_make_h68 N K F 85 f = kk
    unfold X12_make_s68
    simp only [mwF_85_16 hm, mwK_91 hm, am_mk_19, am_mk_91, am_mk_85 (show (7 : Int) < 17 ∨ 19 < (7 : Int) by omega)]
    rw [if_pos trivial, if_pos (by omega), if_neg (show ¬ n ≤ I 85 7 by omega)]
    split <;> rfl
  | succ r ih =>
    intro f c la n hf hn hn1 h0 h1 hl hc
    obtain ⟨f, rfl⟩ : ∃ g, f = g + 1 := ⟨f - 1, by omega⟩
    show X12_make_s68 N K F 85 (X12_make_h68 N K F 85 f) _ who n = _
    by_cases hgo : 1 < c la
    · have hcl := hc.bd la h0 h1
      obtain ⟨s1, s2, s3, s4, s5⟩ := gm_s1_st (s := (c, la)) go h0 h1 hl hc
      have hr := ih f (gm_s1 (gm_nx A C (I 86) 1 (-1)) (c, la)).1 (gm_s1 (gm_nx A C (I 86) 1 (-1)) (c, la)).2 (n + 1) (by omega) (by omega) (by omega) s3 s4 s5 s1
      have e : gm_rl (gm_nx A C (I 86) 1 (-1)) (r + 1) (c, la) = gm_rl (gm_nx A C (I 86) 1 (-1)) r (gm_s1 (gm_nx A C (I 86) 1 (-1)) (c, la)) := by
        conv => lhs; unfold gm_rl
        rw [if_pos hgo]
      rw [e]
      rw [show gm_tot A (gm_s1 (gm_nx A C (I 86) 1 (-1)) (c, la)).1 = gm_tot A c from s2] at hr
      rw [← hr]
      generalize X12_make_h68 N K F 85 f = kk
      unfold X12_make_s68
      simp only [mwF_85_16 hm, mwK_91 hm, am_mk_19, am_mk_91, am_mk_85 (show (7 : Int) < 17 ∨ 19 < (7 : Int) by omega), am_lt]
      rw [if_pos trivial, if_pos (by omega), if_pos hgo, if_pos (by omega), m_sow1 hm h hw (by omega) hex h0 h1 hc.bd, am_cl_s, if_pos (nb_in (by omega))]
    · have e : gm_rl (gm_nx A C (I 86) 1 (-1)) (r + 1) (c, la) = ((c, la), 0) := by
        unfold gm_rl; rw [if_neg hgo]
      have he := hend c la n 0 h0 h1 hc (Or.inl rfl) (by omega)
      rw [e]
      dsimp only
      rw [← he]
      generalize X12_make_h68 N K F 85 f = kk
      unfold X12_make_s68
      simp only [mwF_85_16 hm, mwK_91 hm, am_mk_19, am_mk_91, am_mk_85 (show (7 : Int) < 17 ∨ 19 < (7 : Int) by omega)]
      rw [if_pos trivial, if_pos (by omega), if_neg hgo]
theorem m_make_b (hm : mw K F) (h : mg I R C A) (hw : mW I C A) (hN : 2000000 < N) (hmr : 1 ≤ I 85 7 ∧ I 85 7 ≤ 50) (hlo : 1 ≤ I 85 8) {c : Int → Int} {la who p : Int} (hs : gm_st A (I 86) c) (h0 : 0 ≤ p) (h1 : p < A) (hl : I 86 p = 0) (hsd : gm_sd A p = who) :
    X12_make_b54 N K F 85 (am_mk I c 0 0 la) who (if I 85 6 = 3 then who else -1) p 85 = some (0, am_mk I (gm_mv A C (I 86) (I 85 6) (I 85 7) (I 85 8) (I 85 9) c who p).1 (gm_tot A c - gm_tot A (gm_mv A C (I 86) (I 85 6) (I 85 7) (I 85 8) (I 85 9) c who p).1) (gm_mv A C (I 86) (I 85 6) (I 85 7) (I 85 8) (I 85 9) c who p).2.2 (gm_mv A C (I 86) (I 85 6) (I 85 7) (I 85 8) (I 85 9) c who p).2.1) := by
  have hA := h.A
  obtain ⟨ex1, ex2⟩ := gm_ex_live h.g h0 h1 hl
  rw [hsd] at ex2
  have go1 := gm_go_nx h.g (st := 1) (Or.inl rfl) ex1
  have go2 := gm_go_nx h.g (st := 1) (Or.inl rfl) ex2
  obtain ⟨s1, s2, s3, s4, s5⟩ := gm_s1_st (s := (c, p)) go1 h0 h1 hl hs
  obtain ⟨u1, u2, u3, u4, u5⟩ := gm_s1_st (s := (c, p)) go2 h0 h1 hl hs
  have htn := gm_tot_nn hs.1
  unfold X12_make_b54 X12_make_b254
  simp only [mwK_85 hm, mwF_85_16 hm, mwK_91 hm, am_lt]
  rw [if_pos trivial]
  by_cases k3 : I 85 6 = 3
  · have e : gm_mv A C (I 86) (I 85 6) (I 85 7) (I 85 8) (I 85 9) c who p = (if (gm_s1 (gm_nx A C (I 86) 1 who) (c, p)).1 (gm_s1 (gm_nx A C (I 86) 1 who) (c, p)).2 = 1 then gm_tc A C who (gm_s1 (gm_nx A C (I 86) 1 who) (c, p)).2 (gm_s1 (gm_nx A C (I 86) 1 who) (c, p)).1 else (gm_s1 (gm_nx A C (I 86) 1 who) (c, p)).1, (gm_s1 (gm_nx A C (I 86) 1 who) (c, p)).2, 0) := by
      unfold gm_mv; rw [if_neg (by omega), if_pos k3]
    rw [e]
    rw [if_pos k3, m_sow1 hm h hw (by omega) ex2 h0 h1 hs.bd, am_cl_s]
    simp only [am_mk_19, am_mk_91, am_mk_85 (show (6 : Int) < 17 ∨ 19 < (6 : Int) by omega)]
    rw [if_neg (by omega), if_pos k3, if_pos trivial, if_pos (by omega)]
    have eu : gm_tot A (gm_s1 (gm_nx A C (I 86) 1 who) (c, p)).1 = gm_tot A c := u2
    by_cases q : (gm_s1 (gm_nx A C (I 86) 1 who) (c, p)).1 (gm_s1 (gm_nx A C (I 86) 1 who) (c, p)).2 = 1
    · rw [if_pos q, if_pos q, m_takeColumn hm h (by omega) u1 (by decide) u3 u4, am_cl_s, eu]
      congr 3
      omega
    · rw [if_neg q, if_neg q, eu]
      congr 3
      omega
  · rw [if_neg k3, m_sow1 hm h hw (by omega) ex1 h0 h1 hs.bd, am_cl_s]
    simp only [am_mk_19, am_mk_91, am_mk_85 (show (6 : Int) < 17 ∨ 19 < (6 : Int) by omega)]
    have es : gm_tot A (gm_s1 (gm_nx A C (I 86) 1 (-1)) (c, p)).1 = gm_tot A c := s2
    by_cases k1 : I 85 6 = 1
    · have hr := m_relay_l (N := N) (who := who) hm h hw hN ex1 hmr (I 85 7).toNat N _ _ 1 (by omega) (by omega) (by omega) s3 s4 s5 s1
      rw [es] at hr
      unfold gm_mv
      rw [if_pos k1, if_pos k1]
      exact hr
    · rw [if_neg k1, if_neg k3]
      by_cases k2 : I 85 6 = 2
      · have hnz := gm_nz_b A (gm_s1 (gm_nx A C (I 86) 1 (-1)) (c, p)).1 (by omega)
        have hr := m_chain_l (N := N) (l := 0) (la := (gm_s1 (gm_nx A C (I 86) 1 (-1)) (c, p)).2) (who := who) hm h hw (by omega) ex1 hlo 32 N _ 0 _ (by omega) (by omega) s3 s4 s1 (by have := s1.2.2; omega)
        rw [es] at hr
        unfold gm_mv
        rw [if_pos k2, if_neg k1, if_neg k3, if_pos k2, hr]
        congr 3
        dsimp only
        omega
      · unfold gm_mv
        rw [if_neg k2, if_neg k1, if_neg k3, if_neg k2]
        dsimp only
        rw [es]
        congr 3
        omega
theorem m_make (hm : mw K F) (h : mg I R C A) (hw : mW I C A) (hN : 2000000 < N) (hmr : 1 ≤ I 85 7 ∧ I 85 7 ≤ 50) (hlo : 1 ≤ I 85 8) {a1 : Nat} (ha : a1 = 87 ∨ a1 = 92) {who p : Int} (hs : gm_st A (I 86) (I a1)) (h0 : 0 ≤ p) (h1 : p < A) (hl : I 86 p = 0) (hsd : gm_sd A p = who) :
    X12_make N K F 85 I a1 who p = some (0, am_mk I (gm_mv A C (I 86) (I 85 6) (I 85 7) (I 85 8) (I 85 9) (gm_ld A (I a1) (I 91)) who p).1 (gm_tot A (I a1) - gm_tot A (gm_mv A C (I 86) (I 85 6) (I 85 7) (I 85 8) (I 85 9) (gm_ld A (I a1) (I 91)) who p).1) (gm_mv A C (I 86) (I 85 6) (I 85 7) (I 85 8) (I 85 9) (gm_ld A (I a1) (I 91)) who p).2.2 (gm_mv A C (I 86) (I 85 6) (I 85 7) (I 85 8) (I 85 9) (gm_ld A (I a1) (I 91)) who p).2.1) := by
  have hA := h.A
  have a91 : a1 ≠ 91 := by omega
  have a85 : a1 ≠ 85 := by omega
  have hk : K a1 = (100, 32) := by rcases ha with rfl | rfl; exact mwK_87 hm; exact mwK_92 hm
  have el : gm_tot A (gm_ld A (I a1) (I 91)) = gm_tot A (I a1) := gm_sm_congr (fun i a b => by unfold gm_ld; rw [if_pos ⟨a, by omega⟩])
  have hs2 : gm_st A (I 86) (gm_ld A (I a1) (I 91)) := by
    refine ⟨fun j a b => ?_, fun j a b w => ?_, by rw [el]; exact hs.2.2⟩
    · unfold gm_ld; rw [if_pos ⟨a, b⟩]; exact hs.1 j a b
    · unfold gm_ld; rw [if_pos ⟨a, b⟩]; exact hs.2.1 j a b w
  have hb := m_make_b (N := N) (la := I 85 19) hm h hw hN hmr hlo hs2 h0 h1 hl hsd
  rw [el] at hb
  rw [← hb]
  unfold X12_make
  have hl := am_for (fun f (c : Int → Int) x => X12_make_h3 N K F 85 f (am_mk I c (I 85 17) (I 85 18) (I 85 19)) a1 who p x) A (fun x c => gm_up c x (I a1 x)) (fun x c => 0 ≤ x ∧ x ≤ A ∧ c = fun j => if 0 ≤ j ∧ j < x then I a1 j else I 91 j) (fun _ c => X12_make_b54 N K F 85 (am_mk I c 0 0 (I 85 19)) who (if I 85 6 = 3 then who else -1) p 85) ?_ ?_ A.toNat N (I 91) 0 (by omega) (by omega) ⟨by omega, by omega, by funext j; rw [if_neg (by omega)]⟩
  · rw [am_mk_id] at hl
    rw [hl.1, hl.2.2.2]
    have e : (fun j => if 0 ≤ j ∧ j < 0 + (A.toNat : Int) then I a1 j else I 91 j) = gm_ld A (I a1) (I 91) := by
      funext j
      unfold gm_ld
      rw [show 0 + (A.toNat : Int) = A by omega]
    rw [e]
  · intro f c x hx hi
    obtain ⟨x0, x1, hc⟩ := hi
    refine ⟨?_, by omega, by omega, ?_⟩
    · show X12_make_s3 N K F 85 (X12_make_h3 N K F 85 f) _ a1 who p x = X12_make_h3 N K F 85 f _ a1 who p _
      generalize X12_make_h3 N K F 85 f = kk
      unfold X12_make_s3
      simp only [m_all (h.mk _ _ _ _), am_cq_s, am_lt, hk, mwF_85_16 hm, mwK_91 hm, am_mk_b a91 a85, am_mk_u91]
      rw [if_pos hx, if_pos trivial, if_pos (by omega), if_pos trivial, if_pos (by decide), if_pos (by omega), if_pos (nb_in (by omega))]
    · subst hc
      funext j
      unfold gm_up
      by_cases e : j = x
      · subst e; rw [if_pos rfl, if_pos (by omega)]
      · rw [if_neg e]
        dsimp only
        by_cases g : 0 ≤ j ∧ j < x
        · rw [if_pos g, if_pos (by omega)]
        · rw [if_neg g, if_neg (by omega)]
  · intro f c x hx hi
    show X12_make_s3 N K F 85 (X12_make_h3 N K F 85 f) _ a1 who p x = _
    generalize X12_make_h3 N K F 85 f = kk
    unfold X12_make_s3
    simp only [m_all (h.mk _ _ _ _), am_cq_s, am_lt, am_mk_u17, am_mk_u18, am_mk_85 (show (6 : Int) < 17 ∨ 19 < (6 : Int) by omega)]
    rw [if_neg hx]
    split <;> rfl
end MOD5
