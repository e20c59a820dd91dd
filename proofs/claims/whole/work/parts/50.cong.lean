-- BOARDS THAT AGREE ON THE PITS
def gm_eq (A : Int) (c c' : Int → Int) : Prop := ∀ j, 0 ≤ j → j < A → c j = c' j
theorem gm_eq.rfl {A : Int} {c : Int → Int} : gm_eq A c c := fun _ _ _ => Eq.refl _
theorem gm_eq.symm {A : Int} {c c' : Int → Int} (h : gm_eq A c c') : gm_eq A c' c := fun j a b => (h j a b).symm
theorem gm_eq.trans {A : Int} {c c' c'' : Int → Int} (h : gm_eq A c c') (h' : gm_eq A c' c'') : gm_eq A c c'' := fun j a b => (h j a b).trans (h' j a b)
theorem gm_eq.tot {A : Int} {c c' : Int → Int} (h : gm_eq A c c') : gm_tot A c = gm_tot A c' := gm_sm_congr (fun i a b => h i a (by omega))
theorem gm_eq.st {A : Int} {lk c c' : Int → Int} (h : gm_eq A c c') (hs : gm_st A lk c) : gm_st A lk c' := ⟨fun j a b => by rw [← h j a b]; exact hs.1 j a b, fun j a b w => by rw [← h j a b]; exact hs.2.1 j a b w, by rw [← h.tot]; exact hs.2.2⟩
theorem gm_eq.up {A : Int} {c c' : Int → Int} (h : gm_eq A c c') (k v : Int) : gm_eq A (gm_up c k v) (gm_up c' k v) := by
  intro j a b
  unfold gm_up
  by_cases e : j = k
  · rw [if_pos e, if_pos e]
  · rw [if_neg e, if_neg e]; exact h j a b
theorem gm_eq.sw {A : Int} {lk nx : Int → Int} (hg : gm_go A lk nx) : ∀ (d : Nat) {c c' : Int → Int} (p : Int), gm_eq A c c' → 0 ≤ p → p < A → lk p = 0 → gm_eq A (gm_sw nx d (c, p)).1 (gm_sw nx d (c', p)).1 ∧ (gm_sw nx d (c, p)).2 = (gm_sw nx d (c', p)).2 := by
  intro d
  induction d with
  | zero => intro c c' p h _ _ _; exact ⟨h, Eq.refl _⟩
  | succ d ih =>
    intro c c' p h h0 h1 h2
    obtain ⟨q0, q1, q2⟩ := hg p h0 h1 h2
    have := ih (nx p) (h.up (nx p) (c (nx p) + 1)) q0 q1 q2
    rw [h _ q0 q1] at this
    show gm_eq A (gm_sw nx d (gm_up c (nx p) (c (nx p) + 1), nx p)).1 (gm_sw nx d (gm_up c' (nx p) (c' (nx p) + 1), nx p)).1 ∧ (gm_sw nx d (gm_up c (nx p) (c (nx p) + 1), nx p)).2 = (gm_sw nx d (gm_up c' (nx p) (c' (nx p) + 1), nx p)).2
    rw [h _ q0 q1]
    exact this
theorem gm_eq.s1 {A : Int} {lk nx : Int → Int} (hg : gm_go A lk nx) {c c' : Int → Int} {p : Int} (h : gm_eq A c c') (h0 : 0 ≤ p) (h1 : p < A) (h2 : lk p = 0) : gm_eq A (gm_s1 nx (c, p)).1 (gm_s1 nx (c', p)).1 ∧ (gm_s1 nx (c, p)).2 = (gm_s1 nx (c', p)).2 := by
  unfold gm_s1
  dsimp only
  rw [h p h0 h1]
  exact gm_eq.sw hg _ p (h.up p 0) h0 h1 h2
theorem gm_eq.rl {A : Int} {lk nx : Int → Int} (hg : gm_go A lk nx) : ∀ (r : Nat) {c c' : Int → Int} {p : Int}, gm_eq A c c' → 0 ≤ p → p < A → lk p = 0 → gm_st A lk c → gm_eq A (gm_rl nx r (c, p)).1.1 (gm_rl nx r (c', p)).1.1 ∧ (gm_rl nx r (c, p)).1.2 = (gm_rl nx r (c', p)).1.2 ∧ (gm_rl nx r (c, p)).2 = (gm_rl nx r (c', p)).2 := by
  intro r
  induction r with
  | zero => intro c c' p h _ _ _ _; exact ⟨h, Eq.refl _, Eq.refl _⟩
  | succ r ih =>
    intro c c' p h h0 h1 h2 hs
    obtain ⟨s1, s2, s3, s4, s5⟩ := gm_s1_st (s := (c, p)) hg h0 h1 h2 hs
    obtain ⟨e1, e2⟩ := gm_eq.s1 hg h h0 h1 h2
    have hp := h p h0 h1
    unfold gm_rl
    by_cases g : 1 < c p
    · have g' : 1 < c' p := by rw [← hp]; exact g
      rw [if_pos (show 1 < (c, p).1 (c, p).2 from g), if_pos (show 1 < (c', p).1 (c', p).2 from g')]
      have := ih e1 s3 s4 s5 s1
      rw [show ((gm_s1 nx (c', p)).1, (gm_s1 nx (c, p)).2) = gm_s1 nx (c', p) from Prod.ext (Eq.refl _) e2] at this
      exact this
    · have g' : ¬ 1 < c' p := by rw [← hp]; exact g
      rw [if_neg (show ¬ 1 < (c, p).1 (c, p).2 from g), if_neg (show ¬ 1 < (c', p).1 (c', p).2 from g')]; exact ⟨h, Eq.refl _, Eq.refl _⟩
theorem gm_eq.tc {A C who p : Int} {c c' : Int → Int} (h : gm_eq A c c') : gm_eq A (gm_tc A C who p c) (gm_tc A C who p c') := by
  intro j a b
  unfold gm_tc
  split
  · rfl
  · exact h j a b
theorem gm_eq.ch {A who lo hi : Int} {lk pv : Int → Int} (hg : gm_go A lk pv) : ∀ (d : Nat) {c c' : Int → Int} {p : Int}, gm_eq A c c' → 0 ≤ p → p < A → lk p = 0 → gm_eq A (gm_ch A who lo hi pv d c p) (gm_ch A who lo hi pv d c' p) := by
  intro d
  induction d with
  | zero => intro c c' p h _ _ _; exact h
  | succ d ih =>
    intro c c' p h h0 h1 h2
    obtain ⟨q0, q1, q2⟩ := hg p h0 h1 h2
    unfold gm_ch
    rw [← h p h0 h1]
    split
    · exact ih (h.up p 0) q0 q1 q2
    · exact h
theorem gm_eq.mv {R C A : Int} (hg : gm_g R C A) {lk : Int → Int} {kd mr lo hi : Int} {c c' : Int → Int} {who p : Int} (h : gm_eq A c c') (hs : gm_st A lk c) (h0 : 0 ≤ p) (h1 : p < A) (hl : lk p = 0) (hw : gm_sd A p = who) :
    gm_eq A (gm_mv A C lk kd mr lo hi c who p).1 (gm_mv A C lk kd mr lo hi c' who p).1 ∧ (gm_mv A C lk kd mr lo hi c who p).2 = (gm_mv A C lk kd mr lo hi c' who p).2 := by
  obtain ⟨ex1, ex2⟩ := gm_ex_live hg h0 h1 hl
  rw [hw] at ex2
  have go1 := gm_go_nx hg (st := 1) (Or.inl (Eq.refl _)) ex1
  have go2 := gm_go_nx hg (st := 1) (Or.inl (Eq.refl _)) ex2
  have gob := gm_go_nx hg (st := -1) (Or.inr (Eq.refl _)) ex1
  obtain ⟨s1, s2, s3, s4, s5⟩ := gm_s1_st (s := (c, p)) go1 h0 h1 hl hs
  obtain ⟨u1, u2, u3, u4, u5⟩ := gm_s1_st (s := (c, p)) go2 h0 h1 hl hs
  obtain ⟨a1, a2⟩ := gm_eq.s1 go1 h h0 h1 hl
  obtain ⟨b1, b2⟩ := gm_eq.s1 go2 h h0 h1 hl
  unfold gm_mv
  by_cases k1 : kd = 1
  · rw [if_pos k1, if_pos k1]
    obtain ⟨r1, r2, r3⟩ := gm_eq.rl go1 mr.toNat a1 s3 s4 s5 s1
    rw [show ((gm_s1 (gm_nx A C lk 1 (-1)) (c', p)).1, (gm_s1 (gm_nx A C lk 1 (-1)) (c, p)).2) = gm_s1 (gm_nx A C lk 1 (-1)) (c', p) from Prod.ext (Eq.refl _) a2] at r1 r2 r3
    rw [show ((gm_s1 (gm_nx A C lk 1 (-1)) (c, p)).1, (gm_s1 (gm_nx A C lk 1 (-1)) (c, p)).2) = gm_s1 (gm_nx A C lk 1 (-1)) (c, p) from Eq.refl _] at r1 r2 r3
    dsimp only
    rw [← r2, ← r3]
    refine ⟨?_, Eq.refl _⟩
    split
    · exact r1.tc
    · exact r1
  · rw [if_neg k1, if_neg k1]
    by_cases k3 : kd = 3
    · rw [if_pos k3, if_pos k3]
      dsimp only
      rw [← b2, ← b1 _ u3 u4]
      refine ⟨?_, Eq.refl _⟩
      split
      · exact b1.tc
      · exact b1
    · rw [if_neg k3, if_neg k3]
      by_cases k2 : kd = 2
      · rw [if_pos k2, if_pos k2]
        dsimp only
        rw [← a2]
        exact ⟨gm_eq.ch gob 32 a1 s3 s4 s5, Eq.refl _⟩
      · rw [if_neg k2, if_neg k2]
        dsimp only
        rw [← a2]
        exact ⟨a1, Eq.refl _⟩
theorem gm_eq.fed {A : Int} {c c' : Int → Int} (h : gm_eq A c c') (who : Int) : ∀ d : Nat, (d : Int) ≤ A → gm_fed A c who d = gm_fed A c' who d := by
  intro d
  induction d with
  | zero => intro _; rfl
  | succ d ih =>
    intro hd
    unfold gm_fed
    rw [ih (by omega), h (d : Int) (by omega) (by omega)]
/-- what the pit p is for who: 0 shut, -1 long, 1 open, 2 open and feeding; u: the rules by the model's numbers -/
def gm_fc (A C : Int) (lk u : Int → Int) (c : Int → Int) (who p : Int) : Int :=
  if gm_sd A p = who ∧ lk p = 0 ∧ u 10 ≤ c p then
    (if (gm_mv A C lk (u 6) (u 7) (u 8) (u 9) c who p).2.2 ≠ 0 then -1 else if gm_fed A (gm_mv A C lk (u 6) (u 7) (u 8) (u 9) c who p).1 who A.toNat = 1 then 2 else 1)
  else 0
def gm_any (A C : Int) (lk u : Int → Int) (c : Int → Int) (who : Int) : Nat → Int
  | 0 => 0
  | d + 1 => if gm_any A C lk u c who d = 0 then (if gm_fc A C lk u c who (d : Int) = 2 then 1 else 0) else 1
/-- whether the move is allowed -/
def gm_al (A C : Int) (lk u : Int → Int) (c : Int → Int) (who p : Int) : Int :=
  if gm_fc A C lk u c who p ≤ 0 then 0 else if u 11 ≠ 0 ∧ gm_any A C lk u c who A.toNat ≠ 0 then (if gm_fc A C lk u c who p = 2 then 1 else 0) else 1
theorem gm_al_01 (A C : Int) (lk u : Int → Int) (c : Int → Int) (who p : Int) : gm_al A C lk u c who p = 0 ∨ gm_al A C lk u c who p = 1 := by
  unfold gm_al
  split
  · exact Or.inl (Eq.refl _)
  · split
    · split
      · exact Or.inr (Eq.refl _)
      · exact Or.inl (Eq.refl _)
    · exact Or.inr (Eq.refl _)
theorem gm_any_01 (A C : Int) (lk u : Int → Int) (c : Int → Int) (who : Int) (d : Nat) : gm_any A C lk u c who d = 0 ∨ gm_any A C lk u c who d = 1 := by
  cases d with
  | zero => exact Or.inl (Eq.refl _)
  | succ d => unfold gm_any; split <;> (try split) <;> simp
theorem gm_eq.fc {R C A : Int} (hg : gm_g R C A) {lk u c c' : Int → Int} (h : gm_eq A c c') (hs : gm_st A lk c) {who p : Int} (h0 : 0 ≤ p) (h1 : p < A) : gm_fc A C lk u c who p = gm_fc A C lk u c' who p := by
  unfold gm_fc
  rw [← h p h0 h1]
  by_cases g : gm_sd A p = who ∧ lk p = 0 ∧ u 10 ≤ c p
  · rw [if_pos g, if_pos g]
    obtain ⟨e1, e2⟩ := gm_eq.mv (kd := u 6) (mr := u 7) (lo := u 8) (hi := u 9) hg h hs h0 h1 g.2.1 g.1
    rw [← e2, gm_eq.fed e1 who A.toNat (by have := hg.A; omega)]
  · rw [if_neg g, if_neg g]
theorem gm_eq.any {R C A : Int} (hg : gm_g R C A) {lk u c c' : Int → Int} (h : gm_eq A c c') (hs : gm_st A lk c) {who : Int} : ∀ d : Nat, (d : Int) ≤ A → gm_any A C lk u c who d = gm_any A C lk u c' who d := by
  intro d
  induction d with
  | zero => intro _; rfl
  | succ d ih =>
    intro hd
    unfold gm_any
    rw [ih (by omega), gm_eq.fc hg h hs (by omega) (by omega)]
theorem gm_eq.al {R C A : Int} (hg : gm_g R C A) {lk u c c' : Int → Int} (h : gm_eq A c c') (hs : gm_st A lk c) {who p : Int} (h0 : 0 ≤ p) (h1 : p < A) : gm_al A C lk u c who p = gm_al A C lk u c' who p := by
  unfold gm_al
  rw [gm_eq.fc hg h hs h0 h1, gm_eq.any hg h hs A.toNat (by have := hg.A; omega)]
