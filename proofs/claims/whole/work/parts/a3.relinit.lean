-- THE RELATION AT THE START
section RELI
variable {n : Nat} {K : am_K} {F : am_F} {I I3 J1 J : am_I} {x y z : Int}
theorem rH.fresh (k1 : (K (F 59 2)).1 = 100) (k2 : K (F 59 3) = (100, 34 * (K (F 59 2)).2)) (l0 : 16 ≤ (K (F 59 2)).2) (l1 : (K (F 59 2)).2 ≤ 1000) (h0 : J 59 0 = 0) (h1 : J 59 1 = 0) (h2 : J 85 37 = 0) (h3 : J 85 38 = 0) {A' C' S' : Int} {lk' U' : Int → Int} : rH K F J A' C' lk' U' S' := by
  refine ⟨by rw [h0, h2], by rw [h1, h2, h3]; rfl, by rw [h2]; omega, by rw [h3]; omega, by rw [h2, h3]; omega, k1, k2, l0, l1, by rw [h2, h3]; omega, ?_, ?_, ?_⟩
  · intro j a b; rw [h2, h3] at b; omega
  · intro a; rw [h2, h3] at a; omega
  · intro j a b; rw [h2] at b; omega
theorem rQ.fresh (hV : 0 ≤ (K (F 62 4)).2) (hE : 0 ≤ (K (F 63 2)).2) (h0 : J 62 1 = 0) (h1 : J 85 21 = 0) (h2 : J 63 3 = 0) (e0 : J (F 63 1) 0 = 0) {A' C' : Int} {lk' U' : Int → Int} : rQ K F J A' C' lk' U' := by
  have e : gp_top A' lk' (J 63 3 - 1) = 0 := gp_top_neg _ _ (by omega)
  refine ⟨by rw [h0, h1], by rw [h1]; exact Or.inl rfl, fun w => by omega, by omega, by rw [e]; exact hV, ?_, fun w => by omega, by rw [e]; exact hE⟩
  rw [e]
  refine ⟨e0, fun k hk => ?_, fun k hk => by omega, fun k a b => by omega⟩
  have : k = 0 := by omega
  subst this
  exact e0
theorem rel_init (hgg : gm_g x y z) (ha : rA n K F) (k1 : (K (F 59 2)).1 = 100) (k2 : K (F 59 3) = (100, 34 * (K (F 59 2)).2)) (l0 : 16 ≤ (K (F 59 2)).2) (l1 : (K (F 59 2)).2 ≤ 1000) (hW : cW I) (h1 : lb I J1 x y z) (h2 : mf I3 J x y z) (h3 : ∀ b, b < 85 → I3 b = J1 b) (hv : F 63 1 = 65) (hs : I 65 0 = 0) : rel n K F J x y z (J 86) (J 85) 0 := by
  have hA := hgg.A
  obtain ⟨a1, a2, a3, a4, a5, a6, a7, a8, a9, a10, a11, a12⟩ := h1
  obtain ⟨b1, b2, b3, b4, b5, b6, b7, b8⟩ := h2
  obtain ⟨c5, c6, c7, c8, c9, c10, c11, c12, c37, c38, c21, c39⟩ := b5
  have f : ∀ b, b < 85 → J b = J1 b := fun b q => by rw [b7 b (Or.inl q), h3 b q]
  have hz : ∀ p, 0 ≤ p → p < z → J 86 p = 0 := fun p u v => (b3 p u (by omega)).1
  obtain ⟨g1, g2⟩ := a1 (J 86) hz
  have hL : gm_L z (J 86) = z := by
    unfold gm_L
    have e : gm_sm (gm_lv (J 86)) z.toNat = gm_sm (fun _ => 1) z.toNat := gm_sm_congr (fun i u v => by unfold gm_lv; rw [if_pos (hz i u (by omega))])
    have e2 : ∀ d : Nat, gm_sm (fun _ => 1) d = (d : Int) := by
      intro d
      induction d with
      | zero => rfl
      | succ d ih => rw [gm_sm_s, ih]; omega
    rw [e, e2]; omega
  have ht : gm_tot z (J 87) = 0 := gm_sm_z (fun i u v => (b3 i u (by omega)).2)
  refine ⟨ha, ⟨b1, b2, g1.kept (fun b u v => f b (by omega)), by rw [f 5 (by decide)]; exact g2, ?_, rfl, fun p u v => Or.inl (hz p u v), by rw [hL]; omega⟩, rU.of ?_ ?_, ⟨?_, ?_, ⟨?_, ?_, ?_⟩, ?_, ?_, ?_, ?_, ?_, by omega⟩, rH.fresh k1 k2 l0 l1 (by rw [f 59 (by decide)]; exact a8.1) (by rw [f 59 (by decide)]; exact a8.2) c37 c38, ⟨?_, ?_, ?_⟩, ⟨?_, ?_, ?_, ?_⟩, rQ.fresh ha.V0 ha.E0 (by rw [f 62 (by decide)]; exact a9) c21 (by rw [f 63 (by decide)]; exact a10) (by rw [hv, f 65 (by decide), a12 65 (by decide)]; exact hs)⟩
  · intro m k u1 u2 u3 u4; rw [f 57 (by decide), a12 57 (by decide)]; exact hW m k u1 u2 u3 u4
  · unfold cr
    rw [f 15 (by decide)]
    omega
  · omega
  · intro p u v; rw [f 17 (by decide), (b3 p u v).2]; exact a3 p u v
  · intro j u v; exact (b3 j (by omega) v).2
  · intro j u v; rw [(b3 j u (by omega)).2]; omega
  · intro j u v w; exact absurd (hz j u v) w
  · omega
  · rw [f 18 (by decide)]; omega
  · rw [f 18 (by decide)]; omega
  · rw [f 16 (by decide)]; omega
  · omega
  · rw [ht]; omega
  · rw [f 79 (by decide)]; omega
  · omega
  · omega
  · rw [f 83 (by decide)]; omega
  · rw [f 84 (by decide)]; omega
  · omega
  · omega
end RELI
/-- the memory at the law's start -/
def K0z (L : Nat) : am_K := fun a => if a = 1 then (100, (L : Int)) else (999, 0)
def K2z (L : Nat) : am_K := am_u1 (kX11 (am_u1 (K0z L) 2 (11, 0))) 85 (12, 0)
theorem gwr_ok {I : am_I} (h : I 57 = gwr) : cW I := by
  intro m k a b c d
  rw [h]
  unfold gwr
  rw [if_pos (by omega), show (m * 13 + k) / 13 = m by omega, show (m * 13 + k) % 13 = k by omega]
theorem cK_ok (L : Nat) : cw (kX11 (am_u1 (K0z L) 2 (11, 0))) fC := cC_ok rfl
theorem rA_init (L : Nat) : rA 109 (kX12 (K2z L)) (fX12 (am_zr fC 85 0)) := by
  have hK : ∀ a, a < 85 → kX12 (K2z L) a = kX11 (am_u1 (K0z L) 2 (11, 0)) a := fun a h => by rw [kM_up a (by omega)]; unfold K2z; rw [am_u1_n (by omega)]
  have hF : ∀ a j, a < 85 → fX12 (am_zr fC 85 0) a j = fC a j := fun a j h => by rw [fM_up a j h, am_zr_a (by omega)]
  have hm : mw (kX12 (K2z L)) (fX12 (am_zr fC 85 0)) := mC_ok rfl
  have hmm := mC_v (F := am_zr fC 85 0)
  have hc := (cK_ok L).up hK hF
  generalize kX12 (K2z L) = K at *
  generalize fX12 (am_zr fC 85 0) = F at *
  have kv := kC_v (K := am_u1 (K0z L) 2 (11, 0))
  obtain ⟨v1, v2, v3, v4, v5, v6, v7, v8, v9, v10, v11, v12, v13, v14, v15⟩ := fC_v
  obtain ⟨w60, w61, w68, w69, w70, w71, w64, w65, w66, w73, w74, w75, w76, w77, w78⟩ := kv
  rw [← hF 59 2 (by decide)] at v1
  rw [← hF 59 3 (by decide)] at v2
  rw [← hF 62 4 (by decide)] at v3
  rw [← hF 62 5 (by decide)] at v4
  rw [← hF 62 6 (by decide)] at v5
  rw [← hF 62 7 (by decide)] at v6
  rw [← hF 63 0 (by decide)] at v7
  rw [← hF 63 1 (by decide)] at v8
  rw [← hF 63 2 (by decide)] at v9
  rw [← hF 72 1 (by decide)] at v10
  rw [← hF 72 2 (by decide)] at v11
  rw [← hF 72 3 (by decide)] at v12
  rw [← hF 72 4 (by decide)] at v13
  rw [← hF 72 5 (by decide)] at v14
  rw [← hF 72 6 (by decide)] at v15
  have e : vrl F = [60, 61, 68, 69, 70, 71, 64, 65, 66, 73, 74, 75, 76, 77, 78] := by
    unfold vrl
    rw [v1, v2, v3, v4, v5, v6, v7, v8, v9, v10, v11, v12, v13, v14, v15]
  have q : ∀ a v, a < 85 → kX11 (am_u1 (K0z L) 2 (11, 0)) a = v → K a = v := fun a v h1 h2 => (hK a h1).trans h2
  refine ⟨hc, hm, by rw [e]; decide, fun r hr => ?_, by decide, Or.inl hmm, ?_, ?_, ?_, ?_, ?_, ?_, ?_, ?_, ?_, ?_, ?_, ?_, ?_, ?_, ?_, ?_, ?_⟩
  · rw [e] at hr
    simp only [List.mem_cons, List.not_mem_nil, or_false] at hr
    unfold vok
    omega
  · rw [v3, q 68 _ (by decide) w68]
  · rw [v3, v4, q 68 _ (by decide) w68, q 69 _ (by decide) w69]
  · rw [v3, v5, q 68 _ (by decide) w68, q 70 _ (by decide) w70]
  · rw [v3, v6, q 68 _ (by decide) w68, q 71 _ (by decide) w71]
  · rw [v3, v7, q 68 _ (by decide) w68, q 64 _ (by decide) w64]
  · rw [v3, v8, q 68 _ (by decide) w68, q 65 _ (by decide) w65]; rfl
  · rw [v9, q 66 _ (by decide) w66]
  · rw [v3, v10, q 68 _ (by decide) w68, q 73 _ (by decide) w73]
  · rw [v3, v11, q 68 _ (by decide) w68, q 74 _ (by decide) w74]
  · rw [v3, v12, q 68 _ (by decide) w68, q 75 _ (by decide) w75]
  · rw [v3, v13, q 68 _ (by decide) w68, q 76 _ (by decide) w76]
  · rw [v3, v14, q 68 _ (by decide) w68, q 77 _ (by decide) w77]; rfl
  · rw [v9, v15, q 66 _ (by decide) w66, q 78 _ (by decide) w78]
  · rw [v3, q 68 _ (by decide) w68]; decide
  · rw [v3, q 68 _ (by decide) w68]; decide
  · rw [v9, q 66 _ (by decide) w66]; decide
  · rw [v9, q 66 _ (by decide) w66]; decide
