-- THE LAW's CASES (made by gen_law.py)
section LAWC
variable {η : am_E} {l : Launch} {L : Nat} {xs : Nat → Int32} {N n k : Nat} {K : am_K} {I : am_I} {F : am_F} {c z : Nat} {i : Int}
theorem lc_board (hI : yIv n K F I c z k) (hs : ySc L xs K I) (hb : li_b L i) (hk : k ≤ 511) (hN : 2000000 < N) (kk : ∀ n K F I c z, yIv n K F I c z (k + 1) → Ok η l M_law (lq η L xs) 1275 [(0, qr 1), (1, qr 2), (2, qr 85), (3, qi i)] [] n K I F c z) : Ok η l M_law (lq η L xs) 216 [(0, qr 1), (1, qr 2), (2, qr 85), (3, qi i)] [] n K I F c z := by
  have hN1 : 100 < N := by omega
  have hk1 : k + 1 ≤ 512 := by omega
  have hk0 : k ≤ 512 := by omega
  obtain ⟨hb1, hb2, hb3, hb4⟩ := hb
  obtain ⟨R, C, A, lk, U, S, hS, h⟩ := hI.ex
  have k2 : (K 2).1 = 11 := by rw [cwK_2 h.a.c]
  have k85 : (K 85).1 = 12 := by rw [mwK_85 h.a.m]
  have hc0 := hI.rc hk0
  have hz0 := hI.rz
  have hc1 := hc0
  have hz1 := hz0
  obtain ⟨v, J, J', hx, hy, ⟨R2, C2, A2, lk2, U2, S2, -, hS2, h2⟩, hst⟩ := e_board (N := N) (x := (ls_y xs (i + 1))) (y := (ls_y xs (i + 2))) h hN1
  have hF := yIv.nx hI h2 (by clear h h2; omega) hst
  refine ok_aload_n (G := True) (q := 217) 1 dL_law_216 rfl rfl rfl ?_ trivial
  refine ok_aload_n (q := 218) 0 dL_law_217 rfl rfl rfl ?_
  refine ok_iload_n (q := 219) 3 dL_law_218 rfl rfl rfl ?_
  refine ok_iconst (q := 220) (x := 1) dL_law_219 rfl rfl (by decide) ?_
  refine ok_iadd (q := 221) dL_law_220 rfl hb1.1 ?_
  refine ok_iaload (q := 222) (v := ls_y xs (i + 1)) dL_law_221 rfl hs.1 hb1.2.1 (hs.lt hb1.2.2) (hs.2.2 _ hb1.2.1 hb1.2.2) ?_
  refine ok_aload_n (q := 223) 0 dL_law_222 rfl rfl rfl ?_
  refine ok_iload_n (q := 224) 3 dL_law_223 rfl rfl rfl ?_
  refine ok_iconst (q := 225) (x := 2) dL_law_224 rfl rfl (by decide) ?_
  refine ok_iadd (q := 226) dL_law_225 rfl hb2.1 ?_
  refine ok_iaload (q := 227) (v := ls_y xs (i + 2)) dL_law_226 rfl hs.1 hb2.2.1 (hs.lt hb2.2.2) (hs.2.2 _ hb2.2.1 hb2.2.2) ?_
  refine fun _ => ok_callV (q := 230) (as := [qi (ls_y xs (i + 1)), qi (ls_y xs (i + 2))]) (st := []) dL_law_227 rfl mo_L_13 k2 rfl (Nat.le_of_ble_eq_true rfl) rfl rfl (Nat.le_of_ble_eq_true rfl) (Nat.le_of_ble_eq_true rfl) (Nat.le_of_ble_eq_true rfl) hc0 hz0 (ct_X11_board (N := N) k2 hx) (fun v' n'' K'' I'' F'' hp => ?_)
  obtain ⟨rfl, rfl, rfl, rfl, rfl⟩ := hp
  refine ok_scr (fun hs2 => ?_)
  refine ok_aload_n (G := True) (q := 231) 2 dL_law_230 rfl rfl rfl ?_ trivial
  refine ok_aload_n (q := 232) 0 dL_law_231 rfl rfl rfl ?_
  refine ok_iload_n (q := 233) 3 dL_law_232 rfl rfl rfl ?_
  refine ok_iconst (q := 234) (x := 1) dL_law_233 rfl rfl (by decide) ?_
  refine ok_iadd (q := 235) dL_law_234 rfl hb1.1 ?_
  refine ok_iaload (q := 236) (v := ls_y xs (i + 1)) dL_law_235 rfl hs2.1 hb1.2.1 (hs2.lt hb1.2.2) (hs2.2.2 _ hb1.2.1 hb1.2.2) ?_
  refine ok_aload_n (q := 237) 0 dL_law_236 rfl rfl rfl ?_
  refine ok_iload_n (q := 238) 3 dL_law_237 rfl rfl rfl ?_
  refine ok_iconst (q := 239) (x := 2) dL_law_238 rfl rfl (by decide) ?_
  refine ok_iadd (q := 240) dL_law_239 rfl hb2.1 ?_
  refine ok_iaload (q := 241) (v := ls_y xs (i + 2)) dL_law_240 rfl hs2.1 hb2.2.1 (hs2.lt hb2.2.2) (hs2.2.2 _ hb2.2.1 hb2.2.2) ?_
  refine fun _ => ok_callV (q := 244) (as := [qi (ls_y xs (i + 1)), qi (ls_y xs (i + 2))]) (st := [qi v]) dL_law_241 rfl mo_L_17 k85 rfl (Nat.le_of_ble_eq_true rfl) rfl rfl (Nat.le_of_ble_eq_true rfl) (Nat.le_of_ble_eq_true rfl) (Nat.le_of_ble_eq_true rfl) hc1 hz1 (ct_X12_board (N := N) k85 hy) (fun v' n'' K'' I'' F'' hp => ?_)
  obtain ⟨rfl, rfl, rfl, rfl, rfl⟩ := hp
  exact ok_icmp_eq (q := 1275) (q2 := 247) (x := v) (y := v) (t1 := some ()) (t2 := none) (r0 := ()) dL_law_244 rfl rfl (fun _ => kk _ _ _ _ _ _ hF) (fun g => by cases g) (if_pos rfl)
theorem lc_lack (hI : yIv n K F I c z k) (hs : ySc L xs K I) (hb : li_b L i) (hk : k ≤ 511) (hN : 2000000 < N) (kk : ∀ n K F I c z, yIv n K F I c z (k + 1) → Ok η l M_law (lq η L xs) 1275 [(0, qr 1), (1, qr 2), (2, qr 85), (3, qi i)] [] n K I F c z) : Ok η l M_law (lq η L xs) 249 [(0, qr 1), (1, qr 2), (2, qr 85), (3, qi i)] [] n K I F c z := by
  have hN1 : 100 < N := by omega
  have hk1 : k + 1 ≤ 512 := by omega
  have hk0 : k ≤ 512 := by omega
  obtain ⟨hb1, hb2, hb3, hb4⟩ := hb
  obtain ⟨R, C, A, lk, U, S, hS, h⟩ := hI.ex
  have k2 : (K 2).1 = 11 := by rw [cwK_2 h.a.c]
  have k85 : (K 85).1 = 12 := by rw [mwK_85 h.a.m]
  have hc0 := hI.rc hk0
  have hz0 := hI.rz
  have hc1 := hc0
  have hz1 := hz0
  obtain ⟨v, J, J', hx, hy, ⟨lk2, h2⟩, hst⟩ := e_lack (N := N) (x := (ls_y xs (i + 1))) (y := (ls_y xs (i + 2))) h hN1
  have hF := yIv.nx hI h2 (by clear h h2; omega) hst
  refine ok_aload_n (G := True) (q := 250) 1 dL_law_249 rfl rfl rfl ?_ trivial
  refine ok_aload_n (q := 251) 0 dL_law_250 rfl rfl rfl ?_
  refine ok_iload_n (q := 252) 3 dL_law_251 rfl rfl rfl ?_
  refine ok_iconst (q := 253) (x := 1) dL_law_252 rfl rfl (by decide) ?_
  refine ok_iadd (q := 254) dL_law_253 rfl hb1.1 ?_
  refine ok_iaload (q := 255) (v := ls_y xs (i + 1)) dL_law_254 rfl hs.1 hb1.2.1 (hs.lt hb1.2.2) (hs.2.2 _ hb1.2.1 hb1.2.2) ?_
  refine ok_aload_n (q := 256) 0 dL_law_255 rfl rfl rfl ?_
  refine ok_iload_n (q := 257) 3 dL_law_256 rfl rfl rfl ?_
  refine ok_iconst (q := 258) (x := 2) dL_law_257 rfl rfl (by decide) ?_
  refine ok_iadd (q := 259) dL_law_258 rfl hb2.1 ?_
  refine ok_iaload (q := 260) (v := ls_y xs (i + 2)) dL_law_259 rfl hs.1 hb2.2.1 (hs.lt hb2.2.2) (hs.2.2 _ hb2.2.1 hb2.2.2) ?_
  refine fun _ => ok_callV (q := 263) (as := [qi (ls_y xs (i + 1)), qi (ls_y xs (i + 2))]) (st := []) dL_law_260 rfl mo_L_18 k2 rfl (Nat.le_of_ble_eq_true rfl) rfl rfl (Nat.le_of_ble_eq_true rfl) (Nat.le_of_ble_eq_true rfl) (Nat.le_of_ble_eq_true rfl) hc0 hz0 (ct_X11_lack (N := N) k2 hx) (fun v' n'' K'' I'' F'' hp => ?_)
  obtain ⟨rfl, rfl, rfl, rfl, rfl⟩ := hp
  refine ok_scr (fun hs2 => ?_)
  refine ok_aload_n (G := True) (q := 264) 2 dL_law_263 rfl rfl rfl ?_ trivial
  refine ok_aload_n (q := 265) 0 dL_law_264 rfl rfl rfl ?_
  refine ok_iload_n (q := 266) 3 dL_law_265 rfl rfl rfl ?_
  refine ok_iconst (q := 267) (x := 1) dL_law_266 rfl rfl (by decide) ?_
  refine ok_iadd (q := 268) dL_law_267 rfl hb1.1 ?_
  refine ok_iaload (q := 269) (v := ls_y xs (i + 1)) dL_law_268 rfl hs2.1 hb1.2.1 (hs2.lt hb1.2.2) (hs2.2.2 _ hb1.2.1 hb1.2.2) ?_
  refine ok_aload_n (q := 270) 0 dL_law_269 rfl rfl rfl ?_
  refine ok_iload_n (q := 271) 3 dL_law_270 rfl rfl rfl ?_
  refine ok_iconst (q := 272) (x := 2) dL_law_271 rfl rfl (by decide) ?_
  refine ok_iadd (q := 273) dL_law_272 rfl hb2.1 ?_
  refine ok_iaload (q := 274) (v := ls_y xs (i + 2)) dL_law_273 rfl hs2.1 hb2.2.1 (hs2.lt hb2.2.2) (hs2.2.2 _ hb2.2.1 hb2.2.2) ?_
  refine fun _ => ok_callV (q := 277) (as := [qi (ls_y xs (i + 1)), qi (ls_y xs (i + 2))]) (st := [qi v]) dL_law_274 rfl mo_L_21 k85 rfl (Nat.le_of_ble_eq_true rfl) rfl rfl (Nat.le_of_ble_eq_true rfl) (Nat.le_of_ble_eq_true rfl) (Nat.le_of_ble_eq_true rfl) hc1 hz1 (ct_X12_lack (N := N) k85 hy) (fun v' n'' K'' I'' F'' hp => ?_)
  obtain ⟨rfl, rfl, rfl, rfl, rfl⟩ := hp
  exact ok_icmp_eq (q := 1275) (q2 := 280) (x := v) (y := v) (t1 := some ()) (t2 := none) (r0 := ()) dL_law_277 rfl rfl (fun _ => kk _ _ _ _ _ _ hF) (fun g => by cases g) (if_pos rfl)
theorem lc_seeds (hI : yIv n K F I c z k) (hs : ySc L xs K I) (hb : li_b L i) (hk : k ≤ 511) (hN : 2000000 < N) (kk : ∀ n K F I c z, yIv n K F I c z (k + 1) → Ok η l M_law (lq η L xs) 1275 [(0, qr 1), (1, qr 2), (2, qr 85), (3, qi i)] [] n K I F c z) : Ok η l M_law (lq η L xs) 282 [(0, qr 1), (1, qr 2), (2, qr 85), (3, qi i)] [] n K I F c z := by
  have hN1 : 100 < N := by omega
  have hk1 : k + 1 ≤ 512 := by omega
  have hk0 : k ≤ 512 := by omega
  obtain ⟨hb1, hb2, hb3, hb4⟩ := hb
  obtain ⟨R, C, A, lk, U, S, hS, h⟩ := hI.ex
  have hS6 : S ≤ 598000 := by clear h; omega
  have k2 : (K 2).1 = 11 := by rw [cwK_2 h.a.c]
  have k85 : (K 85).1 = 12 := by rw [mwK_85 h.a.m]
  have hc0 := hI.rc hk0
  have hz0 := hI.rz
  have hc1 := hc0
  have hz1 := hz0
  obtain ⟨v, J, J', hx, hy, ⟨S2, hS2, h2⟩, hst⟩ := e_seeds (N := N) (x := (ls_y xs (i + 1))) (y := (ls_y xs (i + 2))) (z := (ls_y xs (i + 3))) h hN1 hS6
  have hF := yIv.nx hI h2 (by clear h h2; omega) hst
  refine ok_aload_n (G := True) (q := 283) 1 dL_law_282 rfl rfl rfl ?_ trivial
  refine ok_aload_n (q := 284) 0 dL_law_283 rfl rfl rfl ?_
  refine ok_iload_n (q := 285) 3 dL_law_284 rfl rfl rfl ?_
  refine ok_iconst (q := 286) (x := 1) dL_law_285 rfl rfl (by decide) ?_
  refine ok_iadd (q := 287) dL_law_286 rfl hb1.1 ?_
  refine ok_iaload (q := 288) (v := ls_y xs (i + 1)) dL_law_287 rfl hs.1 hb1.2.1 (hs.lt hb1.2.2) (hs.2.2 _ hb1.2.1 hb1.2.2) ?_
  refine ok_aload_n (q := 289) 0 dL_law_288 rfl rfl rfl ?_
  refine ok_iload_n (q := 290) 3 dL_law_289 rfl rfl rfl ?_
  refine ok_iconst (q := 291) (x := 2) dL_law_290 rfl rfl (by decide) ?_
  refine ok_iadd (q := 292) dL_law_291 rfl hb2.1 ?_
  refine ok_iaload (q := 293) (v := ls_y xs (i + 2)) dL_law_292 rfl hs.1 hb2.2.1 (hs.lt hb2.2.2) (hs.2.2 _ hb2.2.1 hb2.2.2) ?_
  refine ok_aload_n (q := 294) 0 dL_law_293 rfl rfl rfl ?_
  refine ok_iload_n (q := 295) 3 dL_law_294 rfl rfl rfl ?_
  refine ok_iconst (q := 296) (x := 3) dL_law_295 rfl rfl (by decide) ?_
  refine ok_iadd (q := 297) dL_law_296 rfl hb3.1 ?_
  refine ok_iaload (q := 298) (v := ls_y xs (i + 3)) dL_law_297 rfl hs.1 hb3.2.1 (hs.lt hb3.2.2) (hs.2.2 _ hb3.2.1 hb3.2.2) ?_
  refine fun _ => ok_callV (q := 301) (as := [qi (ls_y xs (i + 1)), qi (ls_y xs (i + 2)), qi (ls_y xs (i + 3))]) (st := []) dL_law_298 rfl mo_L_22 k2 rfl (Nat.le_of_ble_eq_true rfl) rfl rfl (Nat.le_of_ble_eq_true rfl) (Nat.le_of_ble_eq_true rfl) (Nat.le_of_ble_eq_true rfl) hc0 hz0 (ct_X11_seeds (N := N) k2 hx) (fun v' n'' K'' I'' F'' hp => ?_)
  obtain ⟨rfl, rfl, rfl, rfl, rfl⟩ := hp
  refine ok_scr (fun hs2 => ?_)
  refine ok_aload_n (G := True) (q := 302) 2 dL_law_301 rfl rfl rfl ?_ trivial
  refine ok_aload_n (q := 303) 0 dL_law_302 rfl rfl rfl ?_
  refine ok_iload_n (q := 304) 3 dL_law_303 rfl rfl rfl ?_
  refine ok_iconst (q := 305) (x := 1) dL_law_304 rfl rfl (by decide) ?_
  refine ok_iadd (q := 306) dL_law_305 rfl hb1.1 ?_
  refine ok_iaload (q := 307) (v := ls_y xs (i + 1)) dL_law_306 rfl hs2.1 hb1.2.1 (hs2.lt hb1.2.2) (hs2.2.2 _ hb1.2.1 hb1.2.2) ?_
  refine ok_aload_n (q := 308) 0 dL_law_307 rfl rfl rfl ?_
  refine ok_iload_n (q := 309) 3 dL_law_308 rfl rfl rfl ?_
  refine ok_iconst (q := 310) (x := 2) dL_law_309 rfl rfl (by decide) ?_
  refine ok_iadd (q := 311) dL_law_310 rfl hb2.1 ?_
  refine ok_iaload (q := 312) (v := ls_y xs (i + 2)) dL_law_311 rfl hs2.1 hb2.2.1 (hs2.lt hb2.2.2) (hs2.2.2 _ hb2.2.1 hb2.2.2) ?_
  refine ok_aload_n (q := 313) 0 dL_law_312 rfl rfl rfl ?_
  refine ok_iload_n (q := 314) 3 dL_law_313 rfl rfl rfl ?_
  refine ok_iconst (q := 315) (x := 3) dL_law_314 rfl rfl (by decide) ?_
  refine ok_iadd (q := 316) dL_law_315 rfl hb3.1 ?_
  refine ok_iaload (q := 317) (v := ls_y xs (i + 3)) dL_law_316 rfl hs2.1 hb3.2.1 (hs2.lt hb3.2.2) (hs2.2.2 _ hb3.2.1 hb3.2.2) ?_
  refine fun _ => ok_callV (q := 320) (as := [qi (ls_y xs (i + 1)), qi (ls_y xs (i + 2)), qi (ls_y xs (i + 3))]) (st := [qi v]) dL_law_317 rfl mo_L_26 k85 rfl (Nat.le_of_ble_eq_true rfl) rfl rfl (Nat.le_of_ble_eq_true rfl) (Nat.le_of_ble_eq_true rfl) (Nat.le_of_ble_eq_true rfl) hc1 hz1 (ct_X12_seeds (N := N) k85 hy) (fun v' n'' K'' I'' F'' hp => ?_)
  obtain ⟨rfl, rfl, rfl, rfl, rfl⟩ := hp
  exact ok_icmp_eq (q := 1275) (q2 := 323) (x := v) (y := v) (t1 := some ()) (t2 := none) (r0 := ()) dL_law_320 rfl rfl (fun _ => kk _ _ _ _ _ _ hF) (fun g => by cases g) (if_pos rfl)
theorem lc_store (hI : yIv n K F I c z k) (hs : ySc L xs K I) (hb : li_b L i) (hk : k ≤ 511) (hN : 2000000 < N) (kk : ∀ n K F I c z, yIv n K F I c z (k + 1) → Ok η l M_law (lq η L xs) 1275 [(0, qr 1), (1, qr 2), (2, qr 85), (3, qi i)] [] n K I F c z) : Ok η l M_law (lq η L xs) 325 [(0, qr 1), (1, qr 2), (2, qr 85), (3, qi i)] [] n K I F c z := by
  have hN1 : 100 < N := by omega
  have hk1 : k + 1 ≤ 512 := by omega
  have hk0 : k ≤ 512 := by omega
  obtain ⟨hb1, hb2, hb3, hb4⟩ := hb
  obtain ⟨R, C, A, lk, U, S, hS, h⟩ := hI.ex
  have hS6 : S ≤ 598000 := by clear h; omega
  have k2 : (K 2).1 = 11 := by rw [cwK_2 h.a.c]
  have k85 : (K 85).1 = 12 := by rw [mwK_85 h.a.m]
  have hc0 := hI.rc hk0
  have hz0 := hI.rz
  have hc1 := hc0
  have hz1 := hz0
  obtain ⟨v, J, J', hx, hy, ⟨S2, hS2, h2⟩, hst⟩ := e_store (N := N) (x := (ls_y xs (i + 1))) (y := (ls_y xs (i + 2))) h hS6
  have hF := yIv.nx hI h2 (by clear h h2; omega) hst
  refine ok_aload_n (G := True) (q := 326) 1 dL_law_325 rfl rfl rfl ?_ trivial
  refine ok_aload_n (q := 327) 0 dL_law_326 rfl rfl rfl ?_
  refine ok_iload_n (q := 328) 3 dL_law_327 rfl rfl rfl ?_
  refine ok_iconst (q := 329) (x := 1) dL_law_328 rfl rfl (by decide) ?_
  refine ok_iadd (q := 330) dL_law_329 rfl hb1.1 ?_
  refine ok_iaload (q := 331) (v := ls_y xs (i + 1)) dL_law_330 rfl hs.1 hb1.2.1 (hs.lt hb1.2.2) (hs.2.2 _ hb1.2.1 hb1.2.2) ?_
  refine ok_aload_n (q := 332) 0 dL_law_331 rfl rfl rfl ?_
  refine ok_iload_n (q := 333) 3 dL_law_332 rfl rfl rfl ?_
  refine ok_iconst (q := 334) (x := 2) dL_law_333 rfl rfl (by decide) ?_
  refine ok_iadd (q := 335) dL_law_334 rfl hb2.1 ?_
  refine ok_iaload (q := 336) (v := ls_y xs (i + 2)) dL_law_335 rfl hs.1 hb2.2.1 (hs.lt hb2.2.2) (hs.2.2 _ hb2.2.1 hb2.2.2) ?_
  refine fun _ => ok_callV (q := 339) (as := [qi (ls_y xs (i + 1)), qi (ls_y xs (i + 2))]) (st := []) dL_law_336 rfl mo_L_27 k2 rfl (Nat.le_of_ble_eq_true rfl) rfl rfl (Nat.le_of_ble_eq_true rfl) (Nat.le_of_ble_eq_true rfl) (Nat.le_of_ble_eq_true rfl) hc0 hz0 (ct_X11_store (N := N) k2 hx) (fun v' n'' K'' I'' F'' hp => ?_)
  obtain ⟨rfl, rfl, rfl, rfl, rfl⟩ := hp
  refine ok_scr (fun hs2 => ?_)
  refine ok_aload_n (G := True) (q := 340) 2 dL_law_339 rfl rfl rfl ?_ trivial
  refine ok_aload_n (q := 341) 0 dL_law_340 rfl rfl rfl ?_
  refine ok_iload_n (q := 342) 3 dL_law_341 rfl rfl rfl ?_
  refine ok_iconst (q := 343) (x := 1) dL_law_342 rfl rfl (by decide) ?_
  refine ok_iadd (q := 344) dL_law_343 rfl hb1.1 ?_
  refine ok_iaload (q := 345) (v := ls_y xs (i + 1)) dL_law_344 rfl hs2.1 hb1.2.1 (hs2.lt hb1.2.2) (hs2.2.2 _ hb1.2.1 hb1.2.2) ?_
  refine ok_aload_n (q := 346) 0 dL_law_345 rfl rfl rfl ?_
  refine ok_iload_n (q := 347) 3 dL_law_346 rfl rfl rfl ?_
  refine ok_iconst (q := 348) (x := 2) dL_law_347 rfl rfl (by decide) ?_
  refine ok_iadd (q := 349) dL_law_348 rfl hb2.1 ?_
  refine ok_iaload (q := 350) (v := ls_y xs (i + 2)) dL_law_349 rfl hs2.1 hb2.2.1 (hs2.lt hb2.2.2) (hs2.2.2 _ hb2.2.1 hb2.2.2) ?_
  refine fun _ => ok_callV (q := 353) (as := [qi (ls_y xs (i + 1)), qi (ls_y xs (i + 2))]) (st := [qi v]) dL_law_350 rfl mo_L_30 k85 rfl (Nat.le_of_ble_eq_true rfl) rfl rfl (Nat.le_of_ble_eq_true rfl) (Nat.le_of_ble_eq_true rfl) (Nat.le_of_ble_eq_true rfl) hc1 hz1 (ct_X12_store (N := N) k85 hy) (fun v' n'' K'' I'' F'' hp => ?_)
  obtain ⟨rfl, rfl, rfl, rfl, rfl⟩ := hp
  exact ok_icmp_eq (q := 1275) (q2 := 356) (x := v) (y := v) (t1 := some ()) (t2 := none) (r0 := ()) dL_law_353 rfl rfl (fun _ => kk _ _ _ _ _ _ hF) (fun g => by cases g) (if_pos rfl)
theorem lc_side (hI : yIv n K F I c z k) (hs : ySc L xs K I) (hb : li_b L i) (hk : k ≤ 511) (hN : 2000000 < N) (kk : ∀ n K F I c z, yIv n K F I c z (k + 1) → Ok η l M_law (lq η L xs) 1275 [(0, qr 1), (1, qr 2), (2, qr 85), (3, qi i)] [] n K I F c z) : Ok η l M_law (lq η L xs) 358 [(0, qr 1), (1, qr 2), (2, qr 85), (3, qi i)] [] n K I F c z := by
  have hN1 : 100 < N := by omega
  have hk1 : k + 1 ≤ 512 := by omega
  have hk0 : k ≤ 512 := by omega
  obtain ⟨hb1, hb2, hb3, hb4⟩ := hb
  obtain ⟨R, C, A, lk, U, S, hS, h⟩ := hI.ex
  have k2 : (K 2).1 = 11 := by rw [cwK_2 h.a.c]
  have k85 : (K 85).1 = 12 := by rw [mwK_85 h.a.m]
  have hc0 := hI.rc hk0
  have hz0 := hI.rz
  have hc1 := hc0
  have hz1 := hz0
  obtain ⟨v, J, J', hx, hy, h2, hst⟩ := e_side (N := N) (x := (ls_y xs (i + 1))) h 
  have hF := yIv.nx hI h2 (by clear h h2; omega) hst
  refine ok_aload_n (G := True) (q := 359) 1 dL_law_358 rfl rfl rfl ?_ trivial
  refine ok_aload_n (q := 360) 0 dL_law_359 rfl rfl rfl ?_
  refine ok_iload_n (q := 361) 3 dL_law_360 rfl rfl rfl ?_
  refine ok_iconst (q := 362) (x := 1) dL_law_361 rfl rfl (by decide) ?_
  refine ok_iadd (q := 363) dL_law_362 rfl hb1.1 ?_
  refine ok_iaload (q := 364) (v := ls_y xs (i + 1)) dL_law_363 rfl hs.1 hb1.2.1 (hs.lt hb1.2.2) (hs.2.2 _ hb1.2.1 hb1.2.2) ?_
  refine fun _ => ok_callV (q := 367) (as := [qi (ls_y xs (i + 1))]) (st := []) dL_law_364 rfl mo_L_31 k2 rfl (Nat.le_of_ble_eq_true rfl) rfl rfl (Nat.le_of_ble_eq_true rfl) (Nat.le_of_ble_eq_true rfl) (Nat.le_of_ble_eq_true rfl) hc0 hz0 (ct_X11_side (N := N) k2 hx) (fun v' n'' K'' I'' F'' hp => ?_)
  obtain ⟨rfl, rfl, rfl, rfl, rfl⟩ := hp
  refine ok_scr (fun hs2 => ?_)
  refine ok_aload_n (G := True) (q := 368) 2 dL_law_367 rfl rfl rfl ?_ trivial
  refine ok_aload_n (q := 369) 0 dL_law_368 rfl rfl rfl ?_
  refine ok_iload_n (q := 370) 3 dL_law_369 rfl rfl rfl ?_
  refine ok_iconst (q := 371) (x := 1) dL_law_370 rfl rfl (by decide) ?_
  refine ok_iadd (q := 372) dL_law_371 rfl hb1.1 ?_
  refine ok_iaload (q := 373) (v := ls_y xs (i + 1)) dL_law_372 rfl hs2.1 hb1.2.1 (hs2.lt hb1.2.2) (hs2.2.2 _ hb1.2.1 hb1.2.2) ?_
  refine fun _ => ok_callV (q := 376) (as := [qi (ls_y xs (i + 1))]) (st := [qi v]) dL_law_373 rfl mo_L_35 k85 rfl (Nat.le_of_ble_eq_true rfl) rfl rfl (Nat.le_of_ble_eq_true rfl) (Nat.le_of_ble_eq_true rfl) (Nat.le_of_ble_eq_true rfl) hc1 hz1 (ct_X12_side (N := N) k85 hy) (fun v' n'' K'' I'' F'' hp => ?_)
  obtain ⟨rfl, rfl, rfl, rfl, rfl⟩ := hp
  exact ok_icmp_eq (q := 1275) (q2 := 379) (x := v) (y := v) (t1 := some ()) (t2 := none) (r0 := ()) dL_law_376 rfl rfl (fun _ => kk _ _ _ _ _ _ hF) (fun g => by cases g) (if_pos rfl)
theorem lc_rule (hI : yIv n K F I c z k) (hs : ySc L xs K I) (hb : li_b L i) (hk : k ≤ 511) (hN : 2000000 < N) (kk : ∀ n K F I c z, yIv n K F I c z (k + 1) → Ok η l M_law (lq η L xs) 1275 [(0, qr 1), (1, qr 2), (2, qr 85), (3, qi i)] [] n K I F c z) : Ok η l M_law (lq η L xs) 381 [(0, qr 1), (1, qr 2), (2, qr 85), (3, qi i)] [] n K I F c z := by
  have hN1 : 100 < N := by omega
  have hk1 : k + 1 ≤ 512 := by omega
  have hk0 : k ≤ 512 := by omega
  obtain ⟨hb1, hb2, hb3, hb4⟩ := hb
  obtain ⟨R, C, A, lk, U, S, hS, h⟩ := hI.ex
  have k2 : (K 2).1 = 11 := by rw [cwK_2 h.a.c]
  have k85 : (K 85).1 = 12 := by rw [mwK_85 h.a.m]
  have hc0 := hI.rc hk0
  have hz0 := hI.rz
  have hc1 := hc0
  have hz1 := hz0
  obtain ⟨v, J, J', hx, hy, ⟨U2, h2⟩, hst⟩ := e_rule (N := N) (x := (ls_y xs (i + 1))) h 
  have hF := yIv.nx hI h2 (by clear h h2; omega) hst
  refine ok_aload_n (G := True) (q := 382) 1 dL_law_381 rfl rfl rfl ?_ trivial
  refine ok_aload_n (q := 383) 0 dL_law_382 rfl rfl rfl ?_
  refine ok_iload_n (q := 384) 3 dL_law_383 rfl rfl rfl ?_
  refine ok_iconst (q := 385) (x := 1) dL_law_384 rfl rfl (by decide) ?_
  refine ok_iadd (q := 386) dL_law_385 rfl hb1.1 ?_
  refine ok_iaload (q := 387) (v := ls_y xs (i + 1)) dL_law_386 rfl hs.1 hb1.2.1 (hs.lt hb1.2.2) (hs.2.2 _ hb1.2.1 hb1.2.2) ?_
  refine fun _ => ok_callV (q := 390) (as := [qi (ls_y xs (i + 1))]) (st := []) dL_law_387 rfl mo_L_36 k2 rfl (Nat.le_of_ble_eq_true rfl) rfl rfl (Nat.le_of_ble_eq_true rfl) (Nat.le_of_ble_eq_true rfl) (Nat.le_of_ble_eq_true rfl) hc0 hz0 (ct_X11_rule (N := N) k2 hx) (fun v' n'' K'' I'' F'' hp => ?_)
  obtain ⟨rfl, rfl, rfl, rfl, rfl⟩ := hp
  refine ok_scr (fun hs2 => ?_)
  refine ok_aload_n (G := True) (q := 391) 2 dL_law_390 rfl rfl rfl ?_ trivial
  refine ok_aload_n (q := 392) 0 dL_law_391 rfl rfl rfl ?_
  refine ok_iload_n (q := 393) 3 dL_law_392 rfl rfl rfl ?_
  refine ok_iconst (q := 394) (x := 1) dL_law_393 rfl rfl (by decide) ?_
  refine ok_iadd (q := 395) dL_law_394 rfl hb1.1 ?_
  refine ok_iaload (q := 396) (v := ls_y xs (i + 1)) dL_law_395 rfl hs2.1 hb1.2.1 (hs2.lt hb1.2.2) (hs2.2.2 _ hb1.2.1 hb1.2.2) ?_
  refine fun _ => ok_callV (q := 399) (as := [qi (ls_y xs (i + 1))]) (st := [qi v]) dL_law_396 rfl mo_L_39 k85 rfl (Nat.le_of_ble_eq_true rfl) rfl rfl (Nat.le_of_ble_eq_true rfl) (Nat.le_of_ble_eq_true rfl) (Nat.le_of_ble_eq_true rfl) hc1 hz1 (ct_X12_rule (N := N) k85 hy) (fun v' n'' K'' I'' F'' hp => ?_)
  obtain ⟨rfl, rfl, rfl, rfl, rfl⟩ := hp
  exact ok_icmp_eq (q := 1275) (q2 := 402) (x := v) (y := v) (t1 := some ()) (t2 := none) (r0 := ()) dL_law_399 rfl rfl (fun _ => kk _ _ _ _ _ _ hF) (fun g => by cases g) (if_pos rfl)
theorem lc_rounds (hI : yIv n K F I c z k) (hs : ySc L xs K I) (hb : li_b L i) (hk : k ≤ 511) (hN : 2000000 < N) (kk : ∀ n K F I c z, yIv n K F I c z (k + 1) → Ok η l M_law (lq η L xs) 1275 [(0, qr 1), (1, qr 2), (2, qr 85), (3, qi i)] [] n K I F c z) : Ok η l M_law (lq η L xs) 404 [(0, qr 1), (1, qr 2), (2, qr 85), (3, qi i)] [] n K I F c z := by
  have hN1 : 100 < N := by omega
  have hk1 : k + 1 ≤ 512 := by omega
  have hk0 : k ≤ 512 := by omega
  obtain ⟨hb1, hb2, hb3, hb4⟩ := hb
  obtain ⟨R, C, A, lk, U, S, hS, h⟩ := hI.ex
  have k2 : (K 2).1 = 11 := by rw [cwK_2 h.a.c]
  have k85 : (K 85).1 = 12 := by rw [mwK_85 h.a.m]
  have hc0 := hI.rc hk0
  have hz0 := hI.rz
  have hc1 := hc0
  have hz1 := hz0
  obtain ⟨v, J, J', hx, hy, ⟨U2, h2⟩, hst⟩ := e_rounds (N := N) (x := (ls_y xs (i + 1))) h 
  have hF := yIv.nx hI h2 (by clear h h2; omega) hst
  refine ok_aload_n (G := True) (q := 405) 1 dL_law_404 rfl rfl rfl ?_ trivial
  refine ok_aload_n (q := 406) 0 dL_law_405 rfl rfl rfl ?_
  refine ok_iload_n (q := 407) 3 dL_law_406 rfl rfl rfl ?_
  refine ok_iconst (q := 408) (x := 1) dL_law_407 rfl rfl (by decide) ?_
  refine ok_iadd (q := 409) dL_law_408 rfl hb1.1 ?_
  refine ok_iaload (q := 410) (v := ls_y xs (i + 1)) dL_law_409 rfl hs.1 hb1.2.1 (hs.lt hb1.2.2) (hs.2.2 _ hb1.2.1 hb1.2.2) ?_
  refine fun _ => ok_callV (q := 413) (as := [qi (ls_y xs (i + 1))]) (st := []) dL_law_410 rfl mo_L_40 k2 rfl (Nat.le_of_ble_eq_true rfl) rfl rfl (Nat.le_of_ble_eq_true rfl) (Nat.le_of_ble_eq_true rfl) (Nat.le_of_ble_eq_true rfl) hc0 hz0 (ct_X11_rounds (N := N) k2 hx) (fun v' n'' K'' I'' F'' hp => ?_)
  obtain ⟨rfl, rfl, rfl, rfl, rfl⟩ := hp
  refine ok_scr (fun hs2 => ?_)
  refine ok_aload_n (G := True) (q := 414) 2 dL_law_413 rfl rfl rfl ?_ trivial
  refine ok_aload_n (q := 415) 0 dL_law_414 rfl rfl rfl ?_
  refine ok_iload_n (q := 416) 3 dL_law_415 rfl rfl rfl ?_
  refine ok_iconst (q := 417) (x := 1) dL_law_416 rfl rfl (by decide) ?_
  refine ok_iadd (q := 418) dL_law_417 rfl hb1.1 ?_
  refine ok_iaload (q := 419) (v := ls_y xs (i + 1)) dL_law_418 rfl hs2.1 hb1.2.1 (hs2.lt hb1.2.2) (hs2.2.2 _ hb1.2.1 hb1.2.2) ?_
  refine fun _ => ok_callV (q := 422) (as := [qi (ls_y xs (i + 1))]) (st := [qi v]) dL_law_419 rfl mo_L_43 k85 rfl (Nat.le_of_ble_eq_true rfl) rfl rfl (Nat.le_of_ble_eq_true rfl) (Nat.le_of_ble_eq_true rfl) (Nat.le_of_ble_eq_true rfl) hc1 hz1 (ct_X12_rounds (N := N) k85 hy) (fun v' n'' K'' I'' F'' hp => ?_)
  obtain ⟨rfl, rfl, rfl, rfl, rfl⟩ := hp
  exact ok_icmp_eq (q := 1275) (q2 := 425) (x := v) (y := v) (t1 := some ()) (t2 := none) (r0 := ()) dL_law_422 rfl rfl (fun _ => kk _ _ _ _ _ _ hF) (fun g => by cases g) (if_pos rfl)
theorem lc_takes (hI : yIv n K F I c z k) (hs : ySc L xs K I) (hb : li_b L i) (hk : k ≤ 511) (hN : 2000000 < N) (kk : ∀ n K F I c z, yIv n K F I c z (k + 1) → Ok η l M_law (lq η L xs) 1275 [(0, qr 1), (1, qr 2), (2, qr 85), (3, qi i)] [] n K I F c z) : Ok η l M_law (lq η L xs) 427 [(0, qr 1), (1, qr 2), (2, qr 85), (3, qi i)] [] n K I F c z := by
  have hN1 : 100 < N := by omega
  have hk1 : k + 1 ≤ 512 := by omega
  have hk0 : k ≤ 512 := by omega
  obtain ⟨hb1, hb2, hb3, hb4⟩ := hb
  obtain ⟨R, C, A, lk, U, S, hS, h⟩ := hI.ex
  have k2 : (K 2).1 = 11 := by rw [cwK_2 h.a.c]
  have k85 : (K 85).1 = 12 := by rw [mwK_85 h.a.m]
  have hc0 := hI.rc hk0
  have hz0 := hI.rz
  have hc1 := hc0
  have hz1 := hz0
  obtain ⟨v, J, J', hx, hy, ⟨U2, h2⟩, hst⟩ := e_takes (N := N) (x := (ls_y xs (i + 1))) (y := (ls_y xs (i + 2))) h 
  have hF := yIv.nx hI h2 (by clear h h2; omega) hst
  refine ok_aload_n (G := True) (q := 428) 1 dL_law_427 rfl rfl rfl ?_ trivial
  refine ok_aload_n (q := 429) 0 dL_law_428 rfl rfl rfl ?_
  refine ok_iload_n (q := 430) 3 dL_law_429 rfl rfl rfl ?_
  refine ok_iconst (q := 431) (x := 1) dL_law_430 rfl rfl (by decide) ?_
  refine ok_iadd (q := 432) dL_law_431 rfl hb1.1 ?_
  refine ok_iaload (q := 433) (v := ls_y xs (i + 1)) dL_law_432 rfl hs.1 hb1.2.1 (hs.lt hb1.2.2) (hs.2.2 _ hb1.2.1 hb1.2.2) ?_
  refine ok_aload_n (q := 434) 0 dL_law_433 rfl rfl rfl ?_
  refine ok_iload_n (q := 435) 3 dL_law_434 rfl rfl rfl ?_
  refine ok_iconst (q := 436) (x := 2) dL_law_435 rfl rfl (by decide) ?_
  refine ok_iadd (q := 437) dL_law_436 rfl hb2.1 ?_
  refine ok_iaload (q := 438) (v := ls_y xs (i + 2)) dL_law_437 rfl hs.1 hb2.2.1 (hs.lt hb2.2.2) (hs.2.2 _ hb2.2.1 hb2.2.2) ?_
  refine fun _ => ok_callV (q := 441) (as := [qi (ls_y xs (i + 1)), qi (ls_y xs (i + 2))]) (st := []) dL_law_438 rfl mo_L_44 k2 rfl (Nat.le_of_ble_eq_true rfl) rfl rfl (Nat.le_of_ble_eq_true rfl) (Nat.le_of_ble_eq_true rfl) (Nat.le_of_ble_eq_true rfl) hc0 hz0 (ct_X11_takes (N := N) k2 hx) (fun v' n'' K'' I'' F'' hp => ?_)
  obtain ⟨rfl, rfl, rfl, rfl, rfl⟩ := hp
  refine ok_scr (fun hs2 => ?_)
  refine ok_aload_n (G := True) (q := 442) 2 dL_law_441 rfl rfl rfl ?_ trivial
  refine ok_aload_n (q := 443) 0 dL_law_442 rfl rfl rfl ?_
  refine ok_iload_n (q := 444) 3 dL_law_443 rfl rfl rfl ?_
  refine ok_iconst (q := 445) (x := 1) dL_law_444 rfl rfl (by decide) ?_
  refine ok_iadd (q := 446) dL_law_445 rfl hb1.1 ?_
  refine ok_iaload (q := 447) (v := ls_y xs (i + 1)) dL_law_446 rfl hs2.1 hb1.2.1 (hs2.lt hb1.2.2) (hs2.2.2 _ hb1.2.1 hb1.2.2) ?_
  refine ok_aload_n (q := 448) 0 dL_law_447 rfl rfl rfl ?_
  refine ok_iload_n (q := 449) 3 dL_law_448 rfl rfl rfl ?_
  refine ok_iconst (q := 450) (x := 2) dL_law_449 rfl rfl (by decide) ?_
  refine ok_iadd (q := 451) dL_law_450 rfl hb2.1 ?_
  refine ok_iaload (q := 452) (v := ls_y xs (i + 2)) dL_law_451 rfl hs2.1 hb2.2.1 (hs2.lt hb2.2.2) (hs2.2.2 _ hb2.2.1 hb2.2.2) ?_
  refine fun _ => ok_callV (q := 455) (as := [qi (ls_y xs (i + 1)), qi (ls_y xs (i + 2))]) (st := [qi v]) dL_law_452 rfl mo_L_47 k85 rfl (Nat.le_of_ble_eq_true rfl) rfl rfl (Nat.le_of_ble_eq_true rfl) (Nat.le_of_ble_eq_true rfl) (Nat.le_of_ble_eq_true rfl) hc1 hz1 (ct_X12_takes (N := N) k85 hy) (fun v' n'' K'' I'' F'' hp => ?_)
  obtain ⟨rfl, rfl, rfl, rfl, rfl⟩ := hp
  exact ok_icmp_eq (q := 1275) (q2 := 458) (x := v) (y := v) (t1 := some ()) (t2 := none) (r0 := ()) dL_law_455 rfl rfl (fun _ => kk _ _ _ _ _ _ hF) (fun g => by cases g) (if_pos rfl)
theorem lc_least (hI : yIv n K F I c z k) (hs : ySc L xs K I) (hb : li_b L i) (hk : k ≤ 511) (hN : 2000000 < N) (kk : ∀ n K F I c z, yIv n K F I c z (k + 1) → Ok η l M_law (lq η L xs) 1275 [(0, qr 1), (1, qr 2), (2, qr 85), (3, qi i)] [] n K I F c z) : Ok η l M_law (lq η L xs) 460 [(0, qr 1), (1, qr 2), (2, qr 85), (3, qi i)] [] n K I F c z := by
  have hN1 : 100 < N := by omega
  have hk1 : k + 1 ≤ 512 := by omega
  have hk0 : k ≤ 512 := by omega
  obtain ⟨hb1, hb2, hb3, hb4⟩ := hb
  obtain ⟨R, C, A, lk, U, S, hS, h⟩ := hI.ex
  have k2 : (K 2).1 = 11 := by rw [cwK_2 h.a.c]
  have k85 : (K 85).1 = 12 := by rw [mwK_85 h.a.m]
  have hc0 := hI.rc hk0
  have hz0 := hI.rz
  have hc1 := hc0
  have hz1 := hz0
  obtain ⟨v, J, J', hx, hy, ⟨U2, h2⟩, hst⟩ := e_least (N := N) (x := (ls_y xs (i + 1))) h 
  have hF := yIv.nx hI h2 (by clear h h2; omega) hst
  refine ok_aload_n (G := True) (q := 461) 1 dL_law_460 rfl rfl rfl ?_ trivial
  refine ok_aload_n (q := 462) 0 dL_law_461 rfl rfl rfl ?_
  refine ok_iload_n (q := 463) 3 dL_law_462 rfl rfl rfl ?_
  refine ok_iconst (q := 464) (x := 1) dL_law_463 rfl rfl (by decide) ?_
  refine ok_iadd (q := 465) dL_law_464 rfl hb1.1 ?_
  refine ok_iaload (q := 466) (v := ls_y xs (i + 1)) dL_law_465 rfl hs.1 hb1.2.1 (hs.lt hb1.2.2) (hs.2.2 _ hb1.2.1 hb1.2.2) ?_
  refine fun _ => ok_callV (q := 469) (as := [qi (ls_y xs (i + 1))]) (st := []) dL_law_466 rfl mo_L_48 k2 rfl (Nat.le_of_ble_eq_true rfl) rfl rfl (Nat.le_of_ble_eq_true rfl) (Nat.le_of_ble_eq_true rfl) (Nat.le_of_ble_eq_true rfl) hc0 hz0 (ct_X11_least (N := N) k2 hx) (fun v' n'' K'' I'' F'' hp => ?_)
  obtain ⟨rfl, rfl, rfl, rfl, rfl⟩ := hp
  refine ok_scr (fun hs2 => ?_)
  refine ok_aload_n (G := True) (q := 470) 2 dL_law_469 rfl rfl rfl ?_ trivial
  refine ok_aload_n (q := 471) 0 dL_law_470 rfl rfl rfl ?_
  refine ok_iload_n (q := 472) 3 dL_law_471 rfl rfl rfl ?_
  refine ok_iconst (q := 473) (x := 1) dL_law_472 rfl rfl (by decide) ?_
  refine ok_iadd (q := 474) dL_law_473 rfl hb1.1 ?_
  refine ok_iaload (q := 475) (v := ls_y xs (i + 1)) dL_law_474 rfl hs2.1 hb1.2.1 (hs2.lt hb1.2.2) (hs2.2.2 _ hb1.2.1 hb1.2.2) ?_
  refine fun _ => ok_callV (q := 478) (as := [qi (ls_y xs (i + 1))]) (st := [qi v]) dL_law_475 rfl mo_L_51 k85 rfl (Nat.le_of_ble_eq_true rfl) rfl rfl (Nat.le_of_ble_eq_true rfl) (Nat.le_of_ble_eq_true rfl) (Nat.le_of_ble_eq_true rfl) hc1 hz1 (ct_X12_least (N := N) k85 hy) (fun v' n'' K'' I'' F'' hp => ?_)
  obtain ⟨rfl, rfl, rfl, rfl, rfl⟩ := hp
  exact ok_icmp_eq (q := 1275) (q2 := 481) (x := v) (y := v) (t1 := some ()) (t2 := none) (r0 := ()) dL_law_478 rfl rfl (fun _ => kk _ _ _ _ _ _ hF) (fun g => by cases g) (if_pos rfl)
theorem lc_feeding (hI : yIv n K F I c z k) (hs : ySc L xs K I) (hb : li_b L i) (hk : k ≤ 511) (hN : 2000000 < N) (kk : ∀ n K F I c z, yIv n K F I c z (k + 1) → Ok η l M_law (lq η L xs) 1275 [(0, qr 1), (1, qr 2), (2, qr 85), (3, qi i)] [] n K I F c z) : Ok η l M_law (lq η L xs) 483 [(0, qr 1), (1, qr 2), (2, qr 85), (3, qi i)] [] n K I F c z := by
  have hN1 : 100 < N := by omega
  have hk1 : k + 1 ≤ 512 := by omega
  have hk0 : k ≤ 512 := by omega
  obtain ⟨hb1, hb2, hb3, hb4⟩ := hb
  obtain ⟨R, C, A, lk, U, S, hS, h⟩ := hI.ex
  have k2 : (K 2).1 = 11 := by rw [cwK_2 h.a.c]
  have k85 : (K 85).1 = 12 := by rw [mwK_85 h.a.m]
  have hc0 := hI.rc hk0
  have hz0 := hI.rz
  have hc1 := hc0
  have hz1 := hz0
  obtain ⟨v, J, J', hx, hy, ⟨U2, h2⟩, hst⟩ := e_feeding (N := N) (x := (ls_y xs (i + 1))) h 
  have hF := yIv.nx hI h2 (by clear h h2; omega) hst
  refine ok_aload_n (G := True) (q := 484) 1 dL_law_483 rfl rfl rfl ?_ trivial
  refine ok_aload_n (q := 485) 0 dL_law_484 rfl rfl rfl ?_
  refine ok_iload_n (q := 486) 3 dL_law_485 rfl rfl rfl ?_
  refine ok_iconst (q := 487) (x := 1) dL_law_486 rfl rfl (by decide) ?_
  refine ok_iadd (q := 488) dL_law_487 rfl hb1.1 ?_
  refine ok_iaload (q := 489) (v := ls_y xs (i + 1)) dL_law_488 rfl hs.1 hb1.2.1 (hs.lt hb1.2.2) (hs.2.2 _ hb1.2.1 hb1.2.2) ?_
  refine fun _ => ok_callV (q := 492) (as := [qi (ls_y xs (i + 1))]) (st := []) dL_law_489 rfl mo_L_52 k2 rfl (Nat.le_of_ble_eq_true rfl) rfl rfl (Nat.le_of_ble_eq_true rfl) (Nat.le_of_ble_eq_true rfl) (Nat.le_of_ble_eq_true rfl) hc0 hz0 (ct_X11_feeding (N := N) k2 hx) (fun v' n'' K'' I'' F'' hp => ?_)
  obtain ⟨rfl, rfl, rfl, rfl, rfl⟩ := hp
  refine ok_scr (fun hs2 => ?_)
  refine ok_aload_n (G := True) (q := 493) 2 dL_law_492 rfl rfl rfl ?_ trivial
  refine ok_aload_n (q := 494) 0 dL_law_493 rfl rfl rfl ?_
  refine ok_iload_n (q := 495) 3 dL_law_494 rfl rfl rfl ?_
  refine ok_iconst (q := 496) (x := 1) dL_law_495 rfl rfl (by decide) ?_
  refine ok_iadd (q := 497) dL_law_496 rfl hb1.1 ?_
  refine ok_iaload (q := 498) (v := ls_y xs (i + 1)) dL_law_497 rfl hs2.1 hb1.2.1 (hs2.lt hb1.2.2) (hs2.2.2 _ hb1.2.1 hb1.2.2) ?_
  refine fun _ => ok_callV (q := 501) (as := [qi (ls_y xs (i + 1))]) (st := [qi v]) dL_law_498 rfl mo_L_55 k85 rfl (Nat.le_of_ble_eq_true rfl) rfl rfl (Nat.le_of_ble_eq_true rfl) (Nat.le_of_ble_eq_true rfl) (Nat.le_of_ble_eq_true rfl) hc1 hz1 (ct_X12_feeding (N := N) k85 hy) (fun v' n'' K'' I'' F'' hp => ?_)
  obtain ⟨rfl, rfl, rfl, rfl, rfl⟩ := hp
  exact ok_icmp_eq (q := 1275) (q2 := 504) (x := v) (y := v) (t1 := some ()) (t2 := none) (r0 := ()) dL_law_501 rfl rfl (fun _ => kk _ _ _ _ _ _ hF) (fun g => by cases g) (if_pos rfl)
theorem lc_ends (hI : yIv n K F I c z k) (hs : ySc L xs K I) (hb : li_b L i) (hk : k ≤ 511) (hN : 2000000 < N) (kk : ∀ n K F I c z, yIv n K F I c z (k + 1) → Ok η l M_law (lq η L xs) 1275 [(0, qr 1), (1, qr 2), (2, qr 85), (3, qi i)] [] n K I F c z) : Ok η l M_law (lq η L xs) 506 [(0, qr 1), (1, qr 2), (2, qr 85), (3, qi i)] [] n K I F c z := by
  have hN1 : 100 < N := by omega
  have hk1 : k + 1 ≤ 512 := by omega
  have hk0 : k ≤ 512 := by omega
  obtain ⟨hb1, hb2, hb3, hb4⟩ := hb
  obtain ⟨R, C, A, lk, U, S, hS, h⟩ := hI.ex
  have k2 : (K 2).1 = 11 := by rw [cwK_2 h.a.c]
  have k85 : (K 85).1 = 12 := by rw [mwK_85 h.a.m]
  have hc0 := hI.rc hk0
  have hz0 := hI.rz
  have hc1 := hc0
  have hz1 := hz0
  obtain ⟨v, J, J', hx, hy, ⟨U2, h2⟩, hst⟩ := e_ends (N := N) (x := (ls_y xs (i + 1))) h 
  have hF := yIv.nx hI h2 (by clear h h2; omega) hst
  refine ok_aload_n (G := True) (q := 507) 1 dL_law_506 rfl rfl rfl ?_ trivial
  refine ok_aload_n (q := 508) 0 dL_law_507 rfl rfl rfl ?_
  refine ok_iload_n (q := 509) 3 dL_law_508 rfl rfl rfl ?_
  refine ok_iconst (q := 510) (x := 1) dL_law_509 rfl rfl (by decide) ?_
  refine ok_iadd (q := 511) dL_law_510 rfl hb1.1 ?_
  refine ok_iaload (q := 512) (v := ls_y xs (i + 1)) dL_law_511 rfl hs.1 hb1.2.1 (hs.lt hb1.2.2) (hs.2.2 _ hb1.2.1 hb1.2.2) ?_
  refine fun _ => ok_callV (q := 515) (as := [qi (ls_y xs (i + 1))]) (st := []) dL_law_512 rfl mo_L_56 k2 rfl (Nat.le_of_ble_eq_true rfl) rfl rfl (Nat.le_of_ble_eq_true rfl) (Nat.le_of_ble_eq_true rfl) (Nat.le_of_ble_eq_true rfl) hc0 hz0 (ct_X11_ends (N := N) k2 hx) (fun v' n'' K'' I'' F'' hp => ?_)
  obtain ⟨rfl, rfl, rfl, rfl, rfl⟩ := hp
  refine ok_scr (fun hs2 => ?_)
  refine ok_aload_n (G := True) (q := 516) 2 dL_law_515 rfl rfl rfl ?_ trivial
  refine ok_aload_n (q := 517) 0 dL_law_516 rfl rfl rfl ?_
  refine ok_iload_n (q := 518) 3 dL_law_517 rfl rfl rfl ?_
  refine ok_iconst (q := 519) (x := 1) dL_law_518 rfl rfl (by decide) ?_
  refine ok_iadd (q := 520) dL_law_519 rfl hb1.1 ?_
  refine ok_iaload (q := 521) (v := ls_y xs (i + 1)) dL_law_520 rfl hs2.1 hb1.2.1 (hs2.lt hb1.2.2) (hs2.2.2 _ hb1.2.1 hb1.2.2) ?_
  refine fun _ => ok_callV (q := 524) (as := [qi (ls_y xs (i + 1))]) (st := [qi v]) dL_law_521 rfl mo_L_59 k85 rfl (Nat.le_of_ble_eq_true rfl) rfl rfl (Nat.le_of_ble_eq_true rfl) (Nat.le_of_ble_eq_true rfl) (Nat.le_of_ble_eq_true rfl) hc1 hz1 (ct_X12_ends (N := N) k85 hy) (fun v' n'' K'' I'' F'' hp => ?_)
  obtain ⟨rfl, rfl, rfl, rfl, rfl⟩ := hp
  exact ok_icmp_eq (q := 1275) (q2 := 527) (x := v) (y := v) (t1 := some ()) (t2 := none) (r0 := ()) dL_law_524 rfl rfl (fun _ => kk _ _ _ _ _ _ hF) (fun g => by cases g) (if_pos rfl)
theorem lc_move (hI : yIv n K F I c z k) (hs : ySc L xs K I) (hb : li_b L i) (hk : k ≤ 511) (hN : 2000000 < N) (kk : ∀ n K F I c z, yIv n K F I c z (k + 1) → Ok η l M_law (lq η L xs) 1275 [(0, qr 1), (1, qr 2), (2, qr 85), (3, qi i)] [] n K I F c z) : Ok η l M_law (lq η L xs) 529 [(0, qr 1), (1, qr 2), (2, qr 85), (3, qi i)] [] n K I F c z := by
  have hN1 : 100 < N := by omega
  have hk1 : k + 1 ≤ 512 := by omega
  have hk0 : k ≤ 512 := by omega
  obtain ⟨hb1, hb2, hb3, hb4⟩ := hb
  obtain ⟨R, C, A, lk, U, S, hS, h⟩ := hI.ex
  have k2 : (K 2).1 = 11 := by rw [cwK_2 h.a.c]
  obtain ⟨v, n', K', J, F', c', z', J', hx, hy, ⟨h2, hr⟩, hst⟩ := e_move (N := N) (x := (ls_y xs (i + 1))) (y := (ls_y xs (i + 2))) h hN
  have hF := yIv.nxA hI h2 (by clear h h2; omega) hst hr
  have k85 : (K' 85).1 = 12 := by rw [mwK_85 h2.a.m]
  have hc0 : c + c' ≤ M_law.2.2.2.2.1.cells := hF.rc hk1
  have hz0 : z + z' ≤ M_law.2.2.2.2.1.slots := hF.rz
  have hc1 : c + c' + 0 ≤ M_law.2.2.2.2.1.cells := hF.rc hk1
  have hz1 : z + z' + 0 ≤ M_law.2.2.2.2.1.slots := hF.rz
  refine ok_aload_n (G := True) (q := 530) 1 dL_law_529 rfl rfl rfl ?_ trivial
  refine ok_aload_n (q := 531) 0 dL_law_530 rfl rfl rfl ?_
  refine ok_iload_n (q := 532) 3 dL_law_531 rfl rfl rfl ?_
  refine ok_iconst (q := 533) (x := 1) dL_law_532 rfl rfl (by decide) ?_
  refine ok_iadd (q := 534) dL_law_533 rfl hb1.1 ?_
  refine ok_iaload (q := 535) (v := ls_y xs (i + 1)) dL_law_534 rfl hs.1 hb1.2.1 (hs.lt hb1.2.2) (hs.2.2 _ hb1.2.1 hb1.2.2) ?_
  refine ok_aload_n (q := 536) 0 dL_law_535 rfl rfl rfl ?_
  refine ok_iload_n (q := 537) 3 dL_law_536 rfl rfl rfl ?_
  refine ok_iconst (q := 538) (x := 2) dL_law_537 rfl rfl (by decide) ?_
  refine ok_iadd (q := 539) dL_law_538 rfl hb2.1 ?_
  refine ok_iaload (q := 540) (v := ls_y xs (i + 2)) dL_law_539 rfl hs.1 hb2.2.1 (hs.lt hb2.2.2) (hs.2.2 _ hb2.2.1 hb2.2.2) ?_
  refine fun _ => ?_
  have hct1 := ct_X11_move (η := η) (l := l) (N := N) k2 hx
  refine ok_callV (mc := c') (ms := z') (q := 543) (as := [qi (ls_y xs (i + 1)), qi (ls_y xs (i + 2))]) (st := []) dL_law_540 rfl mo_L_60 k2 rfl (Nat.le_of_ble_eq_true rfl) rfl rfl (Nat.le_of_ble_eq_true rfl) (Nat.le_of_ble_eq_true rfl) (Nat.le_of_ble_eq_true rfl) hc0 hz0 hct1 (fun v' n'' K'' I'' F'' hp => ?_)
  obtain ⟨rfl, rfl, rfl, rfl, rfl⟩ := hp
  refine ok_scr (fun hs2 => ?_)
  refine ok_aload_n (G := True) (q := 544) 2 dL_law_543 rfl rfl rfl ?_ trivial
  refine ok_aload_n (q := 545) 0 dL_law_544 rfl rfl rfl ?_
  refine ok_iload_n (q := 546) 3 dL_law_545 rfl rfl rfl ?_
  refine ok_iconst (q := 547) (x := 1) dL_law_546 rfl rfl (by decide) ?_
  refine ok_iadd (q := 548) dL_law_547 rfl hb1.1 ?_
  refine ok_iaload (q := 549) (v := ls_y xs (i + 1)) dL_law_548 rfl hs2.1 hb1.2.1 (hs2.lt hb1.2.2) (hs2.2.2 _ hb1.2.1 hb1.2.2) ?_
  refine ok_aload_n (q := 550) 0 dL_law_549 rfl rfl rfl ?_
  refine ok_iload_n (q := 551) 3 dL_law_550 rfl rfl rfl ?_
  refine ok_iconst (q := 552) (x := 2) dL_law_551 rfl rfl (by decide) ?_
  refine ok_iadd (q := 553) dL_law_552 rfl hb2.1 ?_
  refine ok_iaload (q := 554) (v := ls_y xs (i + 2)) dL_law_553 rfl hs2.1 hb2.2.1 (hs2.lt hb2.2.2) (hs2.2.2 _ hb2.2.1 hb2.2.2) ?_
  refine fun _ => ok_callV (mc := 0) (ms := 0) (q := 557) (as := [qi (ls_y xs (i + 1)), qi (ls_y xs (i + 2))]) (st := [qi v]) dL_law_554 rfl mo_L_63 k85 rfl (Nat.le_of_ble_eq_true rfl) rfl rfl (Nat.le_of_ble_eq_true rfl) (Nat.le_of_ble_eq_true rfl) (Nat.le_of_ble_eq_true rfl) hc1 hz1 (ct_X12_move (N := N) k85 hy) (fun v' n'' K'' I'' F'' hp => ?_)
  obtain ⟨rfl, rfl, rfl, rfl, rfl⟩ := hp
  exact ok_icmp_eq (q := 1275) (q2 := 560) (x := v) (y := v) (t1 := some ()) (t2 := none) (r0 := ()) dL_law_557 rfl rfl (fun _ => kk _ _ _ _ _ _ hF) (fun g => by cases g) (if_pos rfl)
theorem lc_undo (hI : yIv n K F I c z k) (hs : ySc L xs K I) (hb : li_b L i) (hk : k ≤ 511) (hN : 2000000 < N) (kk : ∀ n K F I c z, yIv n K F I c z (k + 1) → Ok η l M_law (lq η L xs) 1275 [(0, qr 1), (1, qr 2), (2, qr 85), (3, qi i)] [] n K I F c z) : Ok η l M_law (lq η L xs) 562 [(0, qr 1), (1, qr 2), (2, qr 85), (3, qi i)] [] n K I F c z := by
  have hN1 : 100 < N := by omega
  have hk1 : k + 1 ≤ 512 := by omega
  have hk0 : k ≤ 512 := by omega
  obtain ⟨hb1, hb2, hb3, hb4⟩ := hb
  obtain ⟨R, C, A, lk, U, S, hS, h⟩ := hI.ex
  have k2 : (K 2).1 = 11 := by rw [cwK_2 h.a.c]
  have k85 : (K 85).1 = 12 := by rw [mwK_85 h.a.m]
  have hc0 := hI.rc hk0
  have hz0 := hI.rz
  have hc1 := hc0
  have hz1 := hz0
  obtain ⟨v, J, J', hx, hy, h2, hst⟩ := e_undo (N := N)  h hN1
  have hF := yIv.nx hI h2 (by clear h h2; omega) hst
  refine ok_aload_n (G := True) (q := 563) 1 dL_law_562 rfl rfl rfl ?_ trivial
  refine fun _ => ok_callV (q := 566) (as := []) (st := []) dL_law_563 rfl mo_L_64 k2 rfl (Nat.le_of_ble_eq_true rfl) rfl rfl (Nat.le_of_ble_eq_true rfl) (Nat.le_of_ble_eq_true rfl) (Nat.le_of_ble_eq_true rfl) hc0 hz0 (ct_X11_undo (N := N) k2 hx) (fun v' n'' K'' I'' F'' hp => ?_)
  obtain ⟨rfl, rfl, rfl, rfl, rfl⟩ := hp
  refine ok_scr (fun hs2 => ?_)
  refine ok_aload_n (G := True) (q := 567) 2 dL_law_566 rfl rfl rfl ?_ trivial
  refine fun _ => ok_callV (q := 570) (as := []) (st := [qi v]) dL_law_567 rfl mo_L_68 k85 rfl (Nat.le_of_ble_eq_true rfl) rfl rfl (Nat.le_of_ble_eq_true rfl) (Nat.le_of_ble_eq_true rfl) (Nat.le_of_ble_eq_true rfl) hc1 hz1 (ct_X12_undo (N := N) k85 hy) (fun v' n'' K'' I'' F'' hp => ?_)
  obtain ⟨rfl, rfl, rfl, rfl, rfl⟩ := hp
  exact ok_icmp_eq (q := 1275) (q2 := 573) (x := v) (y := v) (t1 := some ()) (t2 := none) (r0 := ()) dL_law_570 rfl rfl (fun _ => kk _ _ _ _ _ _ hF) (fun g => by cases g) (if_pos rfl)
theorem lc_redo (hI : yIv n K F I c z k) (hs : ySc L xs K I) (hb : li_b L i) (hk : k ≤ 511) (hN : 2000000 < N) (kk : ∀ n K F I c z, yIv n K F I c z (k + 1) → Ok η l M_law (lq η L xs) 1275 [(0, qr 1), (1, qr 2), (2, qr 85), (3, qi i)] [] n K I F c z) : Ok η l M_law (lq η L xs) 575 [(0, qr 1), (1, qr 2), (2, qr 85), (3, qi i)] [] n K I F c z := by
  have hN1 : 100 < N := by omega
  have hk1 : k + 1 ≤ 512 := by omega
  have hk0 : k ≤ 512 := by omega
  obtain ⟨hb1, hb2, hb3, hb4⟩ := hb
  obtain ⟨R, C, A, lk, U, S, hS, h⟩ := hI.ex
  have k2 : (K 2).1 = 11 := by rw [cwK_2 h.a.c]
  have k85 : (K 85).1 = 12 := by rw [mwK_85 h.a.m]
  have hc0 := hI.rc hk0
  have hz0 := hI.rz
  have hc1 := hc0
  have hz1 := hz0
  obtain ⟨v, J, J', hx, hy, h2, hst⟩ := e_redo (N := N)  h hN
  have hF := yIv.nx hI h2 (by clear h h2; omega) hst
  refine ok_aload_n (G := True) (q := 576) 1 dL_law_575 rfl rfl rfl ?_ trivial
  refine fun _ => ok_callV (q := 579) (as := []) (st := []) dL_law_576 rfl mo_L_69 k2 rfl (Nat.le_of_ble_eq_true rfl) rfl rfl (Nat.le_of_ble_eq_true rfl) (Nat.le_of_ble_eq_true rfl) (Nat.le_of_ble_eq_true rfl) hc0 hz0 (ct_X11_redo (N := N) k2 hx) (fun v' n'' K'' I'' F'' hp => ?_)
  obtain ⟨rfl, rfl, rfl, rfl, rfl⟩ := hp
  refine ok_scr (fun hs2 => ?_)
  refine ok_aload_n (G := True) (q := 580) 2 dL_law_579 rfl rfl rfl ?_ trivial
  refine fun _ => ok_callV (q := 583) (as := []) (st := [qi v]) dL_law_580 rfl mo_L_72 k85 rfl (Nat.le_of_ble_eq_true rfl) rfl rfl (Nat.le_of_ble_eq_true rfl) (Nat.le_of_ble_eq_true rfl) (Nat.le_of_ble_eq_true rfl) hc1 hz1 (ct_X12_redo (N := N) k85 hy) (fun v' n'' K'' I'' F'' hp => ?_)
  obtain ⟨rfl, rfl, rfl, rfl, rfl⟩ := hp
  exact ok_icmp_eq (q := 1275) (q2 := 586) (x := v) (y := v) (t1 := some ()) (t2 := none) (r0 := ()) dL_law_583 rfl rfl (fun _ => kk _ _ _ _ _ _ hF) (fun g => by cases g) (if_pos rfl)
end LAWC
