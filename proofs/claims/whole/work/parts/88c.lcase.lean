set_option maxHeartbeats 2000000 in
set_option maxRecDepth 100000 in
/-- the law, ranks -/
theorem law_ranks {p : Program} {l : Launch} {e : Env} {s : State} {m : MethodId} {below : List Frame} {meth : Method} {c : Code} {dC : Nat → ClassId} {dI : Nat → Nat → Nat} {b L : Nat} {xs : Nat → Int32} (hL : L ≤ 4096) (C0 : lw_At p s m meth c b L xs) {i p0 m0 : Nat} (hi : i + 8 ≤ L) (nx9 : ∀ (H : Heap) (locs : List Loc) (ls : Array Slot), Lw dC dI s p0 m0 H → va_S (fun q : Nat => s.heap.size ≤ q) s.heap H locs → lv_has ls 4 [(0, .ref b), (1, .ref p0), (2, .ref m0), (3, .int (nI i))] → W p l e room_1 s m #[Value.ref b] below meth c H locs 33 29176 (lw_Z below #[Value.ref b] s) (F0 m 532 ls [])) (H : Heap) (locs : List Loc) (ls : Array Slot) (hI : Lw dC dI s p0 m0 H) (hS : va_S (fun q : Nat => s.heap.size ≤ q) s.heap H locs) (hl : lv_has ls 4 [(0, .ref b), (1, .ref p0), (2, .ref m0), (3, .int (nI i))]) : W p l e room_1 s m #[Value.ref b] below meth c H locs 33 29176 (lw_Z below #[Value.ref b] s) (F0 m 376 ls []) := by
  obtain ⟨hx, hb, hr, hml, hown, hts0, hX, hbl, hlocks, hgv⟩ := C0
  have hts : ∀ w ∈ wsL_law, w.before #[Value.ref b] s = true := fun w h => hts0 w (wsL_law_in w h)
  clear hts0 hgv
  have hown : s.vm.findClass RL = some m.cls := hown
  have hb : c.code = cL_law := hb
  have hA : ∀ q : Nat, s.heap.size ≤ q → (fun q : Nat => s.heap.size ≤ q) q := fun _ h => h
  have hbA : ¬ (fun q : Nat => s.heap.size ≤ q) b := Nat.not_le.mpr hbl
  obtain ⟨vn, ct, ft, fb, qt, qg, h0, rt, cB, cI, cA, cJ, qc, qh, r, gl, T, me, nw, u, tw, iv, hd, M, aN, aR, aX, aO, aP, aH, aL, aW, cI2, cJ2, nm, an, rw, nx, og, no, rc, nc, hgh, lws, dh, dl, fT, fB, wd, hv1, hv3, hc, hN, hR, hP, hK, hD⟩ := hI
  refine lv_aload_n hx hb dL_law_376 rfl (lv_at hl 1 rfl) ?_
  refine lv_aload_n hx hb dL_law_377 rfl (lv_at hl 0 rfl) ?_
  refine lv_iload_n hx hb dL_law_378 rfl (lv_at hl 3 rfl) ?_
  refine lv_iconst (v := nI 1) hx hb dL_law_379 (by decide) ?_
  refine lv_iadd hx hb dL_law_380 ?_
  refine lv_topi (fun z_1 ez_1 => ?_)
  obtain rfl : z_1 = nI (i + 1) := ez_1.trans (nI_add i 1)
  refine va_sld hx hb hX hbl hbA hS (vp_in_nI (show i + 1 < L by omega) (by omega)) dL_law_381 ?_
  refine lv_topi (fun z_2 ez_2 => ?_)
  obtain rfl : z_2 = xs (i + 1) := ez_2.trans (by rw [nI_clamp (by omega)])
  refine lv_aload_n hx hb dL_law_382 rfl (lv_at hl 0 rfl) ?_
  refine lv_iload_n hx hb dL_law_383 rfl (lv_at hl 3 rfl) ?_
  refine lv_iconst (v := nI 2) hx hb dL_law_384 (by decide) ?_
  refine lv_iadd hx hb dL_law_385 ?_
  refine lv_topi (fun z_3 ez_3 => ?_)
  obtain rfl : z_3 = nI (i + 2) := ez_3.trans (nI_add i 2)
  refine va_sld hx hb hX hbl hbA hS (vp_in_nI (show i + 2 < L by omega) (by omega)) dL_law_386 ?_
  refine lv_topi (fun z_4 ez_4 => ?_)
  obtain rfl : z_4 = xs (i + 2) := ez_4.trans (by rw [nI_clamp (by omega)])
  refine lv_aload_n hx hb dL_law_387 rfl (lv_at hl 0 rfl) ?_
  refine lv_iload_n hx hb dL_law_388 rfl (lv_at hl 3 rfl) ?_
  refine lv_iconst (v := nI 3) hx hb dL_law_389 (by decide) ?_
  refine lv_iadd hx hb dL_law_390 ?_
  refine lv_topi (fun z_5 ez_5 => ?_)
  obtain rfl : z_5 = nI (i + 3) := ez_5.trans (nI_add i 3)
  refine va_sld hx hb hX hbl hbA hS (vp_in_nI (show i + 3 < L by omega) (by omega)) dL_law_391 ?_
  refine lv_topi (fun z_6 ez_6 => ?_)
  obtain rfl : z_6 = xs (i + 3) := ez_6.trans (by rw [nI_clamp (by omega)])
  refine lv_aload_n hx hb dL_law_392 rfl (lv_at hl 0 rfl) ?_
  refine lv_iload_n hx hb dL_law_393 rfl (lv_at hl 3 rfl) ?_
  refine lv_iconst (v := nI 4) hx hb dL_law_394 (by decide) ?_
  refine lv_iadd hx hb dL_law_395 ?_
  refine lv_topi (fun z_7 ez_7 => ?_)
  obtain rfl : z_7 = nI (i + 4) := ez_7.trans (nI_add i 4)
  refine va_sld hx hb hX hbl hbA hS (vp_in_nI (show i + 4 < L by omega) (by omega)) dL_law_396 ?_
  refine lv_topi (fun z_8 ez_8 => ?_)
  obtain rfl : z_8 = xs (i + 4) := ez_8.trans (by rw [nI_clamp (by omega)])
  have hPc : va_P (dC, dI) vwCl (rfX p0 qt qg h0 rt cB cI vn ct ft fb gl T ++ wgW h0 qc qh r cA cI cJ me nw u tw iv hd M) H := va_Pl hP
  have hKc := hK.sub (tys' := ((cB, .array .int) :: (cI, .int) :: wgT cA cI cJ)) [0, 1, 2, 3, 4] rfl
  have hFc : ∀ q, va_A (rfX p0 qt qg h0 rt cB cI vn ct ft fb gl T ++ wgW h0 qc qh r cA cI cJ me nw u tw iv hd M) H.size q → (fun q : Nat => s.heap.size ≤ q) q := va_Al hD hS hA
  refine va_calli (va_runV (As := [.int (xs (i + 1)), .int (xs (i + 2)), .int (xs (i + 3)), .int (xs (i + 4))]) (rest := []) ⟨hx, hb, hml, hown, hts⟩ (c_X1_ranks l dC dI H.size p0 qt qg h0 rt cB cI cA cJ qc qh r vn ct ft fb gl T me nw u tw iv hd M (xs (i + 1)) (xs (i + 2)) (xs (i + 3)) (xs (i + 4)) hv1 hv3 hc (okT_N hR hN)) (cwV 4 hts gL_law_X1_ranks rfl rfl rfl (by decide +kernel) ⟨Nat.le_of_ble_eq_true rfl, Nat.le_of_ble_eq_true rfl⟩) ⟨fun a U g mk q => by obtain ⟨q0, q1, qP, qK, qD⟩ := q; exact ⟨q0, q1, qP, va_K.moved (u := U) (U := U.calling g mk a) (Vm.Alike.refl U.vm) qK, qD⟩, va_recv hKc hPc (ci := 1) (q0 := 0) rfl rfl, fun U hU hW => ⟨rfl, by rw [hU], by rw [hU]; exact hPc, va_K.moved hW.alike hKc, va_Dl hD⟩⟩ rfl rfl hl.1 rfl (lv_room (Nat.le_of_ble_eq_true rfl)) dL_law_397 ⟨Nat.le_of_ble_eq_true rfl, Nat.le_of_ble_eq_true rfl⟩) hS (fun q _ h => hFc q h) hFc (fun r8 v8 t H1 locs ht hvm hw8 hB hz1 hk1 hS => ?_)
  obtain ⟨hP1, hK1, hD1⟩ := hB
  rw [ht] at hP1
  obtain ⟨hP, hD⟩ := jn_appL hP hD hk1 hFc hP1 hD1
  clear hPc hKc hP1 hD1 hK1 hFc hk1 hz1 ht hvm
  generalize H1 = H at hP hS ⊢
  have hP : va_P (dC, dI) vwCl ((rfX p0 qt qg h0 rt cB cI vn ct ft fb v8.1 T ++ wgW h0 qc qh r cA cI cJ v8.2.1 v8.2.2.1 v8.2.2.2.2.2.1 v8.2.2.2.2.2.2.1 v8.2.2.2.2.2.2.2.1 v8.2.2.2.2.1 v8.2.2.2.1) ++ mdW m0 aN aR aX aO aP aH aL aW cI2 cJ2 vn ct nm ft fb an rw nx og no rc nc hgh lws dh dl fT fB wd) H := hP
  have hD : va_D (fun q : Nat => s.heap.size ≤ q) ((rfX p0 qt qg h0 rt cB cI vn ct ft fb v8.1 T ++ wgW h0 qc qh r cA cI cJ v8.2.1 v8.2.2.1 v8.2.2.2.2.2.1 v8.2.2.2.2.2.2.1 v8.2.2.2.2.2.2.2.1 v8.2.2.2.2.1 v8.2.2.2.1) ++ mdW m0 aN aR aX aO aP aH aL aW cI2 cJ2 vn ct nm ft fb an rw nx og no rc nc hgh lws dh dl fT fB wd) := hD
  refine lv_aload_n hx hb dL_law_400 rfl (lv_at hl 2 rfl) ?_
  refine lv_aload_n hx hb dL_law_401 rfl (lv_at hl 0 rfl) ?_
  refine lv_iload_n hx hb dL_law_402 rfl (lv_at hl 3 rfl) ?_
  refine lv_iconst (v := nI 1) hx hb dL_law_403 (by decide) ?_
  refine lv_iadd hx hb dL_law_404 ?_
  refine lv_topi (fun z_9 ez_9 => ?_)
  obtain rfl : z_9 = nI (i + 1) := ez_9.trans (nI_add i 1)
  refine va_sld hx hb hX hbl hbA hS (vp_in_nI (show i + 1 < L by omega) (by omega)) dL_law_405 ?_
  refine lv_topi (fun z_10 ez_10 => ?_)
  obtain rfl : z_10 = xs (i + 1) := ez_10.trans (by rw [nI_clamp (by omega)])
  refine lv_aload_n hx hb dL_law_406 rfl (lv_at hl 0 rfl) ?_
  refine lv_iload_n hx hb dL_law_407 rfl (lv_at hl 3 rfl) ?_
  refine lv_iconst (v := nI 2) hx hb dL_law_408 (by decide) ?_
  refine lv_iadd hx hb dL_law_409 ?_
  refine lv_topi (fun z_11 ez_11 => ?_)
  obtain rfl : z_11 = nI (i + 2) := ez_11.trans (nI_add i 2)
  refine va_sld hx hb hX hbl hbA hS (vp_in_nI (show i + 2 < L by omega) (by omega)) dL_law_410 ?_
  refine lv_topi (fun z_12 ez_12 => ?_)
  obtain rfl : z_12 = xs (i + 2) := ez_12.trans (by rw [nI_clamp (by omega)])
  refine lv_aload_n hx hb dL_law_411 rfl (lv_at hl 0 rfl) ?_
  refine lv_iload_n hx hb dL_law_412 rfl (lv_at hl 3 rfl) ?_
  refine lv_iconst (v := nI 3) hx hb dL_law_413 (by decide) ?_
  refine lv_iadd hx hb dL_law_414 ?_
  refine lv_topi (fun z_13 ez_13 => ?_)
  obtain rfl : z_13 = nI (i + 3) := ez_13.trans (nI_add i 3)
  refine va_sld hx hb hX hbl hbA hS (vp_in_nI (show i + 3 < L by omega) (by omega)) dL_law_415 ?_
  refine lv_topi (fun z_14 ez_14 => ?_)
  obtain rfl : z_14 = xs (i + 3) := ez_14.trans (by rw [nI_clamp (by omega)])
  refine lv_aload_n hx hb dL_law_416 rfl (lv_at hl 0 rfl) ?_
  refine lv_iload_n hx hb dL_law_417 rfl (lv_at hl 3 rfl) ?_
  refine lv_iconst (v := nI 4) hx hb dL_law_418 (by decide) ?_
  refine lv_iadd hx hb dL_law_419 ?_
  refine lv_topi (fun z_15 ez_15 => ?_)
  obtain rfl : z_15 = nI (i + 4) := ez_15.trans (nI_add i 4)
  refine va_sld hx hb hX hbl hbA hS (vp_in_nI (show i + 4 < L by omega) (by omega)) dL_law_420 ?_
  refine lv_topi (fun z_16 ez_16 => ?_)
  obtain rfl : z_16 = xs (i + 4) := ez_16.trans (by rw [nI_clamp (by omega)])
  have hPc : va_P (dC, dI) vwCl (mdW m0 aN aR aX aO aP aH aL aW cI2 cJ2 vn ct nm ft fb an rw nx og no rc nc hgh lws dh dl fT fB wd) H := va_Pr hP
  have hKc := hK.sub (tys' := [(cI2, .int), (cJ2, .long)]) [5, 6] rfl
  have hFc : ∀ q, va_A (mdW m0 aN aR aX aO aP aH aL aW cI2 cJ2 vn ct nm ft fb an rw nx og no rc nc hgh lws dh dl fT fB wd) H.size q → (fun q : Nat => s.heap.size ≤ q) q := va_Ar hD hS hA
  refine va_calli (va_runV (As := [.int (xs (i + 1)), .int (xs (i + 2)), .int (xs (i + 3)), .int (xs (i + 4))]) (rest := [.int r8]) ⟨hx, hb, hml, hown, hts⟩ (c_X2_ranks l dC dI H.size m0 aN aR aX aO aP aH aL aW cI2 cJ2 vn ct nm ft fb an rw nx og no rc nc hgh lws dh dl fT fB wd (xs (i + 1)) (xs (i + 2)) (xs (i + 3)) (xs (i + 4)) hv1 hv3 hc hN) (cwV 4 hts gL_law_X2_ranks rfl rfl rfl (by decide +kernel) ⟨Nat.le_of_ble_eq_true rfl, Nat.le_of_ble_eq_true rfl⟩) ⟨fun a U g mk q => by obtain ⟨q0, q1, qP, qK, qD⟩ := q; exact ⟨q0, q1, qP, va_K.moved (u := U) (U := U.calling g mk a) (Vm.Alike.refl U.vm) qK, qD⟩, va_recv hKc hPc (ci := 2) (q0 := 0) rfl rfl, fun U hU hW => ⟨rfl, by rw [hU], by rw [hU]; exact hPc, va_K.moved hW.alike hKc, va_Dr hD⟩⟩ rfl rfl hl.1 rfl (lv_room (Nat.le_of_ble_eq_true rfl)) dL_law_421 ⟨Nat.le_of_ble_eq_true rfl, Nat.le_of_ble_eq_true rfl⟩) hS (fun q _ h => hFc q h) hFc (fun r9 v9 t H1 locs ht hvm hw9 hB hz1 hk1 hS => ?_)
  obtain ⟨hP1, hK1, hD1⟩ := hB
  rw [ht] at hP1
  obtain ⟨hP, hD⟩ := jn_app hP hD hk1 hFc hP1 hD1
  clear hPc hKc hP1 hD1 hK1 hFc hk1 hz1 ht hvm
  generalize H1 = H at hP hS ⊢
  have hP : va_P (dC, dI) vwCl ((rfX p0 qt qg h0 rt cB cI vn ct ft fb v8.1 T ++ wgW h0 qc qh r cA cI cJ v8.2.1 v8.2.2.1 v8.2.2.2.2.2.1 v8.2.2.2.2.2.2.1 v8.2.2.2.2.2.2.2.1 v8.2.2.2.2.1 v8.2.2.2.1) ++ mdW m0 aN aR aX aO aP aH aL aW cI2 cJ2 vn ct nm ft fb an v9.2.1 v9.2.2.2.1 v9.2.2.1 v9.2.2.2.2.1 v9.1 v9.2.2.2.2.2.2.2.2.2.1 v9.2.2.2.2.2.1 v9.2.2.2.2.2.2.1 v9.2.2.2.2.2.2.2.1 v9.2.2.2.2.2.2.2.2.1 v9.2.2.2.2.2.2.2.2.2.2.1 v9.2.2.2.2.2.2.2.2.2.2.2.1 v9.2.2.2.2.2.2.2.2.2.2.2.2) H := hP
  have hD : va_D (fun q : Nat => s.heap.size ≤ q) ((rfX p0 qt qg h0 rt cB cI vn ct ft fb v8.1 T ++ wgW h0 qc qh r cA cI cJ v8.2.1 v8.2.2.1 v8.2.2.2.2.2.1 v8.2.2.2.2.2.2.1 v8.2.2.2.2.2.2.2.1 v8.2.2.2.2.1 v8.2.2.2.1) ++ mdW m0 aN aR aX aO aP aH aL aW cI2 cJ2 vn ct nm ft fb an v9.2.1 v9.2.2.2.1 v9.2.2.1 v9.2.2.2.2.1 v9.1 v9.2.2.2.2.2.2.2.2.2.1 v9.2.2.2.2.2.1 v9.2.2.2.2.2.2.1 v9.2.2.2.2.2.2.2.1 v9.2.2.2.2.2.2.2.2.1 v9.2.2.2.2.2.2.2.2.2.2.1 v9.2.2.2.2.2.2.2.2.2.2.2.1 v9.2.2.2.2.2.2.2.2.2.2.2.2) := hD
  refine lv_icmp_eq (tgt := 532) hx hb dL_law_424 (by decide) (fun _ => ?_) (fun c9 => absurd (ans_ranks hv3 hR (gl_wd gl wd _ _ _ _ _ _) (gl_wd2 gl wd _ _ _) hw8 hw9) c9)
  exact nx9 H _ ls ⟨vn, ct, ft, fb, qt, qg, h0, rt, cB, cI, cA, cJ, qc, qh, r, v8.1, T, v8.2.1, v8.2.2.1, v8.2.2.2.2.2.1, v8.2.2.2.2.2.2.1, v8.2.2.2.2.2.2.2.1, v8.2.2.2.2.1, v8.2.2.2.1, aN, aR, aX, aO, aP, aH, aL, aW, cI2, cJ2, nm, an, v9.2.1, v9.2.2.2.1, v9.2.2.1, v9.2.2.2.2.1, v9.1, v9.2.2.2.2.2.2.2.2.2.1, v9.2.2.2.2.2.1, v9.2.2.2.2.2.2.1, v9.2.2.2.2.2.2.2.1, v9.2.2.2.2.2.2.2.2.1, v9.2.2.2.2.2.2.2.2.2.2.1, v9.2.2.2.2.2.2.2.2.2.2.2.1, v9.2.2.2.2.2.2.2.2.2.2.2.2, hv1, hv3, hc, hN, hR, hP, hK, hD⟩ hS hl
set_option maxHeartbeats 2000000 in
set_option maxRecDepth 100000 in
/-- the law, least -/
theorem law_least {p : Program} {l : Launch} {e : Env} {s : State} {m : MethodId} {below : List Frame} {meth : Method} {c : Code} {dC : Nat → ClassId} {dI : Nat → Nat → Nat} {b L : Nat} {xs : Nat → Int32} (hL : L ≤ 4096) (C0 : lw_At p s m meth c b L xs) {i p0 m0 : Nat} (hi : i + 8 ≤ L) (nx9 : ∀ (H : Heap) (locs : List Loc) (ls : Array Slot), Lw dC dI s p0 m0 H → va_S (fun q : Nat => s.heap.size ≤ q) s.heap H locs → lv_has ls 4 [(0, .ref b), (1, .ref p0), (2, .ref m0), (3, .int (nI i))] → W p l e room_1 s m #[Value.ref b] below meth c H locs 33 29176 (lw_Z below #[Value.ref b] s) (F0 m 532 ls [])) (H : Heap) (locs : List Loc) (ls : Array Slot) (hI : Lw dC dI s p0 m0 H) (hS : va_S (fun q : Nat => s.heap.size ≤ q) s.heap H locs) (hl : lv_has ls 4 [(0, .ref b), (1, .ref p0), (2, .ref m0), (3, .int (nI i))]) : W p l e room_1 s m #[Value.ref b] below meth c H locs 33 29176 (lw_Z below #[Value.ref b] s) (F0 m 429 ls []) := by
  obtain ⟨hx, hb, hr, hml, hown, hts0, hX, hbl, hlocks, hgv⟩ := C0
  have hts : ∀ w ∈ wsL_law, w.before #[Value.ref b] s = true := fun w h => hts0 w (wsL_law_in w h)
  clear hts0 hgv
  have hown : s.vm.findClass RL = some m.cls := hown
  have hb : c.code = cL_law := hb
  have hA : ∀ q : Nat, s.heap.size ≤ q → (fun q : Nat => s.heap.size ≤ q) q := fun _ h => h
  have hbA : ¬ (fun q : Nat => s.heap.size ≤ q) b := Nat.not_le.mpr hbl
  obtain ⟨vn, ct, ft, fb, qt, qg, h0, rt, cB, cI, cA, cJ, qc, qh, r, gl, T, me, nw, u, tw, iv, hd, M, aN, aR, aX, aO, aP, aH, aL, aW, cI2, cJ2, nm, an, rw, nx, og, no, rc, nc, hgh, lws, dh, dl, fT, fB, wd, hv1, hv3, hc, hN, hR, hP, hK, hD⟩ := hI
  refine lv_aload_n hx hb dL_law_429 rfl (lv_at hl 1 rfl) ?_
  refine lv_aload_n hx hb dL_law_430 rfl (lv_at hl 0 rfl) ?_
  refine lv_iload_n hx hb dL_law_431 rfl (lv_at hl 3 rfl) ?_
  refine lv_iconst (v := nI 1) hx hb dL_law_432 (by decide) ?_
  refine lv_iadd hx hb dL_law_433 ?_
  refine lv_topi (fun z_1 ez_1 => ?_)
  obtain rfl : z_1 = nI (i + 1) := ez_1.trans (nI_add i 1)
  refine va_sld hx hb hX hbl hbA hS (vp_in_nI (show i + 1 < L by omega) (by omega)) dL_law_434 ?_
  refine lv_topi (fun z_2 ez_2 => ?_)
  obtain rfl : z_2 = xs (i + 1) := ez_2.trans (by rw [nI_clamp (by omega)])
  refine lv_aload_n hx hb dL_law_435 rfl (lv_at hl 0 rfl) ?_
  refine lv_iload_n hx hb dL_law_436 rfl (lv_at hl 3 rfl) ?_
  refine lv_iconst (v := nI 2) hx hb dL_law_437 (by decide) ?_
  refine lv_iadd hx hb dL_law_438 ?_
  refine lv_topi (fun z_3 ez_3 => ?_)
  obtain rfl : z_3 = nI (i + 2) := ez_3.trans (nI_add i 2)
  refine va_sld hx hb hX hbl hbA hS (vp_in_nI (show i + 2 < L by omega) (by omega)) dL_law_439 ?_
  refine lv_topi (fun z_4 ez_4 => ?_)
  obtain rfl : z_4 = xs (i + 2) := ez_4.trans (by rw [nI_clamp (by omega)])
  refine lv_aload_n hx hb dL_law_440 rfl (lv_at hl 0 rfl) ?_
  refine lv_iload_n hx hb dL_law_441 rfl (lv_at hl 3 rfl) ?_
  refine lv_iconst (v := nI 3) hx hb dL_law_442 (by decide) ?_
  refine lv_iadd hx hb dL_law_443 ?_
  refine lv_topi (fun z_5 ez_5 => ?_)
  obtain rfl : z_5 = nI (i + 3) := ez_5.trans (nI_add i 3)
  refine va_sld hx hb hX hbl hbA hS (vp_in_nI (show i + 3 < L by omega) (by omega)) dL_law_444 ?_
  refine lv_topi (fun z_6 ez_6 => ?_)
  obtain rfl : z_6 = xs (i + 3) := ez_6.trans (by rw [nI_clamp (by omega)])
  refine lv_aload_n hx hb dL_law_445 rfl (lv_at hl 0 rfl) ?_
  refine lv_iload_n hx hb dL_law_446 rfl (lv_at hl 3 rfl) ?_
  refine lv_iconst (v := nI 4) hx hb dL_law_447 (by decide) ?_
  refine lv_iadd hx hb dL_law_448 ?_
  refine lv_topi (fun z_7 ez_7 => ?_)
  obtain rfl : z_7 = nI (i + 4) := ez_7.trans (nI_add i 4)
  refine va_sld hx hb hX hbl hbA hS (vp_in_nI (show i + 4 < L by omega) (by omega)) dL_law_449 ?_
  refine lv_topi (fun z_8 ez_8 => ?_)
  obtain rfl : z_8 = xs (i + 4) := ez_8.trans (by rw [nI_clamp (by omega)])
  refine lv_aload_n hx hb dL_law_450 rfl (lv_at hl 0 rfl) ?_
  refine lv_iload_n hx hb dL_law_451 rfl (lv_at hl 3 rfl) ?_
  refine lv_iconst (v := nI 5) hx hb dL_law_452 (by decide) ?_
  refine lv_iadd hx hb dL_law_453 ?_
  refine lv_topi (fun z_9 ez_9 => ?_)
  obtain rfl : z_9 = nI (i + 5) := ez_9.trans (nI_add i 5)
  refine va_sld hx hb hX hbl hbA hS (vp_in_nI (show i + 5 < L by omega) (by omega)) dL_law_454 ?_
  refine lv_topi (fun z_10 ez_10 => ?_)
  obtain rfl : z_10 = xs (i + 5) := ez_10.trans (by rw [nI_clamp (by omega)])
  refine lv_aload_n hx hb dL_law_455 rfl (lv_at hl 0 rfl) ?_
  refine lv_iload_n hx hb dL_law_456 rfl (lv_at hl 3 rfl) ?_
  refine lv_bipush (v := nI 6) hx hb dL_law_457 (by decide) ?_
  refine lv_iadd hx hb dL_law_459 ?_
  refine lv_topi (fun z_11 ez_11 => ?_)
  obtain rfl : z_11 = nI (i + 6) := ez_11.trans (nI_add i 6)
  refine va_sld hx hb hX hbl hbA hS (vp_in_nI (show i + 6 < L by omega) (by omega)) dL_law_460 ?_
  refine lv_topi (fun z_12 ez_12 => ?_)
  obtain rfl : z_12 = xs (i + 6) := ez_12.trans (by rw [nI_clamp (by omega)])
  have hPc : va_P (dC, dI) vwCl (rfX p0 qt qg h0 rt cB cI vn ct ft fb gl T ++ wgW h0 qc qh r cA cI cJ me nw u tw iv hd M) H := va_Pl hP
  have hKc := hK.sub (tys' := ((cB, .array .int) :: (cI, .int) :: wgT cA cI cJ)) [0, 1, 2, 3, 4] rfl
  have hFc : ∀ q, va_A (rfX p0 qt qg h0 rt cB cI vn ct ft fb gl T ++ wgW h0 qc qh r cA cI cJ me nw u tw iv hd M) H.size q → (fun q : Nat => s.heap.size ≤ q) q := va_Al hD hS hA
  refine va_calli (va_runV (As := [.int (xs (i + 1)), .int (xs (i + 2)), .int (xs (i + 3)), .int (xs (i + 4)), .int (xs (i + 5)), .int (xs (i + 6))]) (rest := []) ⟨hx, hb, hml, hown, hts⟩ (c_X1_least l dC dI H.size p0 qt qg h0 rt cB cI cA cJ qc qh r vn ct ft fb gl T me nw u tw iv hd M (xs (i + 1)) (xs (i + 2)) (xs (i + 3)) (xs (i + 4)) (xs (i + 5)) (xs (i + 6)) hv1 hv3 hc (okT_N hR hN)) (cwV 6 hts gL_law_X1_least rfl rfl rfl (by decide +kernel) ⟨Nat.le_of_ble_eq_true rfl, Nat.le_of_ble_eq_true rfl⟩) ⟨fun a U g mk q => by obtain ⟨q0, q1, qP, qK, qD⟩ := q; exact ⟨q0, q1, qP, va_K.moved (u := U) (U := U.calling g mk a) (Vm.Alike.refl U.vm) qK, qD⟩, va_recv hKc hPc (ci := 1) (q0 := 0) rfl rfl, fun U hU hW => ⟨rfl, by rw [hU], by rw [hU]; exact hPc, va_K.moved hW.alike hKc, va_Dl hD⟩⟩ rfl rfl hl.1 rfl (lv_room (Nat.le_of_ble_eq_true rfl)) dL_law_461 ⟨Nat.le_of_ble_eq_true rfl, Nat.le_of_ble_eq_true rfl⟩) hS (fun q _ h => hFc q h) hFc (fun r8 v8 t H1 locs ht hvm hw8 hB hz1 hk1 hS => ?_)
  obtain ⟨hP1, hK1, hD1⟩ := hB
  rw [ht] at hP1
  obtain ⟨hP, hD⟩ := jn_appL hP hD hk1 hFc hP1 hD1
  clear hPc hKc hP1 hD1 hK1 hFc hk1 hz1 ht hvm
  generalize H1 = H at hP hS ⊢
  have hP : va_P (dC, dI) vwCl ((rfX p0 qt qg h0 rt cB cI vn ct v8.1 v8.2.1 v8.2.2.1 T ++ wgW h0 qc qh r cA cI cJ v8.2.2.2.1 v8.2.2.2.2.1 v8.2.2.2.2.2.2.2.1 v8.2.2.2.2.2.2.2.2.1 v8.2.2.2.2.2.2.2.2.2.1 v8.2.2.2.2.2.2.1 v8.2.2.2.2.2.1) ++ mdW m0 aN aR aX aO aP aH aL aW cI2 cJ2 vn ct nm ft fb an rw nx og no rc nc hgh lws dh dl fT fB wd) H := hP
  have hD : va_D (fun q : Nat => s.heap.size ≤ q) ((rfX p0 qt qg h0 rt cB cI vn ct v8.1 v8.2.1 v8.2.2.1 T ++ wgW h0 qc qh r cA cI cJ v8.2.2.2.1 v8.2.2.2.2.1 v8.2.2.2.2.2.2.2.1 v8.2.2.2.2.2.2.2.2.1 v8.2.2.2.2.2.2.2.2.2.1 v8.2.2.2.2.2.2.1 v8.2.2.2.2.2.1) ++ mdW m0 aN aR aX aO aP aH aL aW cI2 cJ2 vn ct nm ft fb an rw nx og no rc nc hgh lws dh dl fT fB wd) := hD
  refine lv_aload_n hx hb dL_law_464 rfl (lv_at hl 2 rfl) ?_
  refine lv_aload_n hx hb dL_law_465 rfl (lv_at hl 0 rfl) ?_
  refine lv_iload_n hx hb dL_law_466 rfl (lv_at hl 3 rfl) ?_
  refine lv_iconst (v := nI 1) hx hb dL_law_467 (by decide) ?_
  refine lv_iadd hx hb dL_law_468 ?_
  refine lv_topi (fun z_13 ez_13 => ?_)
  obtain rfl : z_13 = nI (i + 1) := ez_13.trans (nI_add i 1)
  refine va_sld hx hb hX hbl hbA hS (vp_in_nI (show i + 1 < L by omega) (by omega)) dL_law_469 ?_
  refine lv_topi (fun z_14 ez_14 => ?_)
  obtain rfl : z_14 = xs (i + 1) := ez_14.trans (by rw [nI_clamp (by omega)])
  refine lv_aload_n hx hb dL_law_470 rfl (lv_at hl 0 rfl) ?_
  refine lv_iload_n hx hb dL_law_471 rfl (lv_at hl 3 rfl) ?_
  refine lv_iconst (v := nI 2) hx hb dL_law_472 (by decide) ?_
  refine lv_iadd hx hb dL_law_473 ?_
  refine lv_topi (fun z_15 ez_15 => ?_)
  obtain rfl : z_15 = nI (i + 2) := ez_15.trans (nI_add i 2)
  refine va_sld hx hb hX hbl hbA hS (vp_in_nI (show i + 2 < L by omega) (by omega)) dL_law_474 ?_
  refine lv_topi (fun z_16 ez_16 => ?_)
  obtain rfl : z_16 = xs (i + 2) := ez_16.trans (by rw [nI_clamp (by omega)])
  refine lv_aload_n hx hb dL_law_475 rfl (lv_at hl 0 rfl) ?_
  refine lv_iload_n hx hb dL_law_476 rfl (lv_at hl 3 rfl) ?_
  refine lv_iconst (v := nI 3) hx hb dL_law_477 (by decide) ?_
  refine lv_iadd hx hb dL_law_478 ?_
  refine lv_topi (fun z_17 ez_17 => ?_)
  obtain rfl : z_17 = nI (i + 3) := ez_17.trans (nI_add i 3)
  refine va_sld hx hb hX hbl hbA hS (vp_in_nI (show i + 3 < L by omega) (by omega)) dL_law_479 ?_
  refine lv_topi (fun z_18 ez_18 => ?_)
  obtain rfl : z_18 = xs (i + 3) := ez_18.trans (by rw [nI_clamp (by omega)])
  refine lv_aload_n hx hb dL_law_480 rfl (lv_at hl 0 rfl) ?_
  refine lv_iload_n hx hb dL_law_481 rfl (lv_at hl 3 rfl) ?_
  refine lv_iconst (v := nI 4) hx hb dL_law_482 (by decide) ?_
  refine lv_iadd hx hb dL_law_483 ?_
  refine lv_topi (fun z_19 ez_19 => ?_)
  obtain rfl : z_19 = nI (i + 4) := ez_19.trans (nI_add i 4)
  refine va_sld hx hb hX hbl hbA hS (vp_in_nI (show i + 4 < L by omega) (by omega)) dL_law_484 ?_
  refine lv_topi (fun z_20 ez_20 => ?_)
  obtain rfl : z_20 = xs (i + 4) := ez_20.trans (by rw [nI_clamp (by omega)])
  refine lv_aload_n hx hb dL_law_485 rfl (lv_at hl 0 rfl) ?_
  refine lv_iload_n hx hb dL_law_486 rfl (lv_at hl 3 rfl) ?_
  refine lv_iconst (v := nI 5) hx hb dL_law_487 (by decide) ?_
  refine lv_iadd hx hb dL_law_488 ?_
  refine lv_topi (fun z_21 ez_21 => ?_)
  obtain rfl : z_21 = nI (i + 5) := ez_21.trans (nI_add i 5)
  refine va_sld hx hb hX hbl hbA hS (vp_in_nI (show i + 5 < L by omega) (by omega)) dL_law_489 ?_
  refine lv_topi (fun z_22 ez_22 => ?_)
  obtain rfl : z_22 = xs (i + 5) := ez_22.trans (by rw [nI_clamp (by omega)])
  refine lv_aload_n hx hb dL_law_490 rfl (lv_at hl 0 rfl) ?_
  refine lv_iload_n hx hb dL_law_491 rfl (lv_at hl 3 rfl) ?_
  refine lv_bipush (v := nI 6) hx hb dL_law_492 (by decide) ?_
  refine lv_iadd hx hb dL_law_494 ?_
  refine lv_topi (fun z_23 ez_23 => ?_)
  obtain rfl : z_23 = nI (i + 6) := ez_23.trans (nI_add i 6)
  refine va_sld hx hb hX hbl hbA hS (vp_in_nI (show i + 6 < L by omega) (by omega)) dL_law_495 ?_
  refine lv_topi (fun z_24 ez_24 => ?_)
  obtain rfl : z_24 = xs (i + 6) := ez_24.trans (by rw [nI_clamp (by omega)])
  have hPc : va_P (dC, dI) vwCl (mdW m0 aN aR aX aO aP aH aL aW cI2 cJ2 vn ct nm ft fb an rw nx og no rc nc hgh lws dh dl fT fB wd) H := va_Pr hP
  have hKc := hK.sub (tys' := [(cI2, .int), (cJ2, .long)]) [5, 6] rfl
  have hFc : ∀ q, va_A (mdW m0 aN aR aX aO aP aH aL aW cI2 cJ2 vn ct nm ft fb an rw nx og no rc nc hgh lws dh dl fT fB wd) H.size q → (fun q : Nat => s.heap.size ≤ q) q := va_Ar hD hS hA
  refine va_calli (va_runV (As := [.int (xs (i + 1)), .int (xs (i + 2)), .int (xs (i + 3)), .int (xs (i + 4)), .int (xs (i + 5)), .int (xs (i + 6))]) (rest := [.int r8]) ⟨hx, hb, hml, hown, hts⟩ (c_X2_least l dC dI H.size m0 aN aR aX aO aP aH aL aW cI2 cJ2 vn ct nm ft fb an rw nx og no rc nc hgh lws dh dl fT fB wd (xs (i + 1)) (xs (i + 2)) (xs (i + 3)) (xs (i + 4)) (xs (i + 5)) (xs (i + 6)) hv1 hv3 hc hN) (cwV 6 hts gL_law_X2_least rfl rfl rfl (by decide +kernel) ⟨Nat.le_of_ble_eq_true rfl, Nat.le_of_ble_eq_true rfl⟩) ⟨fun a U g mk q => by obtain ⟨q0, q1, qP, qK, qD⟩ := q; exact ⟨q0, q1, qP, va_K.moved (u := U) (U := U.calling g mk a) (Vm.Alike.refl U.vm) qK, qD⟩, va_recv hKc hPc (ci := 2) (q0 := 0) rfl rfl, fun U hU hW => ⟨rfl, by rw [hU], by rw [hU]; exact hPc, va_K.moved hW.alike hKc, va_Dr hD⟩⟩ rfl rfl hl.1 rfl (lv_room (Nat.le_of_ble_eq_true rfl)) dL_law_496 ⟨Nat.le_of_ble_eq_true rfl, Nat.le_of_ble_eq_true rfl⟩) hS (fun q _ h => hFc q h) hFc (fun r9 v9 t H1 locs ht hvm hw9 hB hz1 hk1 hS => ?_)
  obtain ⟨hP1, hK1, hD1⟩ := hB
  rw [ht] at hP1
  obtain ⟨hP, hD⟩ := jn_app hP hD hk1 hFc hP1 hD1
  clear hPc hKc hP1 hD1 hK1 hFc hk1 hz1 ht hvm
  generalize H1 = H at hP hS ⊢
  have hP : va_P (dC, dI) vwCl ((rfX p0 qt qg h0 rt cB cI vn ct v8.1 v8.2.1 v8.2.2.1 T ++ wgW h0 qc qh r cA cI cJ v8.2.2.2.1 v8.2.2.2.2.1 v8.2.2.2.2.2.2.2.1 v8.2.2.2.2.2.2.2.2.1 v8.2.2.2.2.2.2.2.2.2.1 v8.2.2.2.2.2.2.1 v8.2.2.2.2.2.1) ++ mdW m0 aN aR aX aO aP aH aL aW cI2 cJ2 vn ct nm v9.2.2.2.2.2.2.2.2.2.2.2.2.1 v9.2.2.2.2.2.2.2.2.2.2.2.2.2.1 v9.2.2.2.2.2.2.2.2.2.2.2.2.2.2.1 v9.2.1 v9.2.2.2.1 v9.2.2.1 v9.2.2.2.2.1 v9.1 v9.2.2.2.2.2.2.2.2.2.1 v9.2.2.2.2.2.1 v9.2.2.2.2.2.2.1 v9.2.2.2.2.2.2.2.1 v9.2.2.2.2.2.2.2.2.1 v9.2.2.2.2.2.2.2.2.2.2.1 v9.2.2.2.2.2.2.2.2.2.2.2.1 v9.2.2.2.2.2.2.2.2.2.2.2.2.2.2.2) H := hP
  have hD : va_D (fun q : Nat => s.heap.size ≤ q) ((rfX p0 qt qg h0 rt cB cI vn ct v8.1 v8.2.1 v8.2.2.1 T ++ wgW h0 qc qh r cA cI cJ v8.2.2.2.1 v8.2.2.2.2.1 v8.2.2.2.2.2.2.2.1 v8.2.2.2.2.2.2.2.2.1 v8.2.2.2.2.2.2.2.2.2.1 v8.2.2.2.2.2.2.1 v8.2.2.2.2.2.1) ++ mdW m0 aN aR aX aO aP aH aL aW cI2 cJ2 vn ct nm v9.2.2.2.2.2.2.2.2.2.2.2.2.1 v9.2.2.2.2.2.2.2.2.2.2.2.2.2.1 v9.2.2.2.2.2.2.2.2.2.2.2.2.2.2.1 v9.2.1 v9.2.2.2.1 v9.2.2.1 v9.2.2.2.2.1 v9.1 v9.2.2.2.2.2.2.2.2.2.1 v9.2.2.2.2.2.1 v9.2.2.2.2.2.2.1 v9.2.2.2.2.2.2.2.1 v9.2.2.2.2.2.2.2.2.1 v9.2.2.2.2.2.2.2.2.2.2.1 v9.2.2.2.2.2.2.2.2.2.2.2.1 v9.2.2.2.2.2.2.2.2.2.2.2.2.2.2.2) := hD
  have he := ans_least hv3 hR (gl_wd gl wd _ _ _ _ _ _) hw8 hw9
  rw [← he.2.1, ← he.2.2] at hP hD
  refine lv_icmp_eq (tgt := 532) hx hb dL_law_499 (by decide) (fun _ => ?_) (fun c9 => absurd (he.1) c9)
  exact nx9 H _ ls ⟨vn, ct, v8.1, v8.2.1, qt, qg, h0, rt, cB, cI, cA, cJ, qc, qh, r, v8.2.2.1, T, v8.2.2.2.1, v8.2.2.2.2.1, v8.2.2.2.2.2.2.2.1, v8.2.2.2.2.2.2.2.2.1, v8.2.2.2.2.2.2.2.2.2.1, v8.2.2.2.2.2.2.1, v8.2.2.2.2.2.1, aN, aR, aX, aO, aP, aH, aL, aW, cI2, cJ2, nm, v9.2.2.2.2.2.2.2.2.2.2.2.2.2.2.1, v9.2.1, v9.2.2.2.1, v9.2.2.1, v9.2.2.2.2.1, v9.1, v9.2.2.2.2.2.2.2.2.2.1, v9.2.2.2.2.2.1, v9.2.2.2.2.2.2.1, v9.2.2.2.2.2.2.2.1, v9.2.2.2.2.2.2.2.2.1, v9.2.2.2.2.2.2.2.2.2.2.1, v9.2.2.2.2.2.2.2.2.2.2.2.1, v9.2.2.2.2.2.2.2.2.2.2.2.2.2.2.2, hv1, hv3, hc, hN, hR, hP, hK, hD⟩ hS hl
set_option maxHeartbeats 2000000 in
set_option maxRecDepth 100000 in
/-- the law, top -/
theorem law_top {p : Program} {l : Launch} {e : Env} {s : State} {m : MethodId} {below : List Frame} {meth : Method} {c : Code} {dC : Nat → ClassId} {dI : Nat → Nat → Nat} {b L : Nat} {xs : Nat → Int32} (hL : L ≤ 4096) (C0 : lw_At p s m meth c b L xs) {i p0 m0 : Nat} (hi : i + 8 ≤ L) (nx9 : ∀ (H : Heap) (locs : List Loc) (ls : Array Slot), Lw dC dI s p0 m0 H → va_S (fun q : Nat => s.heap.size ≤ q) s.heap H locs → lv_has ls 4 [(0, .ref b), (1, .ref p0), (2, .ref m0), (3, .int (nI i))] → W p l e room_1 s m #[Value.ref b] below meth c H locs 33 29176 (lw_Z below #[Value.ref b] s) (F0 m 532 ls [])) (H : Heap) (locs : List Loc) (ls : Array Slot) (hI : Lw dC dI s p0 m0 H) (hS : va_S (fun q : Nat => s.heap.size ≤ q) s.heap H locs) (hl : lv_has ls 4 [(0, .ref b), (1, .ref p0), (2, .ref m0), (3, .int (nI i))]) : W p l e room_1 s m #[Value.ref b] below meth c H locs 33 29176 (lw_Z below #[Value.ref b] s) (F0 m 504 ls []) := by
  obtain ⟨hx, hb, hr, hml, hown, hts0, hX, hbl, hlocks, hgv⟩ := C0
  have hts : ∀ w ∈ wsL_law, w.before #[Value.ref b] s = true := fun w h => hts0 w (wsL_law_in w h)
  clear hts0 hgv
  have hown : s.vm.findClass RL = some m.cls := hown
  have hb : c.code = cL_law := hb
  have hA : ∀ q : Nat, s.heap.size ≤ q → (fun q : Nat => s.heap.size ≤ q) q := fun _ h => h
  have hbA : ¬ (fun q : Nat => s.heap.size ≤ q) b := Nat.not_le.mpr hbl
  obtain ⟨vn, ct, ft, fb, qt, qg, h0, rt, cB, cI, cA, cJ, qc, qh, r, gl, T, me, nw, u, tw, iv, hd, M, aN, aR, aX, aO, aP, aH, aL, aW, cI2, cJ2, nm, an, rw, nx, og, no, rc, nc, hgh, lws, dh, dl, fT, fB, wd, hv1, hv3, hc, hN, hR, hP, hK, hD⟩ := hI
  refine lv_aload_n hx hb dL_law_504 rfl (lv_at hl 1 rfl) ?_
  have hPc : va_P (dC, dI) vwCl (rfX p0 qt qg h0 rt cB cI vn ct ft fb gl T ++ wgW h0 qc qh r cA cI cJ me nw u tw iv hd M) H := va_Pl hP
  have hKc := hK.sub (tys' := ((cB, .array .int) :: (cI, .int) :: wgT cA cI cJ)) [0, 1, 2, 3, 4] rfl
  have hFc : ∀ q, va_A (rfX p0 qt qg h0 rt cB cI vn ct ft fb gl T ++ wgW h0 qc qh r cA cI cJ me nw u tw iv hd M) H.size q → (fun q : Nat => s.heap.size ≤ q) q := va_Al hD hS hA
  refine va_calll (va_runV (As := []) (rest := []) ⟨hx, hb, hml, hown, hts⟩ (c_X1_top l dC dI H.size p0 qt qg h0 rt cB cI (wgT cA cI cJ) (wgW h0 qc qh r cA cI cJ me nw u tw iv hd M) vn ct ft fb gl T) (cwV 0 hts gL_law_X1_top rfl rfl rfl (by decide +kernel) ⟨Nat.le_of_ble_eq_true rfl, Nat.le_of_ble_eq_true rfl⟩) ⟨fun a U g mk q => by obtain ⟨q0, q1, qP, qK, qD⟩ := q; exact ⟨q0, q1, qP, va_K.moved (u := U) (U := U.calling g mk a) (Vm.Alike.refl U.vm) qK, qD⟩, va_recv hKc hPc (ci := 1) (q0 := 0) rfl rfl, fun U hU hW => ⟨rfl, by rw [hU], by rw [hU]; exact hPc, va_K.moved hW.alike hKc, va_Dl hD⟩⟩ rfl rfl hl.1 rfl (lv_room (Nat.le_of_ble_eq_true rfl)) dL_law_505 ⟨Nat.le_of_ble_eq_true rfl, Nat.le_of_ble_eq_true rfl⟩) hS (fun q _ h => hFc q h) hFc (fun r8 v8 t H1 locs ht hvm hw8 hB hz1 hk1 hS => ?_)
  obtain ⟨hP1, hK1, hD1⟩ := hB
  rw [ht] at hP1
  obtain ⟨hP, hD⟩ := jn_appL hP hD hk1 hFc hP1 hD1
  clear hPc hKc hP1 hD1 hK1 hFc hk1 hz1 ht hvm
  generalize H1 = H at hP hS ⊢
  have hP : va_P (dC, dI) vwCl ((rfX p0 qt qg h0 rt cB cI vn ct ft fb gl T ++ wgW h0 qc qh r cA cI cJ me nw u tw iv hd M) ++ mdW m0 aN aR aX aO aP aH aL aW cI2 cJ2 vn ct nm ft fb an rw nx og no rc nc hgh lws dh dl fT fB wd) H := hP
  have hD : va_D (fun q : Nat => s.heap.size ≤ q) ((rfX p0 qt qg h0 rt cB cI vn ct ft fb gl T ++ wgW h0 qc qh r cA cI cJ me nw u tw iv hd M) ++ mdW m0 aN aR aX aO aP aH aL aW cI2 cJ2 vn ct nm ft fb an rw nx og no rc nc hgh lws dh dl fT fB wd) := hD
  refine lv_aload_n hx hb dL_law_508 rfl (lv_at hl 2 rfl) ?_
  have hPc : va_P (dC, dI) vwCl (mdW m0 aN aR aX aO aP aH aL aW cI2 cJ2 vn ct nm ft fb an rw nx og no rc nc hgh lws dh dl fT fB wd) H := va_Pr hP
  have hKc := hK.sub (tys' := [(cI2, .int), (cJ2, .long)]) [5, 6] rfl
  have hFc : ∀ q, va_A (mdW m0 aN aR aX aO aP aH aL aW cI2 cJ2 vn ct nm ft fb an rw nx og no rc nc hgh lws dh dl fT fB wd) H.size q → (fun q : Nat => s.heap.size ≤ q) q := va_Ar hD hS hA
  refine va_calll (va_runV (As := []) (rest := [.long r8]) ⟨hx, hb, hml, hown, hts⟩ (c_X2_top l dC dI H.size m0 aN aR aX aO aP aH aL aW cI2 cJ2 vn ct nm ft fb an rw nx og no rc nc hgh lws dh dl fT fB wd) (cwV 0 hts gL_law_X2_top rfl rfl rfl (by decide +kernel) ⟨Nat.le_of_ble_eq_true rfl, Nat.le_of_ble_eq_true rfl⟩) ⟨fun a U g mk q => by obtain ⟨q0, q1, qP, qK, qD⟩ := q; exact ⟨q0, q1, qP, va_K.moved (u := U) (U := U.calling g mk a) (Vm.Alike.refl U.vm) qK, qD⟩, va_recv hKc hPc (ci := 2) (q0 := 0) rfl rfl, fun U hU hW => ⟨rfl, by rw [hU], by rw [hU]; exact hPc, va_K.moved hW.alike hKc, va_Dr hD⟩⟩ rfl rfl hl.1 rfl (lv_room (Nat.le_of_ble_eq_true rfl)) dL_law_509 ⟨Nat.le_of_ble_eq_true rfl, Nat.le_of_ble_eq_true rfl⟩) hS (fun q _ h => hFc q h) hFc (fun r9 v9 t H1 locs ht hvm hw9 hB hz1 hk1 hS => ?_)
  obtain ⟨hP1, hK1, hD1⟩ := hB
  rw [ht] at hP1
  obtain ⟨hP, hD⟩ := jn_app hP hD hk1 hFc hP1 hD1
  clear hPc hKc hP1 hD1 hK1 hFc hk1 hz1 ht hvm
  generalize H1 = H at hP hS ⊢
  have hP : va_P (dC, dI) vwCl ((rfX p0 qt qg h0 rt cB cI vn ct ft fb gl T ++ wgW h0 qc qh r cA cI cJ me nw u tw iv hd M) ++ mdW m0 aN aR aX aO aP aH aL aW cI2 cJ2 vn ct nm ft fb an rw nx og no rc nc hgh lws dh dl fT fB wd) H := hP
  have hD : va_D (fun q : Nat => s.heap.size ≤ q) ((rfX p0 qt qg h0 rt cB cI vn ct ft fb gl T ++ wgW h0 qc qh r cA cI cJ me nw u tw iv hd M) ++ mdW m0 aN aR aX aO aP aH aL aW cI2 cJ2 vn ct nm ft fb an rw nx og no rc nc hgh lws dh dl fT fB wd) := hD
  refine W.lcmp hx hb dL_law_512 ?_
  refine lv_if_eq (tgt := 532) hx hb dL_law_513 (by decide) (fun _ => ?_) (fun c9 => absurd (by rw [hw8, hw9]; exact lg_cmp0 _) c9)
  exact nx9 H _ ls ⟨vn, ct, ft, fb, qt, qg, h0, rt, cB, cI, cA, cJ, qc, qh, r, gl, T, me, nw, u, tw, iv, hd, M, aN, aR, aX, aO, aP, aH, aL, aW, cI2, cJ2, nm, an, rw, nx, og, no, rc, nc, hgh, lws, dh, dl, fT, fB, wd, hv1, hv3, hc, hN, hR, hP, hK, hD⟩ hS hl
set_option maxHeartbeats 2000000 in
set_option maxRecDepth 100000 in
/-- the law, bottom -/
theorem law_bottom {p : Program} {l : Launch} {e : Env} {s : State} {m : MethodId} {below : List Frame} {meth : Method} {c : Code} {dC : Nat → ClassId} {dI : Nat → Nat → Nat} {b L : Nat} {xs : Nat → Int32} (hL : L ≤ 4096) (C0 : lw_At p s m meth c b L xs) {i p0 m0 : Nat} (hi : i + 8 ≤ L) (nx9 : ∀ (H : Heap) (locs : List Loc) (ls : Array Slot), Lw dC dI s p0 m0 H → va_S (fun q : Nat => s.heap.size ≤ q) s.heap H locs → lv_has ls 4 [(0, .ref b), (1, .ref p0), (2, .ref m0), (3, .int (nI i))] → W p l e room_1 s m #[Value.ref b] below meth c H locs 33 29176 (lw_Z below #[Value.ref b] s) (F0 m 532 ls [])) (H : Heap) (locs : List Loc) (ls : Array Slot) (hI : Lw dC dI s p0 m0 H) (hS : va_S (fun q : Nat => s.heap.size ≤ q) s.heap H locs) (hl : lv_has ls 4 [(0, .ref b), (1, .ref p0), (2, .ref m0), (3, .int (nI i))]) : W p l e room_1 s m #[Value.ref b] below meth c H locs 33 29176 (lw_Z below #[Value.ref b] s) (F0 m 518 ls []) := by
  obtain ⟨hx, hb, hr, hml, hown, hts0, hX, hbl, hlocks, hgv⟩ := C0
  have hts : ∀ w ∈ wsL_law, w.before #[Value.ref b] s = true := fun w h => hts0 w (wsL_law_in w h)
  clear hts0 hgv
  have hown : s.vm.findClass RL = some m.cls := hown
  have hb : c.code = cL_law := hb
  have hA : ∀ q : Nat, s.heap.size ≤ q → (fun q : Nat => s.heap.size ≤ q) q := fun _ h => h
  have hbA : ¬ (fun q : Nat => s.heap.size ≤ q) b := Nat.not_le.mpr hbl
  obtain ⟨vn, ct, ft, fb, qt, qg, h0, rt, cB, cI, cA, cJ, qc, qh, r, gl, T, me, nw, u, tw, iv, hd, M, aN, aR, aX, aO, aP, aH, aL, aW, cI2, cJ2, nm, an, rw, nx, og, no, rc, nc, hgh, lws, dh, dl, fT, fB, wd, hv1, hv3, hc, hN, hR, hP, hK, hD⟩ := hI
  refine lv_aload_n hx hb dL_law_518 rfl (lv_at hl 1 rfl) ?_
  have hPc : va_P (dC, dI) vwCl (rfX p0 qt qg h0 rt cB cI vn ct ft fb gl T ++ wgW h0 qc qh r cA cI cJ me nw u tw iv hd M) H := va_Pl hP
  have hKc := hK.sub (tys' := ((cB, .array .int) :: (cI, .int) :: wgT cA cI cJ)) [0, 1, 2, 3, 4] rfl
  have hFc : ∀ q, va_A (rfX p0 qt qg h0 rt cB cI vn ct ft fb gl T ++ wgW h0 qc qh r cA cI cJ me nw u tw iv hd M) H.size q → (fun q : Nat => s.heap.size ≤ q) q := va_Al hD hS hA
  refine va_calll (va_runV (As := []) (rest := []) ⟨hx, hb, hml, hown, hts⟩ (c_X1_bottom l dC dI H.size p0 qt qg h0 rt cB cI (wgT cA cI cJ) (wgW h0 qc qh r cA cI cJ me nw u tw iv hd M) vn ct ft fb gl T) (cwV 0 hts gL_law_X1_bottom rfl rfl rfl (by decide +kernel) ⟨Nat.le_of_ble_eq_true rfl, Nat.le_of_ble_eq_true rfl⟩) ⟨fun a U g mk q => by obtain ⟨q0, q1, qP, qK, qD⟩ := q; exact ⟨q0, q1, qP, va_K.moved (u := U) (U := U.calling g mk a) (Vm.Alike.refl U.vm) qK, qD⟩, va_recv hKc hPc (ci := 1) (q0 := 0) rfl rfl, fun U hU hW => ⟨rfl, by rw [hU], by rw [hU]; exact hPc, va_K.moved hW.alike hKc, va_Dl hD⟩⟩ rfl rfl hl.1 rfl (lv_room (Nat.le_of_ble_eq_true rfl)) dL_law_519 ⟨Nat.le_of_ble_eq_true rfl, Nat.le_of_ble_eq_true rfl⟩) hS (fun q _ h => hFc q h) hFc (fun r8 v8 t H1 locs ht hvm hw8 hB hz1 hk1 hS => ?_)
  obtain ⟨hP1, hK1, hD1⟩ := hB
  rw [ht] at hP1
  obtain ⟨hP, hD⟩ := jn_appL hP hD hk1 hFc hP1 hD1
  clear hPc hKc hP1 hD1 hK1 hFc hk1 hz1 ht hvm
  generalize H1 = H at hP hS ⊢
  have hP : va_P (dC, dI) vwCl ((rfX p0 qt qg h0 rt cB cI vn ct ft fb gl T ++ wgW h0 qc qh r cA cI cJ me nw u tw iv hd M) ++ mdW m0 aN aR aX aO aP aH aL aW cI2 cJ2 vn ct nm ft fb an rw nx og no rc nc hgh lws dh dl fT fB wd) H := hP
  have hD : va_D (fun q : Nat => s.heap.size ≤ q) ((rfX p0 qt qg h0 rt cB cI vn ct ft fb gl T ++ wgW h0 qc qh r cA cI cJ me nw u tw iv hd M) ++ mdW m0 aN aR aX aO aP aH aL aW cI2 cJ2 vn ct nm ft fb an rw nx og no rc nc hgh lws dh dl fT fB wd) := hD
  refine lv_aload_n hx hb dL_law_522 rfl (lv_at hl 2 rfl) ?_
  have hPc : va_P (dC, dI) vwCl (mdW m0 aN aR aX aO aP aH aL aW cI2 cJ2 vn ct nm ft fb an rw nx og no rc nc hgh lws dh dl fT fB wd) H := va_Pr hP
  have hKc := hK.sub (tys' := [(cI2, .int), (cJ2, .long)]) [5, 6] rfl
  have hFc : ∀ q, va_A (mdW m0 aN aR aX aO aP aH aL aW cI2 cJ2 vn ct nm ft fb an rw nx og no rc nc hgh lws dh dl fT fB wd) H.size q → (fun q : Nat => s.heap.size ≤ q) q := va_Ar hD hS hA
  refine va_calll (va_runV (As := []) (rest := [.long r8]) ⟨hx, hb, hml, hown, hts⟩ (c_X2_bottom l dC dI H.size m0 aN aR aX aO aP aH aL aW cI2 cJ2 vn ct nm ft fb an rw nx og no rc nc hgh lws dh dl fT fB wd) (cwV 0 hts gL_law_X2_bottom rfl rfl rfl (by decide +kernel) ⟨Nat.le_of_ble_eq_true rfl, Nat.le_of_ble_eq_true rfl⟩) ⟨fun a U g mk q => by obtain ⟨q0, q1, qP, qK, qD⟩ := q; exact ⟨q0, q1, qP, va_K.moved (u := U) (U := U.calling g mk a) (Vm.Alike.refl U.vm) qK, qD⟩, va_recv hKc hPc (ci := 2) (q0 := 0) rfl rfl, fun U hU hW => ⟨rfl, by rw [hU], by rw [hU]; exact hPc, va_K.moved hW.alike hKc, va_Dr hD⟩⟩ rfl rfl hl.1 rfl (lv_room (Nat.le_of_ble_eq_true rfl)) dL_law_523 ⟨Nat.le_of_ble_eq_true rfl, Nat.le_of_ble_eq_true rfl⟩) hS (fun q _ h => hFc q h) hFc (fun r9 v9 t H1 locs ht hvm hw9 hB hz1 hk1 hS => ?_)
  obtain ⟨hP1, hK1, hD1⟩ := hB
  rw [ht] at hP1
  obtain ⟨hP, hD⟩ := jn_app hP hD hk1 hFc hP1 hD1
  clear hPc hKc hP1 hD1 hK1 hFc hk1 hz1 ht hvm
  generalize H1 = H at hP hS ⊢
  have hP : va_P (dC, dI) vwCl ((rfX p0 qt qg h0 rt cB cI vn ct ft fb gl T ++ wgW h0 qc qh r cA cI cJ me nw u tw iv hd M) ++ mdW m0 aN aR aX aO aP aH aL aW cI2 cJ2 vn ct nm ft fb an rw nx og no rc nc hgh lws dh dl fT fB wd) H := hP
  have hD : va_D (fun q : Nat => s.heap.size ≤ q) ((rfX p0 qt qg h0 rt cB cI vn ct ft fb gl T ++ wgW h0 qc qh r cA cI cJ me nw u tw iv hd M) ++ mdW m0 aN aR aX aO aP aH aL aW cI2 cJ2 vn ct nm ft fb an rw nx og no rc nc hgh lws dh dl fT fB wd) := hD
  refine W.lcmp hx hb dL_law_526 ?_
  refine lv_if_eq (tgt := 532) hx hb dL_law_527 (by decide) (fun _ => ?_) (fun c9 => absurd (by rw [hw8, hw9]; exact lg_cmp0 _) c9)
  exact nx9 H _ ls ⟨vn, ct, ft, fb, qt, qg, h0, rt, cB, cI, cA, cJ, qc, qh, r, gl, T, me, nw, u, tw, iv, hd, M, aN, aR, aX, aO, aP, aH, aL, aW, cI2, cJ2, nm, an, rw, nx, og, no, rc, nc, hgh, lws, dh, dl, fT, fB, wd, hv1, hv3, hc, hN, hR, hP, hK, hD⟩ hS hl
