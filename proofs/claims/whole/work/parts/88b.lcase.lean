set_option maxHeartbeats 2000000 in
set_option maxRecDepth 100000 in
/-- the law, number -/
theorem law_number {p : Program} {l : Launch} {e : Env} {s : State} {m : MethodId} {below : List Frame} {meth : Method} {c : Code} {dC : Nat → ClassId} {dI : Nat → Nat → Nat} {b L : Nat} {xs : Nat → Int32} (hL : L ≤ 4096) (C0 : lw_At p s m meth c b L xs) {i p0 m0 : Nat} (hi : i + 8 ≤ L) (nx9 : ∀ (H : Heap) (locs : List Loc) (ls : Array Slot), Lw dC dI s p0 m0 H → va_S (fun q : Nat => s.heap.size ≤ q) s.heap H locs → lv_has ls 4 [(0, .ref b), (1, .ref p0), (2, .ref m0), (3, .int (nI i))] → W p l e room_1 s m #[Value.ref b] below meth c H locs 33 29176 (lw_Z below #[Value.ref b] s) (F0 m 532 ls [])) (H : Heap) (locs : List Loc) (ls : Array Slot) (hI : Lw dC dI s p0 m0 H) (hS : va_S (fun q : Nat => s.heap.size ≤ q) s.heap H locs) (hl : lv_has ls 4 [(0, .ref b), (1, .ref p0), (2, .ref m0), (3, .int (nI i))]) : W p l e room_1 s m #[Value.ref b] below meth c H locs 33 29176 (lw_Z below #[Value.ref b] s) (F0 m 242 ls []) := by
  obtain ⟨hx, hb, hr, hml, hown, hts0, hX, hbl, hlocks, hgv⟩ := C0
  have hts : ∀ w ∈ wsL_law, w.before #[Value.ref b] s = true := fun w h => hts0 w (wsL_law_in w h)
  clear hts0 hgv
  have hown : s.vm.findClass RL = some m.cls := hown
  have hb : c.code = cL_law := hb
  have hA : ∀ q : Nat, s.heap.size ≤ q → (fun q : Nat => s.heap.size ≤ q) q := fun _ h => h
  have hbA : ¬ (fun q : Nat => s.heap.size ≤ q) b := Nat.not_le.mpr hbl
  obtain ⟨vn, ct, ft, fb, qt, qg, h0, rt, cB, cI, cA, cJ, qc, qh, r, gl, T, me, nw, u, tw, iv, hd, M, aN, aR, aX, aO, aP, aH, aL, aW, cI2, cJ2, nm, an, rw, nx, og, no, rc, nc, hgh, lws, dh, dl, fT, fB, wd, hv1, hv3, hc, hN, hR, hP, hK, hD⟩ := hI
  refine lv_aload_n hx hb dL_law_242 rfl (lv_at hl 1 rfl) ?_
  refine lv_aload_n hx hb dL_law_243 rfl (lv_at hl 0 rfl) ?_
  refine lv_iload_n hx hb dL_law_244 rfl (lv_at hl 3 rfl) ?_
  refine lv_iconst (v := nI 1) hx hb dL_law_245 (by decide) ?_
  refine lv_iadd hx hb dL_law_246 ?_
  refine lv_topi (fun z_1 ez_1 => ?_)
  obtain rfl : z_1 = nI (i + 1) := ez_1.trans (nI_add i 1)
  refine va_sld hx hb hX hbl hbA hS (vp_in_nI (show i + 1 < L by omega) (by omega)) dL_law_247 ?_
  refine lv_topi (fun z_2 ez_2 => ?_)
  obtain rfl : z_2 = xs (i + 1) := ez_2.trans (by rw [nI_clamp (by omega)])
  refine lv_aload_n hx hb dL_law_248 rfl (lv_at hl 0 rfl) ?_
  refine lv_iload_n hx hb dL_law_249 rfl (lv_at hl 3 rfl) ?_
  refine lv_iconst (v := nI 2) hx hb dL_law_250 (by decide) ?_
  refine lv_iadd hx hb dL_law_251 ?_
  refine lv_topi (fun z_3 ez_3 => ?_)
  obtain rfl : z_3 = nI (i + 2) := ez_3.trans (nI_add i 2)
  refine va_sld hx hb hX hbl hbA hS (vp_in_nI (show i + 2 < L by omega) (by omega)) dL_law_252 ?_
  refine lv_topi (fun z_4 ez_4 => ?_)
  obtain rfl : z_4 = xs (i + 2) := ez_4.trans (by rw [nI_clamp (by omega)])
  have hPc : va_P (dC, dI) vwCl (rfX p0 qt qg h0 rt cB cI vn ct ft fb gl T ++ wgW h0 qc qh r cA cI cJ me nw u tw iv hd M) H := va_Pl hP
  have hKc := hK.sub (tys' := ((cB, .array .int) :: (cI, .int) :: wgT cA cI cJ)) [0, 1, 2, 3, 4] rfl
  have hFc : ∀ q, va_A (rfX p0 qt qg h0 rt cB cI vn ct ft fb gl T ++ wgW h0 qc qh r cA cI cJ me nw u tw iv hd M) H.size q → (fun q : Nat => s.heap.size ≤ q) q := va_Al hD hS hA
  refine va_calli (va_runV (As := [.int (xs (i + 1)), .int (xs (i + 2))]) (rest := []) ⟨hx, hb, hml, hown, hts⟩ (c_X1_number l dC dI H.size p0 qt qg h0 rt cB cI (wgT cA cI cJ) (wgW h0 qc qh r cA cI cJ me nw u tw iv hd M) vn ct ft fb gl T (xs (i + 1)) (xs (i + 2)) hc) (cwV 2 hts gL_law_X1_number rfl rfl rfl (by decide +kernel) ⟨Nat.le_of_ble_eq_true rfl, Nat.le_of_ble_eq_true rfl⟩) ⟨fun a U g mk q => by obtain ⟨q0, q1, qP, qK, qD⟩ := q; exact ⟨q0, q1, qP, va_K.moved (u := U) (U := U.calling g mk a) (Vm.Alike.refl U.vm) qK, qD⟩, va_recv hKc hPc (ci := 1) (q0 := 0) rfl rfl, fun U hU hW => ⟨rfl, by rw [hU], by rw [hU]; exact hPc, va_K.moved hW.alike hKc, va_Dl hD⟩⟩ rfl rfl hl.1 rfl (lv_room (Nat.le_of_ble_eq_true rfl)) dL_law_253 ⟨Nat.le_of_ble_eq_true rfl, Nat.le_of_ble_eq_true rfl⟩) hS (fun q _ h => hFc q h) hFc (fun r8 v8 t H1 locs ht hvm hw8 hB hz1 hk1 hS => ?_)
  obtain ⟨hP1, hK1, hD1⟩ := hB
  rw [ht] at hP1
  obtain ⟨hP, hD⟩ := jn_appL hP hD hk1 hFc hP1 hD1
  clear hPc hKc hP1 hD1 hK1 hFc hk1 hz1 ht hvm
  generalize H1 = H at hP hS ⊢
  have hP : va_P (dC, dI) vwCl ((rfX p0 qt qg h0 rt cB cI vn ct ft fb gl T ++ wgW h0 qc qh r cA cI cJ me nw u tw iv hd M) ++ mdW m0 aN aR aX aO aP aH aL aW cI2 cJ2 vn ct nm ft fb an rw nx og no rc nc hgh lws dh dl fT fB wd) H := hP
  have hD : va_D (fun q : Nat => s.heap.size ≤ q) ((rfX p0 qt qg h0 rt cB cI vn ct ft fb gl T ++ wgW h0 qc qh r cA cI cJ me nw u tw iv hd M) ++ mdW m0 aN aR aX aO aP aH aL aW cI2 cJ2 vn ct nm ft fb an rw nx og no rc nc hgh lws dh dl fT fB wd) := hD
  refine lv_aload_n hx hb dL_law_256 rfl (lv_at hl 2 rfl) ?_
  refine lv_aload_n hx hb dL_law_257 rfl (lv_at hl 0 rfl) ?_
  refine lv_iload_n hx hb dL_law_258 rfl (lv_at hl 3 rfl) ?_
  refine lv_iconst (v := nI 1) hx hb dL_law_259 (by decide) ?_
  refine lv_iadd hx hb dL_law_260 ?_
  refine lv_topi (fun z_5 ez_5 => ?_)
  obtain rfl : z_5 = nI (i + 1) := ez_5.trans (nI_add i 1)
  refine va_sld hx hb hX hbl hbA hS (vp_in_nI (show i + 1 < L by omega) (by omega)) dL_law_261 ?_
  refine lv_topi (fun z_6 ez_6 => ?_)
  obtain rfl : z_6 = xs (i + 1) := ez_6.trans (by rw [nI_clamp (by omega)])
  refine lv_aload_n hx hb dL_law_262 rfl (lv_at hl 0 rfl) ?_
  refine lv_iload_n hx hb dL_law_263 rfl (lv_at hl 3 rfl) ?_
  refine lv_iconst (v := nI 2) hx hb dL_law_264 (by decide) ?_
  refine lv_iadd hx hb dL_law_265 ?_
  refine lv_topi (fun z_7 ez_7 => ?_)
  obtain rfl : z_7 = nI (i + 2) := ez_7.trans (nI_add i 2)
  refine va_sld hx hb hX hbl hbA hS (vp_in_nI (show i + 2 < L by omega) (by omega)) dL_law_266 ?_
  refine lv_topi (fun z_8 ez_8 => ?_)
  obtain rfl : z_8 = xs (i + 2) := ez_8.trans (by rw [nI_clamp (by omega)])
  have hPc : va_P (dC, dI) vwCl (mdW m0 aN aR aX aO aP aH aL aW cI2 cJ2 vn ct nm ft fb an rw nx og no rc nc hgh lws dh dl fT fB wd) H := va_Pr hP
  have hKc := hK.sub (tys' := [(cI2, .int), (cJ2, .long)]) [5, 6] rfl
  have hFc : ∀ q, va_A (mdW m0 aN aR aX aO aP aH aL aW cI2 cJ2 vn ct nm ft fb an rw nx og no rc nc hgh lws dh dl fT fB wd) H.size q → (fun q : Nat => s.heap.size ≤ q) q := va_Ar hD hS hA
  refine va_calli (va_runV (As := [.int (xs (i + 1)), .int (xs (i + 2))]) (rest := [.int r8]) ⟨hx, hb, hml, hown, hts⟩ (c_X2_number l dC dI H.size m0 aN aR aX aO aP aH aL aW cI2 cJ2 vn ct nm ft fb an rw nx og no rc nc hgh lws dh dl fT fB wd (xs (i + 1)) (xs (i + 2)) hc) (cwV 2 hts gL_law_X2_number rfl rfl rfl (by decide +kernel) ⟨Nat.le_of_ble_eq_true rfl, Nat.le_of_ble_eq_true rfl⟩) ⟨fun a U g mk q => by obtain ⟨q0, q1, qP, qK, qD⟩ := q; exact ⟨q0, q1, qP, va_K.moved (u := U) (U := U.calling g mk a) (Vm.Alike.refl U.vm) qK, qD⟩, va_recv hKc hPc (ci := 2) (q0 := 0) rfl rfl, fun U hU hW => ⟨rfl, by rw [hU], by rw [hU]; exact hPc, va_K.moved hW.alike hKc, va_Dr hD⟩⟩ rfl rfl hl.1 rfl (lv_room (Nat.le_of_ble_eq_true rfl)) dL_law_267 ⟨Nat.le_of_ble_eq_true rfl, Nat.le_of_ble_eq_true rfl⟩) hS (fun q _ h => hFc q h) hFc (fun r9 v9 t H1 locs ht hvm hw9 hB hz1 hk1 hS => ?_)
  obtain ⟨hP1, hK1, hD1⟩ := hB
  rw [ht] at hP1
  obtain ⟨hP, hD⟩ := jn_app hP hD hk1 hFc hP1 hD1
  clear hPc hKc hP1 hD1 hK1 hFc hk1 hz1 ht hvm
  generalize H1 = H at hP hS ⊢
  have hP : va_P (dC, dI) vwCl ((rfX p0 qt qg h0 rt cB cI vn ct ft fb gl T ++ wgW h0 qc qh r cA cI cJ me nw u tw iv hd M) ++ mdW m0 aN aR aX aO aP aH aL aW cI2 cJ2 vn ct nm ft fb an rw nx og no rc nc hgh lws dh dl fT fB wd) H := hP
  have hD : va_D (fun q : Nat => s.heap.size ≤ q) ((rfX p0 qt qg h0 rt cB cI vn ct ft fb gl T ++ wgW h0 qc qh r cA cI cJ me nw u tw iv hd M) ++ mdW m0 aN aR aX aO aP aH aL aW cI2 cJ2 vn ct nm ft fb an rw nx og no rc nc hgh lws dh dl fT fB wd) := hD
  have he : r8 = r9 := by
    rcases hw8 with ⟨a, b9, a1, a2, a3, a4, rfl⟩ | ⟨rfl, hno⟩ <;> rcases hw9 with ⟨a9, b8, d1, d2, d3, d4, rfl⟩ | ⟨rfl, hno9⟩
    · obtain rfl : a = a9 := nI_inj (by omega) (by omega) (a3.symm.trans d3)
      obtain rfl : b9 = b8 := nI_inj (by omega) (by omega) (a4.symm.trans d4)
      exact hR a b9 a1 a2
    · exact absurd ⟨a, b9, a1, a2, a3, a4⟩ hno9
    · exact absurd ⟨a9, b8, d1, d2, d3, d4⟩ hno
    · rfl
  refine lv_icmp_eq (tgt := 532) hx hb dL_law_270 (by decide) (fun _ => ?_) (fun c9 => absurd (he) c9)
  exact nx9 H _ ls ⟨vn, ct, ft, fb, qt, qg, h0, rt, cB, cI, cA, cJ, qc, qh, r, gl, T, me, nw, u, tw, iv, hd, M, aN, aR, aX, aO, aP, aH, aL, aW, cI2, cJ2, nm, an, rw, nx, og, no, rc, nc, hgh, lws, dh, dl, fT, fB, wd, hv1, hv3, hc, hN, hR, hP, hK, hD⟩ hS hl
set_option maxHeartbeats 2000000 in
set_option maxRecDepth 100000 in
/-- the law, keeps -/
theorem law_keeps {p : Program} {l : Launch} {e : Env} {s : State} {m : MethodId} {below : List Frame} {meth : Method} {c : Code} {dC : Nat → ClassId} {dI : Nat → Nat → Nat} {b L : Nat} {xs : Nat → Int32} (hL : L ≤ 4096) (C0 : lw_At p s m meth c b L xs) {i p0 m0 : Nat} (hi : i + 8 ≤ L) (nx9 : ∀ (H : Heap) (locs : List Loc) (ls : Array Slot), Lw dC dI s p0 m0 H → va_S (fun q : Nat => s.heap.size ≤ q) s.heap H locs → lv_has ls 4 [(0, .ref b), (1, .ref p0), (2, .ref m0), (3, .int (nI i))] → W p l e room_1 s m #[Value.ref b] below meth c H locs 33 29176 (lw_Z below #[Value.ref b] s) (F0 m 532 ls [])) (H : Heap) (locs : List Loc) (ls : Array Slot) (hI : Lw dC dI s p0 m0 H) (hS : va_S (fun q : Nat => s.heap.size ≤ q) s.heap H locs) (hl : lv_has ls 4 [(0, .ref b), (1, .ref p0), (2, .ref m0), (3, .int (nI i))]) : W p l e room_1 s m #[Value.ref b] below meth c H locs 33 29176 (lw_Z below #[Value.ref b] s) (F0 m 275 ls []) := by
  obtain ⟨hx, hb, hr, hml, hown, hts0, hX, hbl, hlocks, hgv⟩ := C0
  have hts : ∀ w ∈ wsL_law, w.before #[Value.ref b] s = true := fun w h => hts0 w (wsL_law_in w h)
  clear hts0 hgv
  have hown : s.vm.findClass RL = some m.cls := hown
  have hb : c.code = cL_law := hb
  have hA : ∀ q : Nat, s.heap.size ≤ q → (fun q : Nat => s.heap.size ≤ q) q := fun _ h => h
  have hbA : ¬ (fun q : Nat => s.heap.size ≤ q) b := Nat.not_le.mpr hbl
  obtain ⟨vn, ct, ft, fb, qt, qg, h0, rt, cB, cI, cA, cJ, qc, qh, r, gl, T, me, nw, u, tw, iv, hd, M, aN, aR, aX, aO, aP, aH, aL, aW, cI2, cJ2, nm, an, rw, nx, og, no, rc, nc, hgh, lws, dh, dl, fT, fB, wd, hv1, hv3, hc, hN, hR, hP, hK, hD⟩ := hI
  refine lv_aload_n hx hb dL_law_275 rfl (lv_at hl 1 rfl) ?_
  refine lv_aload_n hx hb dL_law_276 rfl (lv_at hl 0 rfl) ?_
  refine lv_iload_n hx hb dL_law_277 rfl (lv_at hl 3 rfl) ?_
  refine lv_iconst (v := nI 1) hx hb dL_law_278 (by decide) ?_
  refine lv_iadd hx hb dL_law_279 ?_
  refine lv_topi (fun z_1 ez_1 => ?_)
  obtain rfl : z_1 = nI (i + 1) := ez_1.trans (nI_add i 1)
  refine va_sld hx hb hX hbl hbA hS (vp_in_nI (show i + 1 < L by omega) (by omega)) dL_law_280 ?_
  refine lv_topi (fun z_2 ez_2 => ?_)
  obtain rfl : z_2 = xs (i + 1) := ez_2.trans (by rw [nI_clamp (by omega)])
  refine lv_aload_n hx hb dL_law_281 rfl (lv_at hl 0 rfl) ?_
  refine lv_iload_n hx hb dL_law_282 rfl (lv_at hl 3 rfl) ?_
  refine lv_iconst (v := nI 2) hx hb dL_law_283 (by decide) ?_
  refine lv_iadd hx hb dL_law_284 ?_
  refine lv_topi (fun z_3 ez_3 => ?_)
  obtain rfl : z_3 = nI (i + 2) := ez_3.trans (nI_add i 2)
  refine va_sld hx hb hX hbl hbA hS (vp_in_nI (show i + 2 < L by omega) (by omega)) dL_law_285 ?_
  refine lv_topi (fun z_4 ez_4 => ?_)
  obtain rfl : z_4 = xs (i + 2) := ez_4.trans (by rw [nI_clamp (by omega)])
  refine lv_aload_n hx hb dL_law_286 rfl (lv_at hl 0 rfl) ?_
  refine lv_iload_n hx hb dL_law_287 rfl (lv_at hl 3 rfl) ?_
  refine lv_iconst (v := nI 3) hx hb dL_law_288 (by decide) ?_
  refine lv_iadd hx hb dL_law_289 ?_
  refine lv_topi (fun z_5 ez_5 => ?_)
  obtain rfl : z_5 = nI (i + 3) := ez_5.trans (nI_add i 3)
  refine va_sld hx hb hX hbl hbA hS (vp_in_nI (show i + 3 < L by omega) (by omega)) dL_law_290 ?_
  refine lv_topi (fun z_6 ez_6 => ?_)
  obtain rfl : z_6 = xs (i + 3) := ez_6.trans (by rw [nI_clamp (by omega)])
  refine lv_aload_n hx hb dL_law_291 rfl (lv_at hl 0 rfl) ?_
  refine lv_iload_n hx hb dL_law_292 rfl (lv_at hl 3 rfl) ?_
  refine lv_iconst (v := nI 4) hx hb dL_law_293 (by decide) ?_
  refine lv_iadd hx hb dL_law_294 ?_
  refine lv_topi (fun z_7 ez_7 => ?_)
  obtain rfl : z_7 = nI (i + 4) := ez_7.trans (nI_add i 4)
  refine va_sld hx hb hX hbl hbA hS (vp_in_nI (show i + 4 < L by omega) (by omega)) dL_law_295 ?_
  refine lv_topi (fun z_8 ez_8 => ?_)
  obtain rfl : z_8 = xs (i + 4) := ez_8.trans (by rw [nI_clamp (by omega)])
  refine lv_aload_n hx hb dL_law_296 rfl (lv_at hl 0 rfl) ?_
  refine lv_iload_n hx hb dL_law_297 rfl (lv_at hl 3 rfl) ?_
  refine lv_iconst (v := nI 5) hx hb dL_law_298 (by decide) ?_
  refine lv_iadd hx hb dL_law_299 ?_
  refine lv_topi (fun z_9 ez_9 => ?_)
  obtain rfl : z_9 = nI (i + 5) := ez_9.trans (nI_add i 5)
  refine va_sld hx hb hX hbl hbA hS (vp_in_nI (show i + 5 < L by omega) (by omega)) dL_law_300 ?_
  refine lv_topi (fun z_10 ez_10 => ?_)
  obtain rfl : z_10 = xs (i + 5) := ez_10.trans (by rw [nI_clamp (by omega)])
  refine lv_aload_n hx hb dL_law_301 rfl (lv_at hl 0 rfl) ?_
  refine lv_iload_n hx hb dL_law_302 rfl (lv_at hl 3 rfl) ?_
  refine lv_bipush (v := nI 6) hx hb dL_law_303 (by decide) ?_
  refine lv_iadd hx hb dL_law_305 ?_
  refine lv_topi (fun z_11 ez_11 => ?_)
  obtain rfl : z_11 = nI (i + 6) := ez_11.trans (nI_add i 6)
  refine va_sld hx hb hX hbl hbA hS (vp_in_nI (show i + 6 < L by omega) (by omega)) dL_law_306 ?_
  refine lv_topi (fun z_12 ez_12 => ?_)
  obtain rfl : z_12 = xs (i + 6) := ez_12.trans (by rw [nI_clamp (by omega)])
  have hPc : va_P (dC, dI) vwCl (rfX p0 qt qg h0 rt cB cI vn ct ft fb gl T ++ wgW h0 qc qh r cA cI cJ me nw u tw iv hd M) H := va_Pl hP
  have hKc := hK.sub (tys' := ((cB, .array .int) :: (cI, .int) :: wgT cA cI cJ)) [0, 1, 2, 3, 4] rfl
  have hFc : ∀ q, va_A (rfX p0 qt qg h0 rt cB cI vn ct ft fb gl T ++ wgW h0 qc qh r cA cI cJ me nw u tw iv hd M) H.size q → (fun q : Nat => s.heap.size ≤ q) q := va_Al hD hS hA
  refine va_calli (va_runV (As := [.int (xs (i + 1)), .int (xs (i + 2)), .int (xs (i + 3)), .int (xs (i + 4)), .int (xs (i + 5)), .int (xs (i + 6))]) (rest := []) ⟨hx, hb, hml, hown, hts⟩ (c_X1_keeps l dC dI H.size p0 qt qg h0 rt cB cI (wgT cA cI cJ) (wgW h0 qc qh r cA cI cJ me nw u tw iv hd M) vn ct ft fb gl T (xs (i + 1)) (xs (i + 2)) (xs (i + 3)) (xs (i + 4)) (xs (i + 5)) (xs (i + 6)) hc hv1 hv3) (cwV 6 hts gL_law_X1_keeps rfl rfl rfl (by decide +kernel) ⟨Nat.le_of_ble_eq_true rfl, Nat.le_of_ble_eq_true rfl⟩) ⟨fun a U g mk q => by obtain ⟨q0, q1, qP, qK, qD⟩ := q; exact ⟨q0, q1, qP, va_K.moved (u := U) (U := U.calling g mk a) (Vm.Alike.refl U.vm) qK, qD⟩, va_recv hKc hPc (ci := 1) (q0 := 0) rfl rfl, fun U hU hW => ⟨rfl, by rw [hU], by rw [hU]; exact hPc, va_K.moved hW.alike hKc, va_Dl hD⟩⟩ rfl rfl hl.1 rfl (lv_room (Nat.le_of_ble_eq_true rfl)) dL_law_307 ⟨Nat.le_of_ble_eq_true rfl, Nat.le_of_ble_eq_true rfl⟩) hS (fun q _ h => hFc q h) hFc (fun r8 v8 t H1 locs ht hvm hw8 hB hz1 hk1 hS => ?_)
  obtain ⟨hP1, hK1, hD1⟩ := hB
  rw [ht] at hP1
  obtain ⟨hP, hD⟩ := jn_appL hP hD hk1 hFc hP1 hD1
  clear hPc hKc hP1 hD1 hK1 hFc hk1 hz1 ht hvm
  generalize H1 = H at hP hS ⊢
  have hP : va_P (dC, dI) vwCl ((rfX p0 qt qg h0 rt cB cI vn ct ft fb gl T ++ wgW h0 qc qh r cA cI cJ me nw u tw iv hd M) ++ mdW m0 aN aR aX aO aP aH aL aW cI2 cJ2 vn ct nm ft fb an rw nx og no rc nc hgh lws dh dl fT fB wd) H := hP
  have hD : va_D (fun q : Nat => s.heap.size ≤ q) ((rfX p0 qt qg h0 rt cB cI vn ct ft fb gl T ++ wgW h0 qc qh r cA cI cJ me nw u tw iv hd M) ++ mdW m0 aN aR aX aO aP aH aL aW cI2 cJ2 vn ct nm ft fb an rw nx og no rc nc hgh lws dh dl fT fB wd) := hD
  refine lv_aload_n hx hb dL_law_310 rfl (lv_at hl 2 rfl) ?_
  refine lv_aload_n hx hb dL_law_311 rfl (lv_at hl 0 rfl) ?_
  refine lv_iload_n hx hb dL_law_312 rfl (lv_at hl 3 rfl) ?_
  refine lv_iconst (v := nI 1) hx hb dL_law_313 (by decide) ?_
  refine lv_iadd hx hb dL_law_314 ?_
  refine lv_topi (fun z_13 ez_13 => ?_)
  obtain rfl : z_13 = nI (i + 1) := ez_13.trans (nI_add i 1)
  refine va_sld hx hb hX hbl hbA hS (vp_in_nI (show i + 1 < L by omega) (by omega)) dL_law_315 ?_
  refine lv_topi (fun z_14 ez_14 => ?_)
  obtain rfl : z_14 = xs (i + 1) := ez_14.trans (by rw [nI_clamp (by omega)])
  refine lv_aload_n hx hb dL_law_316 rfl (lv_at hl 0 rfl) ?_
  refine lv_iload_n hx hb dL_law_317 rfl (lv_at hl 3 rfl) ?_
  refine lv_iconst (v := nI 2) hx hb dL_law_318 (by decide) ?_
  refine lv_iadd hx hb dL_law_319 ?_
  refine lv_topi (fun z_15 ez_15 => ?_)
  obtain rfl : z_15 = nI (i + 2) := ez_15.trans (nI_add i 2)
  refine va_sld hx hb hX hbl hbA hS (vp_in_nI (show i + 2 < L by omega) (by omega)) dL_law_320 ?_
  refine lv_topi (fun z_16 ez_16 => ?_)
  obtain rfl : z_16 = xs (i + 2) := ez_16.trans (by rw [nI_clamp (by omega)])
  refine lv_aload_n hx hb dL_law_321 rfl (lv_at hl 0 rfl) ?_
  refine lv_iload_n hx hb dL_law_322 rfl (lv_at hl 3 rfl) ?_
  refine lv_iconst (v := nI 3) hx hb dL_law_323 (by decide) ?_
  refine lv_iadd hx hb dL_law_324 ?_
  refine lv_topi (fun z_17 ez_17 => ?_)
  obtain rfl : z_17 = nI (i + 3) := ez_17.trans (nI_add i 3)
  refine va_sld hx hb hX hbl hbA hS (vp_in_nI (show i + 3 < L by omega) (by omega)) dL_law_325 ?_
  refine lv_topi (fun z_18 ez_18 => ?_)
  obtain rfl : z_18 = xs (i + 3) := ez_18.trans (by rw [nI_clamp (by omega)])
  refine lv_aload_n hx hb dL_law_326 rfl (lv_at hl 0 rfl) ?_
  refine lv_iload_n hx hb dL_law_327 rfl (lv_at hl 3 rfl) ?_
  refine lv_iconst (v := nI 4) hx hb dL_law_328 (by decide) ?_
  refine lv_iadd hx hb dL_law_329 ?_
  refine lv_topi (fun z_19 ez_19 => ?_)
  obtain rfl : z_19 = nI (i + 4) := ez_19.trans (nI_add i 4)
  refine va_sld hx hb hX hbl hbA hS (vp_in_nI (show i + 4 < L by omega) (by omega)) dL_law_330 ?_
  refine lv_topi (fun z_20 ez_20 => ?_)
  obtain rfl : z_20 = xs (i + 4) := ez_20.trans (by rw [nI_clamp (by omega)])
  refine lv_aload_n hx hb dL_law_331 rfl (lv_at hl 0 rfl) ?_
  refine lv_iload_n hx hb dL_law_332 rfl (lv_at hl 3 rfl) ?_
  refine lv_iconst (v := nI 5) hx hb dL_law_333 (by decide) ?_
  refine lv_iadd hx hb dL_law_334 ?_
  refine lv_topi (fun z_21 ez_21 => ?_)
  obtain rfl : z_21 = nI (i + 5) := ez_21.trans (nI_add i 5)
  refine va_sld hx hb hX hbl hbA hS (vp_in_nI (show i + 5 < L by omega) (by omega)) dL_law_335 ?_
  refine lv_topi (fun z_22 ez_22 => ?_)
  obtain rfl : z_22 = xs (i + 5) := ez_22.trans (by rw [nI_clamp (by omega)])
  refine lv_aload_n hx hb dL_law_336 rfl (lv_at hl 0 rfl) ?_
  refine lv_iload_n hx hb dL_law_337 rfl (lv_at hl 3 rfl) ?_
  refine lv_bipush (v := nI 6) hx hb dL_law_338 (by decide) ?_
  refine lv_iadd hx hb dL_law_340 ?_
  refine lv_topi (fun z_23 ez_23 => ?_)
  obtain rfl : z_23 = nI (i + 6) := ez_23.trans (nI_add i 6)
  refine va_sld hx hb hX hbl hbA hS (vp_in_nI (show i + 6 < L by omega) (by omega)) dL_law_341 ?_
  refine lv_topi (fun z_24 ez_24 => ?_)
  obtain rfl : z_24 = xs (i + 6) := ez_24.trans (by rw [nI_clamp (by omega)])
  have hPc : va_P (dC, dI) vwCl (mdW m0 aN aR aX aO aP aH aL aW cI2 cJ2 vn ct nm ft fb an rw nx og no rc nc hgh lws dh dl fT fB wd) H := va_Pr hP
  have hKc := hK.sub (tys' := [(cI2, .int), (cJ2, .long)]) [5, 6] rfl
  have hFc : ∀ q, va_A (mdW m0 aN aR aX aO aP aH aL aW cI2 cJ2 vn ct nm ft fb an rw nx og no rc nc hgh lws dh dl fT fB wd) H.size q → (fun q : Nat => s.heap.size ≤ q) q := va_Ar hD hS hA
  refine va_calli (va_runV (As := [.int (xs (i + 1)), .int (xs (i + 2)), .int (xs (i + 3)), .int (xs (i + 4)), .int (xs (i + 5)), .int (xs (i + 6))]) (rest := [.int r8]) ⟨hx, hb, hml, hown, hts⟩ (c_X2_keeps l dC dI H.size m0 aN aR aX aO aP aH aL aW cI2 cJ2 vn ct nm ft fb an rw nx og no rc nc hgh lws dh dl fT fB wd (xs (i + 1)) (xs (i + 2)) (xs (i + 3)) (xs (i + 4)) (xs (i + 5)) (xs (i + 6)) hc hv1 hv3) (cwV 6 hts gL_law_X2_keeps rfl rfl rfl (by decide +kernel) ⟨Nat.le_of_ble_eq_true rfl, Nat.le_of_ble_eq_true rfl⟩) ⟨fun a U g mk q => by obtain ⟨q0, q1, qP, qK, qD⟩ := q; exact ⟨q0, q1, qP, va_K.moved (u := U) (U := U.calling g mk a) (Vm.Alike.refl U.vm) qK, qD⟩, va_recv hKc hPc (ci := 2) (q0 := 0) rfl rfl, fun U hU hW => ⟨rfl, by rw [hU], by rw [hU]; exact hPc, va_K.moved hW.alike hKc, va_Dr hD⟩⟩ rfl rfl hl.1 rfl (lv_room (Nat.le_of_ble_eq_true rfl)) dL_law_342 ⟨Nat.le_of_ble_eq_true rfl, Nat.le_of_ble_eq_true rfl⟩) hS (fun q _ h => hFc q h) hFc (fun r9 v9 t H1 locs ht hvm hw9 hB hz1 hk1 hS => ?_)
  obtain ⟨hP1, hK1, hD1⟩ := hB
  rw [ht] at hP1
  obtain ⟨hP, hD⟩ := jn_app hP hD hk1 hFc hP1 hD1
  clear hPc hKc hP1 hD1 hK1 hFc hk1 hz1 ht hvm
  generalize H1 = H at hP hS ⊢
  have hP : va_P (dC, dI) vwCl ((rfX p0 qt qg h0 rt cB cI vn ct ft fb gl T ++ wgW h0 qc qh r cA cI cJ me nw u tw iv hd M) ++ mdW m0 aN aR aX aO aP aH aL aW cI2 cJ2 vn ct nm ft fb an rw nx og no rc nc hgh lws dh dl fT fB wd) H := hP
  have hD : va_D (fun q : Nat => s.heap.size ≤ q) ((rfX p0 qt qg h0 rt cB cI vn ct ft fb gl T ++ wgW h0 qc qh r cA cI cJ me nw u tw iv hd M) ++ mdW m0 aN aR aX aO aP aH aL aW cI2 cJ2 vn ct nm ft fb an rw nx og no rc nc hgh lws dh dl fT fB wd) := hD
  refine lv_icmp_eq (tgt := 532) hx hb dL_law_345 (by decide) (fun _ => ?_) (fun c9 => absurd (yn_eq (kp_all hR hv1 hv3 _ _ _ _ _ _) hw8 hw9) c9)
  exact nx9 H _ ls ⟨vn, ct, ft, fb, qt, qg, h0, rt, cB, cI, cA, cJ, qc, qh, r, gl, T, me, nw, u, tw, iv, hd, M, aN, aR, aX, aO, aP, aH, aL, aW, cI2, cJ2, nm, an, rw, nx, og, no, rc, nc, hgh, lws, dh, dl, fT, fB, wd, hv1, hv3, hc, hN, hR, hP, hK, hD⟩ hS hl
set_option maxHeartbeats 2000000 in
set_option maxRecDepth 100000 in
/-- the law, hasTurn -/
theorem law_hasTurn {p : Program} {l : Launch} {e : Env} {s : State} {m : MethodId} {below : List Frame} {meth : Method} {c : Code} {dC : Nat → ClassId} {dI : Nat → Nat → Nat} {b L : Nat} {xs : Nat → Int32} (hL : L ≤ 4096) (C0 : lw_At p s m meth c b L xs) {i p0 m0 : Nat} (hi : i + 8 ≤ L) (nx9 : ∀ (H : Heap) (locs : List Loc) (ls : Array Slot), Lw dC dI s p0 m0 H → va_S (fun q : Nat => s.heap.size ≤ q) s.heap H locs → lv_has ls 4 [(0, .ref b), (1, .ref p0), (2, .ref m0), (3, .int (nI i))] → W p l e room_1 s m #[Value.ref b] below meth c H locs 33 29176 (lw_Z below #[Value.ref b] s) (F0 m 532 ls [])) (H : Heap) (locs : List Loc) (ls : Array Slot) (hI : Lw dC dI s p0 m0 H) (hS : va_S (fun q : Nat => s.heap.size ≤ q) s.heap H locs) (hl : lv_has ls 4 [(0, .ref b), (1, .ref p0), (2, .ref m0), (3, .int (nI i))]) : W p l e room_1 s m #[Value.ref b] below meth c H locs 33 29176 (lw_Z below #[Value.ref b] s) (F0 m 350 ls []) := by
  obtain ⟨hx, hb, hr, hml, hown, hts0, hX, hbl, hlocks, hgv⟩ := C0
  have hts : ∀ w ∈ wsL_law, w.before #[Value.ref b] s = true := fun w h => hts0 w (wsL_law_in w h)
  clear hts0 hgv
  have hown : s.vm.findClass RL = some m.cls := hown
  have hb : c.code = cL_law := hb
  have hA : ∀ q : Nat, s.heap.size ≤ q → (fun q : Nat => s.heap.size ≤ q) q := fun _ h => h
  have hbA : ¬ (fun q : Nat => s.heap.size ≤ q) b := Nat.not_le.mpr hbl
  obtain ⟨vn, ct, ft, fb, qt, qg, h0, rt, cB, cI, cA, cJ, qc, qh, r, gl, T, me, nw, u, tw, iv, hd, M, aN, aR, aX, aO, aP, aH, aL, aW, cI2, cJ2, nm, an, rw, nx, og, no, rc, nc, hgh, lws, dh, dl, fT, fB, wd, hv1, hv3, hc, hN, hR, hP, hK, hD⟩ := hI
  refine lv_aload_n hx hb dL_law_350 rfl (lv_at hl 1 rfl) ?_
  have hPc : va_P (dC, dI) vwCl (rfX p0 qt qg h0 rt cB cI vn ct ft fb gl T ++ wgW h0 qc qh r cA cI cJ me nw u tw iv hd M) H := va_Pl hP
  have hKc := hK.sub (tys' := ((cB, .array .int) :: (cI, .int) :: wgT cA cI cJ)) [0, 1, 2, 3, 4] rfl
  have hFc : ∀ q, va_A (rfX p0 qt qg h0 rt cB cI vn ct ft fb gl T ++ wgW h0 qc qh r cA cI cJ me nw u tw iv hd M) H.size q → (fun q : Nat => s.heap.size ≤ q) q := va_Al hD hS hA
  refine va_calli (va_runV (As := []) (rest := []) ⟨hx, hb, hml, hown, hts⟩ (c_X1_hasTurn l dC dI H.size p0 qt qg h0 rt cB cI cA cJ qc qh r vn ct ft fb gl T me nw u tw iv hd M hv1 hv3 hc (okT_N hR hN)) (cwV 0 hts gL_law_X1_hasTurn rfl rfl rfl (by decide +kernel) ⟨Nat.le_of_ble_eq_true rfl, Nat.le_of_ble_eq_true rfl⟩) ⟨fun a U g mk q => by obtain ⟨q0, q1, qP, qK, qD⟩ := q; exact ⟨q0, q1, qP, va_K.moved (u := U) (U := U.calling g mk a) (Vm.Alike.refl U.vm) qK, qD⟩, va_recv hKc hPc (ci := 1) (q0 := 0) rfl rfl, fun U hU hW => ⟨rfl, by rw [hU], by rw [hU]; exact hPc, va_K.moved hW.alike hKc, va_Dl hD⟩⟩ rfl rfl hl.1 rfl (lv_room (Nat.le_of_ble_eq_true rfl)) dL_law_351 ⟨Nat.le_of_ble_eq_true rfl, Nat.le_of_ble_eq_true rfl⟩) hS (fun q _ h => hFc q h) hFc (fun r8 v8 t H1 locs ht hvm hw8 hB hz1 hk1 hS => ?_)
  obtain ⟨hP1, hK1, hD1⟩ := hB
  rw [ht] at hP1
  obtain ⟨hP, hD⟩ := jn_appL hP hD hk1 hFc hP1 hD1
  clear hPc hKc hP1 hD1 hK1 hFc hk1 hz1 ht hvm
  generalize H1 = H at hP hS ⊢
  have hP : va_P (dC, dI) vwCl ((rfX p0 qt qg h0 rt cB cI vn ct ft fb (filI gl 6 0) T ++ wgW h0 qc qh r cA cI cJ (2 * vn) ct v8.2.2.1 v8.2.2.2.1 v8.2.2.2.2.1 v8.2.1 v8.1) ++ mdW m0 aN aR aX aO aP aH aL aW cI2 cJ2 vn ct nm ft fb an rw nx og no rc nc hgh lws dh dl fT fB wd) H := hP
  have hD : va_D (fun q : Nat => s.heap.size ≤ q) ((rfX p0 qt qg h0 rt cB cI vn ct ft fb (filI gl 6 0) T ++ wgW h0 qc qh r cA cI cJ (2 * vn) ct v8.2.2.1 v8.2.2.2.1 v8.2.2.2.2.1 v8.2.1 v8.1) ++ mdW m0 aN aR aX aO aP aH aL aW cI2 cJ2 vn ct nm ft fb an rw nx og no rc nc hgh lws dh dl fT fB wd) := hD
  refine lv_aload_n hx hb dL_law_354 rfl (lv_at hl 2 rfl) ?_
  have hPc : va_P (dC, dI) vwCl (mdW m0 aN aR aX aO aP aH aL aW cI2 cJ2 vn ct nm ft fb an rw nx og no rc nc hgh lws dh dl fT fB wd) H := va_Pr hP
  have hKc := hK.sub (tys' := [(cI2, .int), (cJ2, .long)]) [5, 6] rfl
  have hFc : ∀ q, va_A (mdW m0 aN aR aX aO aP aH aL aW cI2 cJ2 vn ct nm ft fb an rw nx og no rc nc hgh lws dh dl fT fB wd) H.size q → (fun q : Nat => s.heap.size ≤ q) q := va_Ar hD hS hA
  refine va_calli (va_runV (As := []) (rest := [.int r8]) ⟨hx, hb, hml, hown, hts⟩ (c_X2_hasTurn l dC dI H.size m0 aN aR aX aO aP aH aL aW cI2 cJ2 vn ct nm ft fb an rw nx og no rc nc hgh lws dh dl fT fB wd hv1 hv3 hc hN) (cwV 0 hts gL_law_X2_hasTurn rfl rfl rfl (by decide +kernel) ⟨Nat.le_of_ble_eq_true rfl, Nat.le_of_ble_eq_true rfl⟩) ⟨fun a U g mk q => by obtain ⟨q0, q1, qP, qK, qD⟩ := q; exact ⟨q0, q1, qP, va_K.moved (u := U) (U := U.calling g mk a) (Vm.Alike.refl U.vm) qK, qD⟩, va_recv hKc hPc (ci := 2) (q0 := 0) rfl rfl, fun U hU hW => ⟨rfl, by rw [hU], by rw [hU]; exact hPc, va_K.moved hW.alike hKc, va_Dr hD⟩⟩ rfl rfl hl.1 rfl (lv_room (Nat.le_of_ble_eq_true rfl)) dL_law_355 ⟨Nat.le_of_ble_eq_true rfl, Nat.le_of_ble_eq_true rfl⟩) hS (fun q _ h => hFc q h) hFc (fun r9 v9 t H1 locs ht hvm hw9 hB hz1 hk1 hS => ?_)
  obtain ⟨hP1, hK1, hD1⟩ := hB
  rw [ht] at hP1
  obtain ⟨hP, hD⟩ := jn_app hP hD hk1 hFc hP1 hD1
  clear hPc hKc hP1 hD1 hK1 hFc hk1 hz1 ht hvm
  generalize H1 = H at hP hS ⊢
  have hP : va_P (dC, dI) vwCl ((rfX p0 qt qg h0 rt cB cI vn ct ft fb (filI gl 6 0) T ++ wgW h0 qc qh r cA cI cJ (2 * vn) ct v8.2.2.1 v8.2.2.2.1 v8.2.2.2.2.1 v8.2.1 v8.1) ++ mdW m0 aN aR aX aO aP aH aL aW cI2 cJ2 vn ct nm ft fb an v9.2.1 v9.2.2.2.1 v9.2.2.1 v9.2.2.2.2.1 v9.1 v9.2.2.2.2.2.2.2.2.2 v9.2.2.2.2.2.1 v9.2.2.2.2.2.2.1 v9.2.2.2.2.2.2.2.1 v9.2.2.2.2.2.2.2.2.1 fT fB wd) H := hP
  have hD : va_D (fun q : Nat => s.heap.size ≤ q) ((rfX p0 qt qg h0 rt cB cI vn ct ft fb (filI gl 6 0) T ++ wgW h0 qc qh r cA cI cJ (2 * vn) ct v8.2.2.1 v8.2.2.2.1 v8.2.2.2.2.1 v8.2.1 v8.1) ++ mdW m0 aN aR aX aO aP aH aL aW cI2 cJ2 vn ct nm ft fb an v9.2.1 v9.2.2.2.1 v9.2.2.1 v9.2.2.2.2.1 v9.1 v9.2.2.2.2.2.2.2.2.2 v9.2.2.2.2.2.1 v9.2.2.2.2.2.2.1 v9.2.2.2.2.2.2.2.1 v9.2.2.2.2.2.2.2.2.1 fT fB wd) := hD
  refine lv_icmp_eq (tgt := 532) hx hb dL_law_358 (by decide) (fun _ => ?_) (fun c9 => absurd (ans_turn hv3 hR hw8 hw9) c9)
  exact nx9 H _ ls ⟨vn, ct, ft, fb, qt, qg, h0, rt, cB, cI, cA, cJ, qc, qh, r, filI gl 6 0, T, 2 * vn, ct, v8.2.2.1, v8.2.2.2.1, v8.2.2.2.2.1, v8.2.1, v8.1, aN, aR, aX, aO, aP, aH, aL, aW, cI2, cJ2, nm, an, v9.2.1, v9.2.2.2.1, v9.2.2.1, v9.2.2.2.2.1, v9.1, v9.2.2.2.2.2.2.2.2.2, v9.2.2.2.2.2.1, v9.2.2.2.2.2.2.1, v9.2.2.2.2.2.2.2.1, v9.2.2.2.2.2.2.2.2.1, fT, fB, wd, hv1, hv3, hc, hN, hR, hP, hK, hD⟩ hS hl
set_option maxHeartbeats 2000000 in
set_option maxRecDepth 100000 in
/-- the law, ranked -/
theorem law_ranked {p : Program} {l : Launch} {e : Env} {s : State} {m : MethodId} {below : List Frame} {meth : Method} {c : Code} {dC : Nat → ClassId} {dI : Nat → Nat → Nat} {b L : Nat} {xs : Nat → Int32} (hL : L ≤ 4096) (C0 : lw_At p s m meth c b L xs) {i p0 m0 : Nat} (hi : i + 8 ≤ L) (nx9 : ∀ (H : Heap) (locs : List Loc) (ls : Array Slot), Lw dC dI s p0 m0 H → va_S (fun q : Nat => s.heap.size ≤ q) s.heap H locs → lv_has ls 4 [(0, .ref b), (1, .ref p0), (2, .ref m0), (3, .int (nI i))] → W p l e room_1 s m #[Value.ref b] below meth c H locs 33 29176 (lw_Z below #[Value.ref b] s) (F0 m 532 ls [])) (H : Heap) (locs : List Loc) (ls : Array Slot) (hI : Lw dC dI s p0 m0 H) (hS : va_S (fun q : Nat => s.heap.size ≤ q) s.heap H locs) (hl : lv_has ls 4 [(0, .ref b), (1, .ref p0), (2, .ref m0), (3, .int (nI i))]) : W p l e room_1 s m #[Value.ref b] below meth c H locs 33 29176 (lw_Z below #[Value.ref b] s) (F0 m 363 ls []) := by
  obtain ⟨hx, hb, hr, hml, hown, hts0, hX, hbl, hlocks, hgv⟩ := C0
  have hts : ∀ w ∈ wsL_law, w.before #[Value.ref b] s = true := fun w h => hts0 w (wsL_law_in w h)
  clear hts0 hgv
  have hown : s.vm.findClass RL = some m.cls := hown
  have hb : c.code = cL_law := hb
  have hA : ∀ q : Nat, s.heap.size ≤ q → (fun q : Nat => s.heap.size ≤ q) q := fun _ h => h
  have hbA : ¬ (fun q : Nat => s.heap.size ≤ q) b := Nat.not_le.mpr hbl
  obtain ⟨vn, ct, ft, fb, qt, qg, h0, rt, cB, cI, cA, cJ, qc, qh, r, gl, T, me, nw, u, tw, iv, hd, M, aN, aR, aX, aO, aP, aH, aL, aW, cI2, cJ2, nm, an, rw, nx, og, no, rc, nc, hgh, lws, dh, dl, fT, fB, wd, hv1, hv3, hc, hN, hR, hP, hK, hD⟩ := hI
  refine lv_aload_n hx hb dL_law_363 rfl (lv_at hl 1 rfl) ?_
  have hPc : va_P (dC, dI) vwCl (rfX p0 qt qg h0 rt cB cI vn ct ft fb gl T ++ wgW h0 qc qh r cA cI cJ me nw u tw iv hd M) H := va_Pl hP
  have hKc := hK.sub (tys' := ((cB, .array .int) :: (cI, .int) :: wgT cA cI cJ)) [0, 1, 2, 3, 4] rfl
  have hFc : ∀ q, va_A (rfX p0 qt qg h0 rt cB cI vn ct ft fb gl T ++ wgW h0 qc qh r cA cI cJ me nw u tw iv hd M) H.size q → (fun q : Nat => s.heap.size ≤ q) q := va_Al hD hS hA
  refine va_calli (va_runV (As := []) (rest := []) ⟨hx, hb, hml, hown, hts⟩ (c_X1_ranked l dC dI H.size p0 qt qg h0 rt cB cI cA cJ qc qh r vn ct ft fb gl T me nw u tw iv hd M hv1 hv3 hc (okT_N hR hN)) (cwV 0 hts gL_law_X1_ranked rfl rfl rfl (by decide +kernel) ⟨Nat.le_of_ble_eq_true rfl, Nat.le_of_ble_eq_true rfl⟩) ⟨fun a U g mk q => by obtain ⟨q0, q1, qP, qK, qD⟩ := q; exact ⟨q0, q1, qP, va_K.moved (u := U) (U := U.calling g mk a) (Vm.Alike.refl U.vm) qK, qD⟩, va_recv hKc hPc (ci := 1) (q0 := 0) rfl rfl, fun U hU hW => ⟨rfl, by rw [hU], by rw [hU]; exact hPc, va_K.moved hW.alike hKc, va_Dl hD⟩⟩ rfl rfl hl.1 rfl (lv_room (Nat.le_of_ble_eq_true rfl)) dL_law_364 ⟨Nat.le_of_ble_eq_true rfl, Nat.le_of_ble_eq_true rfl⟩) hS (fun q _ h => hFc q h) hFc (fun r8 v8 t H1 locs ht hvm hw8 hB hz1 hk1 hS => ?_)
  obtain ⟨hP1, hK1, hD1⟩ := hB
  rw [ht] at hP1
  obtain ⟨hP, hD⟩ := jn_appL hP hD hk1 hFc hP1 hD1
  clear hPc hKc hP1 hD1 hK1 hFc hk1 hz1 ht hvm
  generalize H1 = H at hP hS ⊢
  have hP : va_P (dC, dI) vwCl ((rfX p0 qt qg h0 rt cB cI vn ct ft fb gl T ++ wgW h0 qc qh r cA cI cJ (3 * vn) (2 * ct) v8.2.2.1 v8.2.2.2.1 v8.2.2.2.2.1 v8.2.1 v8.1) ++ mdW m0 aN aR aX aO aP aH aL aW cI2 cJ2 vn ct nm ft fb an rw nx og no rc nc hgh lws dh dl fT fB wd) H := hP
  have hD : va_D (fun q : Nat => s.heap.size ≤ q) ((rfX p0 qt qg h0 rt cB cI vn ct ft fb gl T ++ wgW h0 qc qh r cA cI cJ (3 * vn) (2 * ct) v8.2.2.1 v8.2.2.2.1 v8.2.2.2.2.1 v8.2.1 v8.1) ++ mdW m0 aN aR aX aO aP aH aL aW cI2 cJ2 vn ct nm ft fb an rw nx og no rc nc hgh lws dh dl fT fB wd) := hD
  refine lv_aload_n hx hb dL_law_367 rfl (lv_at hl 2 rfl) ?_
  have hPc : va_P (dC, dI) vwCl (mdW m0 aN aR aX aO aP aH aL aW cI2 cJ2 vn ct nm ft fb an rw nx og no rc nc hgh lws dh dl fT fB wd) H := va_Pr hP
  have hKc := hK.sub (tys' := [(cI2, .int), (cJ2, .long)]) [5, 6] rfl
  have hFc : ∀ q, va_A (mdW m0 aN aR aX aO aP aH aL aW cI2 cJ2 vn ct nm ft fb an rw nx og no rc nc hgh lws dh dl fT fB wd) H.size q → (fun q : Nat => s.heap.size ≤ q) q := va_Ar hD hS hA
  refine va_calli (va_runV (As := []) (rest := [.int r8]) ⟨hx, hb, hml, hown, hts⟩ (c_X2_ranked l dC dI H.size m0 aN aR aX aO aP aH aL aW cI2 cJ2 vn ct nm ft fb an rw nx og no rc nc hgh lws dh dl fT fB wd hv1 hv3 hc hN) (cwV 0 hts gL_law_X2_ranked rfl rfl rfl (by decide +kernel) ⟨Nat.le_of_ble_eq_true rfl, Nat.le_of_ble_eq_true rfl⟩) ⟨fun a U g mk q => by obtain ⟨q0, q1, qP, qK, qD⟩ := q; exact ⟨q0, q1, qP, va_K.moved (u := U) (U := U.calling g mk a) (Vm.Alike.refl U.vm) qK, qD⟩, va_recv hKc hPc (ci := 2) (q0 := 0) rfl rfl, fun U hU hW => ⟨rfl, by rw [hU], by rw [hU]; exact hPc, va_K.moved hW.alike hKc, va_Dr hD⟩⟩ rfl rfl hl.1 rfl (lv_room (Nat.le_of_ble_eq_true rfl)) dL_law_368 ⟨Nat.le_of_ble_eq_true rfl, Nat.le_of_ble_eq_true rfl⟩) hS (fun q _ h => hFc q h) hFc (fun r9 v9 t H1 locs ht hvm hw9 hB hz1 hk1 hS => ?_)
  obtain ⟨hP1, hK1, hD1⟩ := hB
  rw [ht] at hP1
  obtain ⟨hP, hD⟩ := jn_app hP hD hk1 hFc hP1 hD1
  clear hPc hKc hP1 hD1 hK1 hFc hk1 hz1 ht hvm
  generalize H1 = H at hP hS ⊢
  have hP : va_P (dC, dI) vwCl ((rfX p0 qt qg h0 rt cB cI vn ct ft fb gl T ++ wgW h0 qc qh r cA cI cJ (3 * vn) (2 * ct) v8.2.2.1 v8.2.2.2.1 v8.2.2.2.2.1 v8.2.1 v8.1) ++ mdW m0 aN aR aX aO aP aH aL aW cI2 cJ2 vn ct nm ft fb an v9.2.1 v9.2.2.2.1 v9.2.2.1 v9.2.2.2.2.1 v9.1 v9.2.2.2.2.2.2.2.2.2 v9.2.2.2.2.2.1 v9.2.2.2.2.2.2.1 v9.2.2.2.2.2.2.2.1 v9.2.2.2.2.2.2.2.2.1 fT fB wd) H := hP
  have hD : va_D (fun q : Nat => s.heap.size ≤ q) ((rfX p0 qt qg h0 rt cB cI vn ct ft fb gl T ++ wgW h0 qc qh r cA cI cJ (3 * vn) (2 * ct) v8.2.2.1 v8.2.2.2.1 v8.2.2.2.2.1 v8.2.1 v8.1) ++ mdW m0 aN aR aX aO aP aH aL aW cI2 cJ2 vn ct nm ft fb an v9.2.1 v9.2.2.2.1 v9.2.2.1 v9.2.2.2.2.1 v9.1 v9.2.2.2.2.2.2.2.2.2 v9.2.2.2.2.2.1 v9.2.2.2.2.2.2.1 v9.2.2.2.2.2.2.2.1 v9.2.2.2.2.2.2.2.2.1 fT fB wd) := hD
  refine lv_icmp_eq (tgt := 532) hx hb dL_law_371 (by decide) (fun _ => ?_) (fun c9 => absurd (ans_ranked hv1 hv3 hR hw8 hw9) c9)
  exact nx9 H _ ls ⟨vn, ct, ft, fb, qt, qg, h0, rt, cB, cI, cA, cJ, qc, qh, r, gl, T, 3 * vn, 2 * ct, v8.2.2.1, v8.2.2.2.1, v8.2.2.2.2.1, v8.2.1, v8.1, aN, aR, aX, aO, aP, aH, aL, aW, cI2, cJ2, nm, an, v9.2.1, v9.2.2.2.1, v9.2.2.1, v9.2.2.2.2.1, v9.1, v9.2.2.2.2.2.2.2.2.2, v9.2.2.2.2.2.1, v9.2.2.2.2.2.2.1, v9.2.2.2.2.2.2.2.1, v9.2.2.2.2.2.2.2.2.1, fT, fB, wd, hv1, hv3, hc, hN, hR, hP, hK, hD⟩ hS hl
