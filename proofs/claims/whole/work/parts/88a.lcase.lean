set_option maxHeartbeats 2000000 in
set_option maxRecDepth 100000 in
/-- the law, begin -/
theorem law_begin {p : Program} {l : Launch} {e : Env} {s : State} {m : MethodId} {below : List Frame} {meth : Method} {c : Code} {dC : Nat → ClassId} {dI : Nat → Nat → Nat} {b L : Nat} {xs : Nat → Int32} (hL : L ≤ 4096) (C0 : lw_At p s m meth c b L xs) {i p0 m0 : Nat} (hi : i + 8 ≤ L) (nx9 : ∀ (H : Heap) (locs : List Loc) (ls : Array Slot), Lw dC dI s p0 m0 H → va_S (fun q : Nat => s.heap.size ≤ q) s.heap H locs → lv_has ls 4 [(0, .ref b), (1, .ref p0), (2, .ref m0), (3, .int (nI i))] → W p l e room_1 s m #[Value.ref b] below meth c H locs 33 29176 (lw_Z below #[Value.ref b] s) (F0 m 532 ls [])) (H : Heap) (locs : List Loc) (ls : Array Slot) (hI : Lw dC dI s p0 m0 H) (hS : va_S (fun q : Nat => s.heap.size ≤ q) s.heap H locs) (hl : lv_has ls 4 [(0, .ref b), (1, .ref p0), (2, .ref m0), (3, .int (nI i))]) : W p l e room_1 s m #[Value.ref b] below meth c H locs 33 29176 (lw_Z below #[Value.ref b] s) (F0 m 96 ls []) := by
  obtain ⟨hx, hb, hr, hml, hown, hts0, hX, hbl, hlocks, hgv⟩ := C0
  have hts : ∀ w ∈ wsL_law, w.before #[Value.ref b] s = true := fun w h => hts0 w (wsL_law_in w h)
  clear hts0 hgv
  have hown : s.vm.findClass RL = some m.cls := hown
  have hb : c.code = cL_law := hb
  have hA : ∀ q : Nat, s.heap.size ≤ q → (fun q : Nat => s.heap.size ≤ q) q := fun _ h => h
  have hbA : ¬ (fun q : Nat => s.heap.size ≤ q) b := Nat.not_le.mpr hbl
  obtain ⟨vn, ct, ft, fb, qt, qg, h0, rt, cB, cI, cA, cJ, qc, qh, r, gl, T, me, nw, u, tw, iv, hd, M, aN, aR, aX, aO, aP, aH, aL, aW, cI2, cJ2, nm, an, rw, nx, og, no, rc, nc, hgh, lws, dh, dl, fT, fB, wd, hv1, hv3, hc, hN, hR, hP, hK, hD⟩ := hI
  refine lv_aload_n hx hb dL_law_96 rfl (lv_at hl 1 rfl) ?_
  refine lv_aload_n hx hb dL_law_97 rfl (lv_at hl 0 rfl) ?_
  refine lv_iload_n hx hb dL_law_98 rfl (lv_at hl 3 rfl) ?_
  refine lv_iconst (v := nI 1) hx hb dL_law_99 (by decide) ?_
  refine lv_iadd hx hb dL_law_100 ?_
  refine lv_topi (fun z_1 ez_1 => ?_)
  obtain rfl : z_1 = nI (i + 1) := ez_1.trans (nI_add i 1)
  refine va_sld hx hb hX hbl hbA hS (vp_in_nI (show i + 1 < L by omega) (by omega)) dL_law_101 ?_
  refine lv_topi (fun z_2 ez_2 => ?_)
  obtain rfl : z_2 = xs (i + 1) := ez_2.trans (by rw [nI_clamp (by omega)])
  have hPc : va_P (dC, dI) vwCl (rfX p0 qt qg h0 rt cB cI vn ct ft fb gl T ++ wgW h0 qc qh r cA cI cJ me nw u tw iv hd M) H := va_Pl hP
  have hKc := hK.sub (tys' := ((cB, .array .int) :: (cI, .int) :: wgT cA cI cJ)) [0, 1, 2, 3, 4] rfl
  have hFc : ∀ q, va_A (rfX p0 qt qg h0 rt cB cI vn ct ft fb gl T ++ wgW h0 qc qh r cA cI cJ me nw u tw iv hd M) H.size q → (fun q : Nat => s.heap.size ≤ q) q := va_Al hD hS hA
  refine va_calli (va_runV (As := [.int (xs (i + 1))]) (rest := []) ⟨hx, hb, hml, hown, hts⟩ (c_X1_begin l dC dI H.size p0 qt qg h0 rt cB cI (wgT cA cI cJ) (wgW h0 qc qh r cA cI cJ me nw u tw iv hd M) vn ct ft fb gl T (xs (i + 1))) (cwV 1 hts gL_law_X1_begin rfl rfl rfl (by decide +kernel) ⟨Nat.le_of_ble_eq_true rfl, Nat.le_of_ble_eq_true rfl⟩) ⟨fun a U g mk q => by obtain ⟨q0, q1, qP, qK, qD⟩ := q; exact ⟨q0, q1, qP, va_K.moved (u := U) (U := U.calling g mk a) (Vm.Alike.refl U.vm) qK, qD⟩, va_recv hKc hPc (ci := 1) (q0 := 0) rfl rfl, fun U hU hW => ⟨rfl, by rw [hU], by rw [hU]; exact hPc, va_K.moved hW.alike hKc, va_Dl hD⟩⟩ rfl rfl hl.1 rfl (lv_room (Nat.le_of_ble_eq_true rfl)) dL_law_102 ⟨Nat.le_of_ble_eq_true rfl, Nat.le_of_ble_eq_true rfl⟩) hS (fun q _ h => hFc q h) hFc (fun r8 v8 t H1 locs ht hvm hw8 hB hz1 hk1 hS => ?_)
  obtain ⟨hP1, hK1, hD1⟩ := hB
  rw [ht] at hP1
  obtain ⟨hP, hD⟩ := jn_appL hP hD hk1 hFc hP1 hD1
  clear hPc hKc hP1 hD1 hK1 hFc hk1 hz1 ht hvm
  generalize H1 = H at hP hS ⊢
  have hP : va_P (dC, dI) vwCl ((rfX p0 qt qg h0 rt cB cI v8.1 v8.2 ft fb gl T ++ wgW h0 qc qh r cA cI cJ me nw u tw iv hd M) ++ mdW m0 aN aR aX aO aP aH aL aW cI2 cJ2 vn ct nm ft fb an rw nx og no rc nc hgh lws dh dl fT fB wd) H := hP
  have hD : va_D (fun q : Nat => s.heap.size ≤ q) ((rfX p0 qt qg h0 rt cB cI v8.1 v8.2 ft fb gl T ++ wgW h0 qc qh r cA cI cJ me nw u tw iv hd M) ++ mdW m0 aN aR aX aO aP aH aL aW cI2 cJ2 vn ct nm ft fb an rw nx og no rc nc hgh lws dh dl fT fB wd) := hD
  refine lv_aload_n hx hb dL_law_105 rfl (lv_at hl 2 rfl) ?_
  refine lv_aload_n hx hb dL_law_106 rfl (lv_at hl 0 rfl) ?_
  refine lv_iload_n hx hb dL_law_107 rfl (lv_at hl 3 rfl) ?_
  refine lv_iconst (v := nI 1) hx hb dL_law_108 (by decide) ?_
  refine lv_iadd hx hb dL_law_109 ?_
  refine lv_topi (fun z_3 ez_3 => ?_)
  obtain rfl : z_3 = nI (i + 1) := ez_3.trans (nI_add i 1)
  refine va_sld hx hb hX hbl hbA hS (vp_in_nI (show i + 1 < L by omega) (by omega)) dL_law_110 ?_
  refine lv_topi (fun z_4 ez_4 => ?_)
  obtain rfl : z_4 = xs (i + 1) := ez_4.trans (by rw [nI_clamp (by omega)])
  have hPc : va_P (dC, dI) vwCl (mdW m0 aN aR aX aO aP aH aL aW cI2 cJ2 vn ct nm ft fb an rw nx og no rc nc hgh lws dh dl fT fB wd) H := va_Pr hP
  have hKc := hK.sub (tys' := [(cI2, .int), (cJ2, .long)]) [5, 6] rfl
  have hFc : ∀ q, va_A (mdW m0 aN aR aX aO aP aH aL aW cI2 cJ2 vn ct nm ft fb an rw nx og no rc nc hgh lws dh dl fT fB wd) H.size q → (fun q : Nat => s.heap.size ≤ q) q := va_Ar hD hS hA
  refine va_calli (va_runV (As := [.int (xs (i + 1))]) (rest := [.int r8]) ⟨hx, hb, hml, hown, hts⟩ (c_X2_begin l dC dI H.size m0 aN aR aX aO aP aH aL aW cI2 cJ2 vn ct nm ft fb an rw nx og no rc nc hgh lws dh dl fT fB wd (xs (i + 1))) (cwV 1 hts gL_law_X2_begin rfl rfl rfl (by decide +kernel) ⟨Nat.le_of_ble_eq_true rfl, Nat.le_of_ble_eq_true rfl⟩) ⟨fun a U g mk q => by obtain ⟨q0, q1, qP, qK, qD⟩ := q; exact ⟨q0, q1, qP, va_K.moved (u := U) (U := U.calling g mk a) (Vm.Alike.refl U.vm) qK, qD⟩, va_recv hKc hPc (ci := 2) (q0 := 0) rfl rfl, fun U hU hW => ⟨rfl, by rw [hU], by rw [hU]; exact hPc, va_K.moved hW.alike hKc, va_Dr hD⟩⟩ rfl rfl hl.1 rfl (lv_room (Nat.le_of_ble_eq_true rfl)) dL_law_111 ⟨Nat.le_of_ble_eq_true rfl, Nat.le_of_ble_eq_true rfl⟩) hS (fun q _ h => hFc q h) hFc (fun r9 v9 t H1 locs ht hvm hw9 hB hz1 hk1 hS => ?_)
  obtain ⟨hP1, hK1, hD1⟩ := hB
  rw [ht] at hP1
  obtain ⟨hP, hD⟩ := jn_app hP hD hk1 hFc hP1 hD1
  clear hPc hKc hP1 hD1 hK1 hFc hk1 hz1 ht hvm
  generalize H1 = H at hP hS ⊢
  have hP : va_P (dC, dI) vwCl ((rfX p0 qt qg h0 rt cB cI v8.1 v8.2 ft fb gl T ++ wgW h0 qc qh r cA cI cJ me nw u tw iv hd M) ++ mdW m0 aN aR aX aO aP aH aL aW cI2 cJ2 v9.1 v9.2 nm ft fb an rw nx og no rc nc hgh lws dh dl fT fB wd) H := hP
  have hD : va_D (fun q : Nat => s.heap.size ≤ q) ((rfX p0 qt qg h0 rt cB cI v8.1 v8.2 ft fb gl T ++ wgW h0 qc qh r cA cI cJ me nw u tw iv hd M) ++ mdW m0 aN aR aX aO aP aH aL aW cI2 cJ2 v9.1 v9.2 nm ft fb an rw nx og no rc nc hgh lws dh dl fT fB wd) := hD
  rcases hw8 with ⟨j, j1, j2, jk, rfl, rfl⟩ | ⟨rfl, hj, rfl⟩ <;> rcases hw9 with ⟨j9, k1, k2, kk9, rfl, rfl⟩ | ⟨rfl, hj9, rfl⟩
  · obtain rfl : j = j9 := nI_inj (by omega) (by omega) (jk.symm.trans kk9)
    refine lv_icmp_eq (tgt := 532) hx hb dL_law_114 (by decide) (fun _ => ?_) (fun c9 => absurd (rfl) c9)
    exact nx9 H _ ls ⟨j, 0, ft, fb, qt, qg, h0, rt, cB, cI, cA, cJ, qc, qh, r, gl, T, me, nw, u, tw, iv, hd, M, aN, aR, aX, aO, aP, aH, aL, aW, cI2, cJ2, nm, an, rw, nx, og, no, rc, nc, hgh, lws, dh, dl, fT, fB, wd, j1, j2, by omega, okN_0, lwR_0, hP, hK, hD⟩ hS hl
  · exact absurd jk (hj9 j j1 j2)
  · exact absurd kk9 (hj j9 k1 k2)
  · refine lv_icmp_eq (tgt := 532) hx hb dL_law_114 (by decide) (fun _ => ?_) (fun c9 => absurd (rfl) c9)
    exact nx9 H _ ls ⟨vn, ct, ft, fb, qt, qg, h0, rt, cB, cI, cA, cJ, qc, qh, r, gl, T, me, nw, u, tw, iv, hd, M, aN, aR, aX, aO, aP, aH, aL, aW, cI2, cJ2, nm, an, rw, nx, og, no, rc, nc, hgh, lws, dh, dl, fT, fB, wd, hv1, hv3, hc, hN, hR, hP, hK, hD⟩ hS hl
set_option maxHeartbeats 2000000 in
set_option maxRecDepth 100000 in
/-- the law, rule -/
theorem law_rule {p : Program} {l : Launch} {e : Env} {s : State} {m : MethodId} {below : List Frame} {meth : Method} {c : Code} {dC : Nat → ClassId} {dI : Nat → Nat → Nat} {b L : Nat} {xs : Nat → Int32} (hL : L ≤ 4096) (C0 : lw_At p s m meth c b L xs) {i p0 m0 : Nat} (hi : i + 8 ≤ L) (nx9 : ∀ (H : Heap) (locs : List Loc) (ls : Array Slot), Lw dC dI s p0 m0 H → va_S (fun q : Nat => s.heap.size ≤ q) s.heap H locs → lv_has ls 4 [(0, .ref b), (1, .ref p0), (2, .ref m0), (3, .int (nI i))] → W p l e room_1 s m #[Value.ref b] below meth c H locs 33 29176 (lw_Z below #[Value.ref b] s) (F0 m 532 ls [])) (H : Heap) (locs : List Loc) (ls : Array Slot) (hI : Lw dC dI s p0 m0 H) (hS : va_S (fun q : Nat => s.heap.size ≤ q) s.heap H locs) (hl : lv_has ls 4 [(0, .ref b), (1, .ref p0), (2, .ref m0), (3, .int (nI i))]) : W p l e room_1 s m #[Value.ref b] below meth c H locs 33 29176 (lw_Z below #[Value.ref b] s) (F0 m 119 ls []) := by
  obtain ⟨hx, hb, hr, hml, hown, hts0, hX, hbl, hlocks, hgv⟩ := C0
  have hts : ∀ w ∈ wsL_law, w.before #[Value.ref b] s = true := fun w h => hts0 w (wsL_law_in w h)
  clear hts0 hgv
  have hown : s.vm.findClass RL = some m.cls := hown
  have hb : c.code = cL_law := hb
  have hA : ∀ q : Nat, s.heap.size ≤ q → (fun q : Nat => s.heap.size ≤ q) q := fun _ h => h
  have hbA : ¬ (fun q : Nat => s.heap.size ≤ q) b := Nat.not_le.mpr hbl
  obtain ⟨vn, ct, ft, fb, qt, qg, h0, rt, cB, cI, cA, cJ, qc, qh, r, gl, T, me, nw, u, tw, iv, hd, M, aN, aR, aX, aO, aP, aH, aL, aW, cI2, cJ2, nm, an, rw, nx, og, no, rc, nc, hgh, lws, dh, dl, fT, fB, wd, hv1, hv3, hc, hN, hR, hP, hK, hD⟩ := hI
  refine lv_aload_n hx hb dL_law_119 rfl (lv_at hl 1 rfl) ?_
  refine lv_aload_n hx hb dL_law_120 rfl (lv_at hl 0 rfl) ?_
  refine lv_iload_n hx hb dL_law_121 rfl (lv_at hl 3 rfl) ?_
  refine lv_iconst (v := nI 1) hx hb dL_law_122 (by decide) ?_
  refine lv_iadd hx hb dL_law_123 ?_
  refine lv_topi (fun z_1 ez_1 => ?_)
  obtain rfl : z_1 = nI (i + 1) := ez_1.trans (nI_add i 1)
  refine va_sld hx hb hX hbl hbA hS (vp_in_nI (show i + 1 < L by omega) (by omega)) dL_law_124 ?_
  refine lv_topi (fun z_2 ez_2 => ?_)
  obtain rfl : z_2 = xs (i + 1) := ez_2.trans (by rw [nI_clamp (by omega)])
  refine lv_aload_n hx hb dL_law_125 rfl (lv_at hl 0 rfl) ?_
  refine lv_iload_n hx hb dL_law_126 rfl (lv_at hl 3 rfl) ?_
  refine lv_iconst (v := nI 2) hx hb dL_law_127 (by decide) ?_
  refine lv_iadd hx hb dL_law_128 ?_
  refine lv_topi (fun z_3 ez_3 => ?_)
  obtain rfl : z_3 = nI (i + 2) := ez_3.trans (nI_add i 2)
  refine va_sld hx hb hX hbl hbA hS (vp_in_nI (show i + 2 < L by omega) (by omega)) dL_law_129 ?_
  refine lv_topi (fun z_4 ez_4 => ?_)
  obtain rfl : z_4 = xs (i + 2) := ez_4.trans (by rw [nI_clamp (by omega)])
  refine lv_aload_n hx hb dL_law_130 rfl (lv_at hl 0 rfl) ?_
  refine lv_iload_n hx hb dL_law_131 rfl (lv_at hl 3 rfl) ?_
  refine lv_iconst (v := nI 3) hx hb dL_law_132 (by decide) ?_
  refine lv_iadd hx hb dL_law_133 ?_
  refine lv_topi (fun z_5 ez_5 => ?_)
  obtain rfl : z_5 = nI (i + 3) := ez_5.trans (nI_add i 3)
  refine va_sld hx hb hX hbl hbA hS (vp_in_nI (show i + 3 < L by omega) (by omega)) dL_law_134 ?_
  refine lv_topi (fun z_6 ez_6 => ?_)
  obtain rfl : z_6 = xs (i + 3) := ez_6.trans (by rw [nI_clamp (by omega)])
  refine lv_aload_n hx hb dL_law_135 rfl (lv_at hl 0 rfl) ?_
  refine lv_iload_n hx hb dL_law_136 rfl (lv_at hl 3 rfl) ?_
  refine lv_iconst (v := nI 4) hx hb dL_law_137 (by decide) ?_
  refine lv_iadd hx hb dL_law_138 ?_
  refine lv_topi (fun z_7 ez_7 => ?_)
  obtain rfl : z_7 = nI (i + 4) := ez_7.trans (nI_add i 4)
  refine va_sld hx hb hX hbl hbA hS (vp_in_nI (show i + 4 < L by omega) (by omega)) dL_law_139 ?_
  refine lv_topi (fun z_8 ez_8 => ?_)
  obtain rfl : z_8 = xs (i + 4) := ez_8.trans (by rw [nI_clamp (by omega)])
  refine lv_aload_n hx hb dL_law_140 rfl (lv_at hl 0 rfl) ?_
  refine lv_iload_n hx hb dL_law_141 rfl (lv_at hl 3 rfl) ?_
  refine lv_iconst (v := nI 5) hx hb dL_law_142 (by decide) ?_
  refine lv_iadd hx hb dL_law_143 ?_
  refine lv_topi (fun z_9 ez_9 => ?_)
  obtain rfl : z_9 = nI (i + 5) := ez_9.trans (nI_add i 5)
  refine va_sld hx hb hX hbl hbA hS (vp_in_nI (show i + 5 < L by omega) (by omega)) dL_law_144 ?_
  refine lv_topi (fun z_10 ez_10 => ?_)
  obtain rfl : z_10 = xs (i + 5) := ez_10.trans (by rw [nI_clamp (by omega)])
  refine lv_aload_n hx hb dL_law_145 rfl (lv_at hl 0 rfl) ?_
  refine lv_iload_n hx hb dL_law_146 rfl (lv_at hl 3 rfl) ?_
  refine lv_bipush (v := nI 6) hx hb dL_law_147 (by decide) ?_
  refine lv_iadd hx hb dL_law_149 ?_
  refine lv_topi (fun z_11 ez_11 => ?_)
  obtain rfl : z_11 = nI (i + 6) := ez_11.trans (nI_add i 6)
  refine va_sld hx hb hX hbl hbA hS (vp_in_nI (show i + 6 < L by omega) (by omega)) dL_law_150 ?_
  refine lv_topi (fun z_12 ez_12 => ?_)
  obtain rfl : z_12 = xs (i + 6) := ez_12.trans (by rw [nI_clamp (by omega)])
  refine lv_aload_n hx hb dL_law_151 rfl (lv_at hl 0 rfl) ?_
  refine lv_iload_n hx hb dL_law_152 rfl (lv_at hl 3 rfl) ?_
  refine lv_bipush (v := nI 7) hx hb dL_law_153 (by decide) ?_
  refine lv_iadd hx hb dL_law_155 ?_
  refine lv_topi (fun z_13 ez_13 => ?_)
  obtain rfl : z_13 = nI (i + 7) := ez_13.trans (nI_add i 7)
  refine va_sld hx hb hX hbl hbA hS (vp_in_nI (show i + 7 < L by omega) (by omega)) dL_law_156 ?_
  refine lv_topi (fun z_14 ez_14 => ?_)
  obtain rfl : z_14 = xs (i + 7) := ez_14.trans (by rw [nI_clamp (by omega)])
  have hPc : va_P (dC, dI) vwCl (rfX p0 qt qg h0 rt cB cI vn ct ft fb gl T ++ wgW h0 qc qh r cA cI cJ me nw u tw iv hd M) H := va_Pl hP
  have hKc := hK.sub (tys' := ((cB, .array .int) :: (cI, .int) :: wgT cA cI cJ)) [0, 1, 2, 3, 4] rfl
  have hFc : ∀ q, va_A (rfX p0 qt qg h0 rt cB cI vn ct ft fb gl T ++ wgW h0 qc qh r cA cI cJ me nw u tw iv hd M) H.size q → (fun q : Nat => s.heap.size ≤ q) q := va_Al hD hS hA
  refine va_calli (va_runV (As := [.int (xs (i + 1)), .int (xs (i + 2)), .int (xs (i + 3)), .int (xs (i + 4)), .int (xs (i + 5)), .int (xs (i + 6)), .int (xs (i + 7))]) (rest := []) ⟨hx, hb, hml, hown, hts⟩ (c_X1_rule l dC dI H.size p0 qt qg h0 rt cB cI (wgT cA cI cJ) (wgW h0 qc qh r cA cI cJ me nw u tw iv hd M) vn ct ft fb gl T (xs (i + 1)) (xs (i + 2)) (xs (i + 3)) (xs (i + 4)) (xs (i + 5)) (xs (i + 6)) (xs (i + 7)) hc) (cwV 7 hts gL_law_X1_rule rfl rfl rfl (by decide +kernel) ⟨Nat.le_of_ble_eq_true rfl, Nat.le_of_ble_eq_true rfl⟩) ⟨fun a U g mk q => by obtain ⟨q0, q1, qP, qK, qD⟩ := q; exact ⟨q0, q1, qP, va_K.moved (u := U) (U := U.calling g mk a) (Vm.Alike.refl U.vm) qK, qD⟩, va_recv hKc hPc (ci := 1) (q0 := 0) rfl rfl, fun U hU hW => ⟨rfl, by rw [hU], by rw [hU]; exact hPc, va_K.moved hW.alike hKc, va_Dl hD⟩⟩ rfl rfl hl.1 rfl (lv_room (Nat.le_of_ble_eq_true rfl)) dL_law_157 ⟨Nat.le_of_ble_eq_true rfl, Nat.le_of_ble_eq_true rfl⟩) hS (fun q _ h => hFc q h) hFc (fun r8 v8 t H1 locs ht hvm hw8 hB hz1 hk1 hS => ?_)
  obtain ⟨hP1, hK1, hD1⟩ := hB
  rw [ht] at hP1
  obtain ⟨hP, hD⟩ := jn_appL hP hD hk1 hFc hP1 hD1
  clear hPc hKc hP1 hD1 hK1 hFc hk1 hz1 ht hvm
  generalize H1 = H at hP hS ⊢
  have hP : va_P (dC, dI) vwCl ((rfX p0 qt qg h0 rt cB cI vn v8.1 ft fb gl v8.2 ++ wgW h0 qc qh r cA cI cJ me nw u tw iv hd M) ++ mdW m0 aN aR aX aO aP aH aL aW cI2 cJ2 vn ct nm ft fb an rw nx og no rc nc hgh lws dh dl fT fB wd) H := hP
  have hD : va_D (fun q : Nat => s.heap.size ≤ q) ((rfX p0 qt qg h0 rt cB cI vn v8.1 ft fb gl v8.2 ++ wgW h0 qc qh r cA cI cJ me nw u tw iv hd M) ++ mdW m0 aN aR aX aO aP aH aL aW cI2 cJ2 vn ct nm ft fb an rw nx og no rc nc hgh lws dh dl fT fB wd) := hD
  refine lv_aload_n hx hb dL_law_160 rfl (lv_at hl 2 rfl) ?_
  refine lv_aload_n hx hb dL_law_161 rfl (lv_at hl 0 rfl) ?_
  refine lv_iload_n hx hb dL_law_162 rfl (lv_at hl 3 rfl) ?_
  refine lv_iconst (v := nI 1) hx hb dL_law_163 (by decide) ?_
  refine lv_iadd hx hb dL_law_164 ?_
  refine lv_topi (fun z_15 ez_15 => ?_)
  obtain rfl : z_15 = nI (i + 1) := ez_15.trans (nI_add i 1)
  refine va_sld hx hb hX hbl hbA hS (vp_in_nI (show i + 1 < L by omega) (by omega)) dL_law_165 ?_
  refine lv_topi (fun z_16 ez_16 => ?_)
  obtain rfl : z_16 = xs (i + 1) := ez_16.trans (by rw [nI_clamp (by omega)])
  refine lv_aload_n hx hb dL_law_166 rfl (lv_at hl 0 rfl) ?_
  refine lv_iload_n hx hb dL_law_167 rfl (lv_at hl 3 rfl) ?_
  refine lv_iconst (v := nI 2) hx hb dL_law_168 (by decide) ?_
  refine lv_iadd hx hb dL_law_169 ?_
  refine lv_topi (fun z_17 ez_17 => ?_)
  obtain rfl : z_17 = nI (i + 2) := ez_17.trans (nI_add i 2)
  refine va_sld hx hb hX hbl hbA hS (vp_in_nI (show i + 2 < L by omega) (by omega)) dL_law_170 ?_
  refine lv_topi (fun z_18 ez_18 => ?_)
  obtain rfl : z_18 = xs (i + 2) := ez_18.trans (by rw [nI_clamp (by omega)])
  refine lv_aload_n hx hb dL_law_171 rfl (lv_at hl 0 rfl) ?_
  refine lv_iload_n hx hb dL_law_172 rfl (lv_at hl 3 rfl) ?_
  refine lv_iconst (v := nI 3) hx hb dL_law_173 (by decide) ?_
  refine lv_iadd hx hb dL_law_174 ?_
  refine lv_topi (fun z_19 ez_19 => ?_)
  obtain rfl : z_19 = nI (i + 3) := ez_19.trans (nI_add i 3)
  refine va_sld hx hb hX hbl hbA hS (vp_in_nI (show i + 3 < L by omega) (by omega)) dL_law_175 ?_
  refine lv_topi (fun z_20 ez_20 => ?_)
  obtain rfl : z_20 = xs (i + 3) := ez_20.trans (by rw [nI_clamp (by omega)])
  refine lv_aload_n hx hb dL_law_176 rfl (lv_at hl 0 rfl) ?_
  refine lv_iload_n hx hb dL_law_177 rfl (lv_at hl 3 rfl) ?_
  refine lv_iconst (v := nI 4) hx hb dL_law_178 (by decide) ?_
  refine lv_iadd hx hb dL_law_179 ?_
  refine lv_topi (fun z_21 ez_21 => ?_)
  obtain rfl : z_21 = nI (i + 4) := ez_21.trans (nI_add i 4)
  refine va_sld hx hb hX hbl hbA hS (vp_in_nI (show i + 4 < L by omega) (by omega)) dL_law_180 ?_
  refine lv_topi (fun z_22 ez_22 => ?_)
  obtain rfl : z_22 = xs (i + 4) := ez_22.trans (by rw [nI_clamp (by omega)])
  refine lv_aload_n hx hb dL_law_181 rfl (lv_at hl 0 rfl) ?_
  refine lv_iload_n hx hb dL_law_182 rfl (lv_at hl 3 rfl) ?_
  refine lv_iconst (v := nI 5) hx hb dL_law_183 (by decide) ?_
  refine lv_iadd hx hb dL_law_184 ?_
  refine lv_topi (fun z_23 ez_23 => ?_)
  obtain rfl : z_23 = nI (i + 5) := ez_23.trans (nI_add i 5)
  refine va_sld hx hb hX hbl hbA hS (vp_in_nI (show i + 5 < L by omega) (by omega)) dL_law_185 ?_
  refine lv_topi (fun z_24 ez_24 => ?_)
  obtain rfl : z_24 = xs (i + 5) := ez_24.trans (by rw [nI_clamp (by omega)])
  refine lv_aload_n hx hb dL_law_186 rfl (lv_at hl 0 rfl) ?_
  refine lv_iload_n hx hb dL_law_187 rfl (lv_at hl 3 rfl) ?_
  refine lv_bipush (v := nI 6) hx hb dL_law_188 (by decide) ?_
  refine lv_iadd hx hb dL_law_190 ?_
  refine lv_topi (fun z_25 ez_25 => ?_)
  obtain rfl : z_25 = nI (i + 6) := ez_25.trans (nI_add i 6)
  refine va_sld hx hb hX hbl hbA hS (vp_in_nI (show i + 6 < L by omega) (by omega)) dL_law_191 ?_
  refine lv_topi (fun z_26 ez_26 => ?_)
  obtain rfl : z_26 = xs (i + 6) := ez_26.trans (by rw [nI_clamp (by omega)])
  refine lv_aload_n hx hb dL_law_192 rfl (lv_at hl 0 rfl) ?_
  refine lv_iload_n hx hb dL_law_193 rfl (lv_at hl 3 rfl) ?_
  refine lv_bipush (v := nI 7) hx hb dL_law_194 (by decide) ?_
  refine lv_iadd hx hb dL_law_196 ?_
  refine lv_topi (fun z_27 ez_27 => ?_)
  obtain rfl : z_27 = nI (i + 7) := ez_27.trans (nI_add i 7)
  refine va_sld hx hb hX hbl hbA hS (vp_in_nI (show i + 7 < L by omega) (by omega)) dL_law_197 ?_
  refine lv_topi (fun z_28 ez_28 => ?_)
  obtain rfl : z_28 = xs (i + 7) := ez_28.trans (by rw [nI_clamp (by omega)])
  have hPc : va_P (dC, dI) vwCl (mdW m0 aN aR aX aO aP aH aL aW cI2 cJ2 vn ct nm ft fb an rw nx og no rc nc hgh lws dh dl fT fB wd) H := va_Pr hP
  have hKc := hK.sub (tys' := [(cI2, .int), (cJ2, .long)]) [5, 6] rfl
  have hFc : ∀ q, va_A (mdW m0 aN aR aX aO aP aH aL aW cI2 cJ2 vn ct nm ft fb an rw nx og no rc nc hgh lws dh dl fT fB wd) H.size q → (fun q : Nat => s.heap.size ≤ q) q := va_Ar hD hS hA
  refine va_calli (va_runV (As := [.int (xs (i + 1)), .int (xs (i + 2)), .int (xs (i + 3)), .int (xs (i + 4)), .int (xs (i + 5)), .int (xs (i + 6)), .int (xs (i + 7))]) (rest := [.int r8]) ⟨hx, hb, hml, hown, hts⟩ (c_X2_rule l dC dI H.size m0 aN aR aX aO aP aH aL aW cI2 cJ2 vn ct nm ft fb an rw nx og no rc nc hgh lws dh dl fT fB wd (xs (i + 1)) (xs (i + 2)) (xs (i + 3)) (xs (i + 4)) (xs (i + 5)) (xs (i + 6)) (xs (i + 7)) hc) (cwV 7 hts gL_law_X2_rule rfl rfl rfl (by decide +kernel) ⟨Nat.le_of_ble_eq_true rfl, Nat.le_of_ble_eq_true rfl⟩) ⟨fun a U g mk q => by obtain ⟨q0, q1, qP, qK, qD⟩ := q; exact ⟨q0, q1, qP, va_K.moved (u := U) (U := U.calling g mk a) (Vm.Alike.refl U.vm) qK, qD⟩, va_recv hKc hPc (ci := 2) (q0 := 0) rfl rfl, fun U hU hW => ⟨rfl, by rw [hU], by rw [hU]; exact hPc, va_K.moved hW.alike hKc, va_Dr hD⟩⟩ rfl rfl hl.1 rfl (lv_room (Nat.le_of_ble_eq_true rfl)) dL_law_198 ⟨Nat.le_of_ble_eq_true rfl, Nat.le_of_ble_eq_true rfl⟩) hS (fun q _ h => hFc q h) hFc (fun r9 v9 t H1 locs ht hvm hw9 hB hz1 hk1 hS => ?_)
  obtain ⟨hP1, hK1, hD1⟩ := hB
  rw [ht] at hP1
  obtain ⟨hP, hD⟩ := jn_app hP hD hk1 hFc hP1 hD1
  clear hPc hKc hP1 hD1 hK1 hFc hk1 hz1 ht hvm
  generalize H1 = H at hP hS ⊢
  have hP : va_P (dC, dI) vwCl ((rfX p0 qt qg h0 rt cB cI vn v8.1 ft fb gl v8.2 ++ wgW h0 qc qh r cA cI cJ me nw u tw iv hd M) ++ mdW m0 aN aR aX aO aP aH aL aW cI2 cJ2 vn v9.1 v9.2 ft fb an rw nx og no rc nc hgh lws dh dl fT fB wd) H := hP
  have hD : va_D (fun q : Nat => s.heap.size ≤ q) ((rfX p0 qt qg h0 rt cB cI vn v8.1 ft fb gl v8.2 ++ wgW h0 qc qh r cA cI cJ me nw u tw iv hd M) ++ mdW m0 aN aR aX aO aP aH aL aW cI2 cJ2 vn v9.1 v9.2 ft fb an rw nx og no rc nc hgh lws dh dl fT fB wd) := hD
  rcases hw8 with ⟨g1, g2, rfl, rfl⟩ | ⟨rfl, hno, rfl⟩ <;> rcases hw9 with ⟨g3, g4, rfl, rfl⟩ | ⟨rfl, hno9, rfl⟩
  · refine lv_icmp_eq (tgt := 532) hx hb dL_law_201 (by decide) (fun _ => ?_) (fun c9 => absurd (rfl) c9)
    exact nx9 H _ ls ⟨vn, ct + 1, ft, fb, qt, qg, h0, rt, cB, cI, cA, cJ, qc, qh, r, gl, fup T ct (rowF (T ct) (xs (i + 1)) (xs (i + 2)) (xs (i + 3)) (xs (i + 4)) (xs (i + 5)) (xs (i + 6)) (xs (i + 7))), me, nw, u, tw, iv, hd, M, aN, aR, aX, aO, aP, aH, aL, aW, cI2, cJ2, nmF nm ct (xs (i + 1)) (xs (i + 2)) (xs (i + 3)) (xs (i + 4)) (xs (i + 5)) (xs (i + 6)) (xs (i + 7)), an, rw, nx, og, no, rc, nc, hgh, lws, dh, dl, fT, fB, wd, hv1, hv3, g1, okN_rule hN g2, lwR_rule hR (xs (i + 1)) (xs (i + 2)) (xs (i + 3)) (xs (i + 4)) (xs (i + 5)) (xs (i + 6)) (xs (i + 7)), hP, hK, hD⟩ hS hl
  · exact absurd ⟨g1, g2⟩ hno9
  · exact absurd ⟨g3, g4⟩ hno
  · refine lv_icmp_eq (tgt := 532) hx hb dL_law_201 (by decide) (fun _ => ?_) (fun c9 => absurd (rfl) c9)
    exact nx9 H _ ls ⟨vn, ct, ft, fb, qt, qg, h0, rt, cB, cI, cA, cJ, qc, qh, r, gl, T, me, nw, u, tw, iv, hd, M, aN, aR, aX, aO, aP, aH, aL, aW, cI2, cJ2, nm, an, rw, nx, og, no, rc, nc, hgh, lws, dh, dl, fT, fB, wd, hv1, hv3, hc, hN, hR, hP, hK, hD⟩ hS hl
set_option maxHeartbeats 2000000 in
set_option maxRecDepth 100000 in
/-- the law, drop -/
theorem law_drop {p : Program} {l : Launch} {e : Env} {s : State} {m : MethodId} {below : List Frame} {meth : Method} {c : Code} {dC : Nat → ClassId} {dI : Nat → Nat → Nat} {b L : Nat} {xs : Nat → Int32} (hL : L ≤ 4096) (C0 : lw_At p s m meth c b L xs) {i p0 m0 : Nat} (hi : i + 8 ≤ L) (nx9 : ∀ (H : Heap) (locs : List Loc) (ls : Array Slot), Lw dC dI s p0 m0 H → va_S (fun q : Nat => s.heap.size ≤ q) s.heap H locs → lv_has ls 4 [(0, .ref b), (1, .ref p0), (2, .ref m0), (3, .int (nI i))] → W p l e room_1 s m #[Value.ref b] below meth c H locs 33 29176 (lw_Z below #[Value.ref b] s) (F0 m 532 ls [])) (H : Heap) (locs : List Loc) (ls : Array Slot) (hI : Lw dC dI s p0 m0 H) (hS : va_S (fun q : Nat => s.heap.size ≤ q) s.heap H locs) (hl : lv_has ls 4 [(0, .ref b), (1, .ref p0), (2, .ref m0), (3, .int (nI i))]) : W p l e room_1 s m #[Value.ref b] below meth c H locs 33 29176 (lw_Z below #[Value.ref b] s) (F0 m 206 ls []) := by
  obtain ⟨hx, hb, hr, hml, hown, hts0, hX, hbl, hlocks, hgv⟩ := C0
  have hts : ∀ w ∈ wsL_law, w.before #[Value.ref b] s = true := fun w h => hts0 w (wsL_law_in w h)
  clear hts0 hgv
  have hown : s.vm.findClass RL = some m.cls := hown
  have hb : c.code = cL_law := hb
  have hA : ∀ q : Nat, s.heap.size ≤ q → (fun q : Nat => s.heap.size ≤ q) q := fun _ h => h
  have hbA : ¬ (fun q : Nat => s.heap.size ≤ q) b := Nat.not_le.mpr hbl
  obtain ⟨vn, ct, ft, fb, qt, qg, h0, rt, cB, cI, cA, cJ, qc, qh, r, gl, T, me, nw, u, tw, iv, hd, M, aN, aR, aX, aO, aP, aH, aL, aW, cI2, cJ2, nm, an, rw, nx, og, no, rc, nc, hgh, lws, dh, dl, fT, fB, wd, hv1, hv3, hc, hN, hR, hP, hK, hD⟩ := hI
  refine lv_aload_n hx hb dL_law_206 rfl (lv_at hl 1 rfl) ?_
  refine lv_aload_n hx hb dL_law_207 rfl (lv_at hl 0 rfl) ?_
  refine lv_iload_n hx hb dL_law_208 rfl (lv_at hl 3 rfl) ?_
  refine lv_iconst (v := nI 1) hx hb dL_law_209 (by decide) ?_
  refine lv_iadd hx hb dL_law_210 ?_
  refine lv_topi (fun z_1 ez_1 => ?_)
  obtain rfl : z_1 = nI (i + 1) := ez_1.trans (nI_add i 1)
  refine va_sld hx hb hX hbl hbA hS (vp_in_nI (show i + 1 < L by omega) (by omega)) dL_law_211 ?_
  refine lv_topi (fun z_2 ez_2 => ?_)
  obtain rfl : z_2 = xs (i + 1) := ez_2.trans (by rw [nI_clamp (by omega)])
  have hPc : va_P (dC, dI) vwCl (rfX p0 qt qg h0 rt cB cI vn ct ft fb gl T ++ wgW h0 qc qh r cA cI cJ me nw u tw iv hd M) H := va_Pl hP
  have hKc := hK.sub (tys' := ((cB, .array .int) :: (cI, .int) :: wgT cA cI cJ)) [0, 1, 2, 3, 4] rfl
  have hFc : ∀ q, va_A (rfX p0 qt qg h0 rt cB cI vn ct ft fb gl T ++ wgW h0 qc qh r cA cI cJ me nw u tw iv hd M) H.size q → (fun q : Nat => s.heap.size ≤ q) q := va_Al hD hS hA
  refine va_calli (va_runV (As := [.int (xs (i + 1))]) (rest := []) ⟨hx, hb, hml, hown, hts⟩ (c_X1_drop l dC dI H.size p0 qt qg h0 rt cB cI (wgT cA cI cJ) (wgW h0 qc qh r cA cI cJ me nw u tw iv hd M) vn ct ft fb gl T (xs (i + 1)) hc) (cwV 1 hts gL_law_X1_drop rfl rfl rfl (by decide +kernel) ⟨Nat.le_of_ble_eq_true rfl, Nat.le_of_ble_eq_true rfl⟩) ⟨fun a U g mk q => by obtain ⟨q0, q1, qP, qK, qD⟩ := q; exact ⟨q0, q1, qP, va_K.moved (u := U) (U := U.calling g mk a) (Vm.Alike.refl U.vm) qK, qD⟩, va_recv hKc hPc (ci := 1) (q0 := 0) rfl rfl, fun U hU hW => ⟨rfl, by rw [hU], by rw [hU]; exact hPc, va_K.moved hW.alike hKc, va_Dl hD⟩⟩ rfl rfl hl.1 rfl (lv_room (Nat.le_of_ble_eq_true rfl)) dL_law_212 ⟨Nat.le_of_ble_eq_true rfl, Nat.le_of_ble_eq_true rfl⟩) hS (fun q _ h => hFc q h) hFc (fun r8 v8 t H1 locs ht hvm hw8 hB hz1 hk1 hS => ?_)
  obtain ⟨hP1, hK1, hD1⟩ := hB
  rw [ht] at hP1
  obtain ⟨hP, hD⟩ := jn_appL hP hD hk1 hFc hP1 hD1
  clear hPc hKc hP1 hD1 hK1 hFc hk1 hz1 ht hvm
  generalize H1 = H at hP hS ⊢
  have hP : va_P (dC, dI) vwCl ((rfX p0 qt qg h0 rt cB cI vn v8.1 ft fb gl v8.2 ++ wgW h0 qc qh r cA cI cJ me nw u tw iv hd M) ++ mdW m0 aN aR aX aO aP aH aL aW cI2 cJ2 vn ct nm ft fb an rw nx og no rc nc hgh lws dh dl fT fB wd) H := hP
  have hD : va_D (fun q : Nat => s.heap.size ≤ q) ((rfX p0 qt qg h0 rt cB cI vn v8.1 ft fb gl v8.2 ++ wgW h0 qc qh r cA cI cJ me nw u tw iv hd M) ++ mdW m0 aN aR aX aO aP aH aL aW cI2 cJ2 vn ct nm ft fb an rw nx og no rc nc hgh lws dh dl fT fB wd) := hD
  refine lv_aload_n hx hb dL_law_215 rfl (lv_at hl 2 rfl) ?_
  refine lv_aload_n hx hb dL_law_216 rfl (lv_at hl 0 rfl) ?_
  refine lv_iload_n hx hb dL_law_217 rfl (lv_at hl 3 rfl) ?_
  refine lv_iconst (v := nI 1) hx hb dL_law_218 (by decide) ?_
  refine lv_iadd hx hb dL_law_219 ?_
  refine lv_topi (fun z_3 ez_3 => ?_)
  obtain rfl : z_3 = nI (i + 1) := ez_3.trans (nI_add i 1)
  refine va_sld hx hb hX hbl hbA hS (vp_in_nI (show i + 1 < L by omega) (by omega)) dL_law_220 ?_
  refine lv_topi (fun z_4 ez_4 => ?_)
  obtain rfl : z_4 = xs (i + 1) := ez_4.trans (by rw [nI_clamp (by omega)])
  have hPc : va_P (dC, dI) vwCl (mdW m0 aN aR aX aO aP aH aL aW cI2 cJ2 vn ct nm ft fb an rw nx og no rc nc hgh lws dh dl fT fB wd) H := va_Pr hP
  have hKc := hK.sub (tys' := [(cI2, .int), (cJ2, .long)]) [5, 6] rfl
  have hFc : ∀ q, va_A (mdW m0 aN aR aX aO aP aH aL aW cI2 cJ2 vn ct nm ft fb an rw nx og no rc nc hgh lws dh dl fT fB wd) H.size q → (fun q : Nat => s.heap.size ≤ q) q := va_Ar hD hS hA
  refine va_calli (va_runV (As := [.int (xs (i + 1))]) (rest := [.int r8]) ⟨hx, hb, hml, hown, hts⟩ (c_X2_drop l dC dI H.size m0 aN aR aX aO aP aH aL aW cI2 cJ2 vn ct nm ft fb an rw nx og no rc nc hgh lws dh dl fT fB wd (xs (i + 1)) hc) (cwV 1 hts gL_law_X2_drop rfl rfl rfl (by decide +kernel) ⟨Nat.le_of_ble_eq_true rfl, Nat.le_of_ble_eq_true rfl⟩) ⟨fun a U g mk q => by obtain ⟨q0, q1, qP, qK, qD⟩ := q; exact ⟨q0, q1, qP, va_K.moved (u := U) (U := U.calling g mk a) (Vm.Alike.refl U.vm) qK, qD⟩, va_recv hKc hPc (ci := 2) (q0 := 0) rfl rfl, fun U hU hW => ⟨rfl, by rw [hU], by rw [hU]; exact hPc, va_K.moved hW.alike hKc, va_Dr hD⟩⟩ rfl rfl hl.1 rfl (lv_room (Nat.le_of_ble_eq_true rfl)) dL_law_221 ⟨Nat.le_of_ble_eq_true rfl, Nat.le_of_ble_eq_true rfl⟩) hS (fun q _ h => hFc q h) hFc (fun r9 v9 t H1 locs ht hvm hw9 hB hz1 hk1 hS => ?_)
  obtain ⟨hP1, hK1, hD1⟩ := hB
  rw [ht] at hP1
  obtain ⟨hP, hD⟩ := jn_app hP hD hk1 hFc hP1 hD1
  clear hPc hKc hP1 hD1 hK1 hFc hk1 hz1 ht hvm
  generalize H1 = H at hP hS ⊢
  have hP : va_P (dC, dI) vwCl ((rfX p0 qt qg h0 rt cB cI vn v8.1 ft fb gl v8.2 ++ wgW h0 qc qh r cA cI cJ me nw u tw iv hd M) ++ mdW m0 aN aR aX aO aP aH aL aW cI2 cJ2 vn v9.1 v9.2 ft fb an rw nx og no rc nc hgh lws dh dl fT fB wd) H := hP
  have hD : va_D (fun q : Nat => s.heap.size ≤ q) ((rfX p0 qt qg h0 rt cB cI vn v8.1 ft fb gl v8.2 ++ wgW h0 qc qh r cA cI cJ me nw u tw iv hd M) ++ mdW m0 aN aR aX aO aP aH aL aW cI2 cJ2 vn v9.1 v9.2 ft fb an rw nx og no rc nc hgh lws dh dl fT fB wd) := hD
  rcases hw8 with ⟨j, j1, jk, rfl, rfl⟩ | ⟨rfl, hj, rfl⟩ <;> rcases hw9 with ⟨j9, k1, kk9, rfl, rfl⟩ | ⟨rfl, hj9, rfl⟩
  · obtain rfl : j = j9 := nI_inj (by omega) (by omega) (jk.symm.trans kk9)
    refine lv_icmp_eq (tgt := 532) hx hb dL_law_224 (by decide) (fun _ => ?_) (fun c9 => absurd (rfl) c9)
    exact nx9 H _ ls ⟨vn, ct - 1, ft, fb, qt, qg, h0, rt, cB, cI, cA, cJ, qc, qh, r, gl, drF T j ct, me, nw, u, tw, iv, hd, M, aN, aR, aX, aO, aP, aH, aL, aW, cI2, cJ2, dnF nm (7 * j) (7 * (ct - 1)), an, rw, nx, og, no, rc, nc, hgh, lws, dh, dl, fT, fB, wd, hv1, hv3, by omega, okN_drop hN j1, lwR_drop hR j1, hP, hK, hD⟩ hS hl
  · exact absurd jk (hj9 j j1)
  · exact absurd kk9 (hj j9 k1)
  · refine lv_icmp_eq (tgt := 532) hx hb dL_law_224 (by decide) (fun _ => ?_) (fun c9 => absurd (rfl) c9)
    exact nx9 H _ ls ⟨vn, ct, ft, fb, qt, qg, h0, rt, cB, cI, cA, cJ, qc, qh, r, gl, T, me, nw, u, tw, iv, hd, M, aN, aR, aX, aO, aP, aH, aL, aW, cI2, cJ2, nm, an, rw, nx, og, no, rc, nc, hgh, lws, dh, dl, fT, fB, wd, hv1, hv3, hc, hN, hR, hP, hK, hD⟩ hS hl
set_option maxHeartbeats 2000000 in
set_option maxRecDepth 100000 in
/-- the law, rules -/
theorem law_rules {p : Program} {l : Launch} {e : Env} {s : State} {m : MethodId} {below : List Frame} {meth : Method} {c : Code} {dC : Nat → ClassId} {dI : Nat → Nat → Nat} {b L : Nat} {xs : Nat → Int32} (hL : L ≤ 4096) (C0 : lw_At p s m meth c b L xs) {i p0 m0 : Nat} (hi : i + 8 ≤ L) (nx9 : ∀ (H : Heap) (locs : List Loc) (ls : Array Slot), Lw dC dI s p0 m0 H → va_S (fun q : Nat => s.heap.size ≤ q) s.heap H locs → lv_has ls 4 [(0, .ref b), (1, .ref p0), (2, .ref m0), (3, .int (nI i))] → W p l e room_1 s m #[Value.ref b] below meth c H locs 33 29176 (lw_Z below #[Value.ref b] s) (F0 m 532 ls [])) (H : Heap) (locs : List Loc) (ls : Array Slot) (hI : Lw dC dI s p0 m0 H) (hS : va_S (fun q : Nat => s.heap.size ≤ q) s.heap H locs) (hl : lv_has ls 4 [(0, .ref b), (1, .ref p0), (2, .ref m0), (3, .int (nI i))]) : W p l e room_1 s m #[Value.ref b] below meth c H locs 33 29176 (lw_Z below #[Value.ref b] s) (F0 m 229 ls []) := by
  obtain ⟨hx, hb, hr, hml, hown, hts0, hX, hbl, hlocks, hgv⟩ := C0
  have hts : ∀ w ∈ wsL_law, w.before #[Value.ref b] s = true := fun w h => hts0 w (wsL_law_in w h)
  clear hts0 hgv
  have hown : s.vm.findClass RL = some m.cls := hown
  have hb : c.code = cL_law := hb
  have hA : ∀ q : Nat, s.heap.size ≤ q → (fun q : Nat => s.heap.size ≤ q) q := fun _ h => h
  have hbA : ¬ (fun q : Nat => s.heap.size ≤ q) b := Nat.not_le.mpr hbl
  obtain ⟨vn, ct, ft, fb, qt, qg, h0, rt, cB, cI, cA, cJ, qc, qh, r, gl, T, me, nw, u, tw, iv, hd, M, aN, aR, aX, aO, aP, aH, aL, aW, cI2, cJ2, nm, an, rw, nx, og, no, rc, nc, hgh, lws, dh, dl, fT, fB, wd, hv1, hv3, hc, hN, hR, hP, hK, hD⟩ := hI
  refine lv_aload_n hx hb dL_law_229 rfl (lv_at hl 1 rfl) ?_
  have hPc : va_P (dC, dI) vwCl (rfX p0 qt qg h0 rt cB cI vn ct ft fb gl T ++ wgW h0 qc qh r cA cI cJ me nw u tw iv hd M) H := va_Pl hP
  have hKc := hK.sub (tys' := ((cB, .array .int) :: (cI, .int) :: wgT cA cI cJ)) [0, 1, 2, 3, 4] rfl
  have hFc : ∀ q, va_A (rfX p0 qt qg h0 rt cB cI vn ct ft fb gl T ++ wgW h0 qc qh r cA cI cJ me nw u tw iv hd M) H.size q → (fun q : Nat => s.heap.size ≤ q) q := va_Al hD hS hA
  refine va_calli (va_runV (As := []) (rest := []) ⟨hx, hb, hml, hown, hts⟩ (c_X1_rules l dC dI H.size p0 qt qg h0 rt cB cI (wgT cA cI cJ) (wgW h0 qc qh r cA cI cJ me nw u tw iv hd M) vn ct ft fb gl T) (cwV 0 hts gL_law_X1_rules rfl rfl rfl (by decide +kernel) ⟨Nat.le_of_ble_eq_true rfl, Nat.le_of_ble_eq_true rfl⟩) ⟨fun a U g mk q => by obtain ⟨q0, q1, qP, qK, qD⟩ := q; exact ⟨q0, q1, qP, va_K.moved (u := U) (U := U.calling g mk a) (Vm.Alike.refl U.vm) qK, qD⟩, va_recv hKc hPc (ci := 1) (q0 := 0) rfl rfl, fun U hU hW => ⟨rfl, by rw [hU], by rw [hU]; exact hPc, va_K.moved hW.alike hKc, va_Dl hD⟩⟩ rfl rfl hl.1 rfl (lv_room (Nat.le_of_ble_eq_true rfl)) dL_law_230 ⟨Nat.le_of_ble_eq_true rfl, Nat.le_of_ble_eq_true rfl⟩) hS (fun q _ h => hFc q h) hFc (fun r8 v8 t H1 locs ht hvm hw8 hB hz1 hk1 hS => ?_)
  obtain ⟨hP1, hK1, hD1⟩ := hB
  rw [ht] at hP1
  obtain ⟨hP, hD⟩ := jn_appL hP hD hk1 hFc hP1 hD1
  clear hPc hKc hP1 hD1 hK1 hFc hk1 hz1 ht hvm
  generalize H1 = H at hP hS ⊢
  have hP : va_P (dC, dI) vwCl ((rfX p0 qt qg h0 rt cB cI vn ct ft fb gl T ++ wgW h0 qc qh r cA cI cJ me nw u tw iv hd M) ++ mdW m0 aN aR aX aO aP aH aL aW cI2 cJ2 vn ct nm ft fb an rw nx og no rc nc hgh lws dh dl fT fB wd) H := hP
  have hD : va_D (fun q : Nat => s.heap.size ≤ q) ((rfX p0 qt qg h0 rt cB cI vn ct ft fb gl T ++ wgW h0 qc qh r cA cI cJ me nw u tw iv hd M) ++ mdW m0 aN aR aX aO aP aH aL aW cI2 cJ2 vn ct nm ft fb an rw nx og no rc nc hgh lws dh dl fT fB wd) := hD
  refine lv_aload_n hx hb dL_law_233 rfl (lv_at hl 2 rfl) ?_
  have hPc : va_P (dC, dI) vwCl (mdW m0 aN aR aX aO aP aH aL aW cI2 cJ2 vn ct nm ft fb an rw nx og no rc nc hgh lws dh dl fT fB wd) H := va_Pr hP
  have hKc := hK.sub (tys' := [(cI2, .int), (cJ2, .long)]) [5, 6] rfl
  have hFc : ∀ q, va_A (mdW m0 aN aR aX aO aP aH aL aW cI2 cJ2 vn ct nm ft fb an rw nx og no rc nc hgh lws dh dl fT fB wd) H.size q → (fun q : Nat => s.heap.size ≤ q) q := va_Ar hD hS hA
  refine va_calli (va_runV (As := []) (rest := [.int r8]) ⟨hx, hb, hml, hown, hts⟩ (c_X2_rules l dC dI H.size m0 aN aR aX aO aP aH aL aW cI2 cJ2 vn ct nm ft fb an rw nx og no rc nc hgh lws dh dl fT fB wd) (cwV 0 hts gL_law_X2_rules rfl rfl rfl (by decide +kernel) ⟨Nat.le_of_ble_eq_true rfl, Nat.le_of_ble_eq_true rfl⟩) ⟨fun a U g mk q => by obtain ⟨q0, q1, qP, qK, qD⟩ := q; exact ⟨q0, q1, qP, va_K.moved (u := U) (U := U.calling g mk a) (Vm.Alike.refl U.vm) qK, qD⟩, va_recv hKc hPc (ci := 2) (q0 := 0) rfl rfl, fun U hU hW => ⟨rfl, by rw [hU], by rw [hU]; exact hPc, va_K.moved hW.alike hKc, va_Dr hD⟩⟩ rfl rfl hl.1 rfl (lv_room (Nat.le_of_ble_eq_true rfl)) dL_law_234 ⟨Nat.le_of_ble_eq_true rfl, Nat.le_of_ble_eq_true rfl⟩) hS (fun q _ h => hFc q h) hFc (fun r9 v9 t H1 locs ht hvm hw9 hB hz1 hk1 hS => ?_)
  obtain ⟨hP1, hK1, hD1⟩ := hB
  rw [ht] at hP1
  obtain ⟨hP, hD⟩ := jn_app hP hD hk1 hFc hP1 hD1
  clear hPc hKc hP1 hD1 hK1 hFc hk1 hz1 ht hvm
  generalize H1 = H at hP hS ⊢
  have hP : va_P (dC, dI) vwCl ((rfX p0 qt qg h0 rt cB cI vn ct ft fb gl T ++ wgW h0 qc qh r cA cI cJ me nw u tw iv hd M) ++ mdW m0 aN aR aX aO aP aH aL aW cI2 cJ2 vn ct nm ft fb an rw nx og no rc nc hgh lws dh dl fT fB wd) H := hP
  have hD : va_D (fun q : Nat => s.heap.size ≤ q) ((rfX p0 qt qg h0 rt cB cI vn ct ft fb gl T ++ wgW h0 qc qh r cA cI cJ me nw u tw iv hd M) ++ mdW m0 aN aR aX aO aP aH aL aW cI2 cJ2 vn ct nm ft fb an rw nx og no rc nc hgh lws dh dl fT fB wd) := hD
  refine lv_icmp_eq (tgt := 532) hx hb dL_law_237 (by decide) (fun _ => ?_) (fun c9 => absurd (hw8.trans hw9.symm) c9)
  exact nx9 H _ ls ⟨vn, ct, ft, fb, qt, qg, h0, rt, cB, cI, cA, cJ, qc, qh, r, gl, T, me, nw, u, tw, iv, hd, M, aN, aR, aX, aO, aP, aH, aL, aW, cI2, cJ2, nm, an, rw, nx, og, no, rc, nc, hgh, lws, dh, dl, fT, fB, wd, hv1, hv3, hc, hN, hR, hP, hK, hD⟩ hS hl
