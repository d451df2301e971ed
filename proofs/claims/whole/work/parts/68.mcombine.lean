/-! ===== the reference: combine ===== -/
def cbF (f : Nat → Int64) (nc G : Nat) (e : Nat → Int) (j : Nat) : Prop := (f (11 * nc + j)).toInt * (G : Int) = e j ∧ (e j = 0 → f (11 * nc + j) = 0)
theorem cbF_up {f : Nat → Int64} {nc G : Nat} {e : Nat → Int} {j : Nat} {x : Int64} (h : ∀ i, i < j → cbF f nc G e i) (h1 : x.toInt * (G : Int) = e j) (h2 : e j = 0 → x = 0) : ∀ i, i < j + 1 → cbF (vp_updL f (11 * nc + j) x) nc G e i := fun i hi => by
  unfold cbF vp_updL
  by_cases q : i = j
  · subst q; rw [if_pos rfl]; exact ⟨h1, h2⟩
  · rw [if_neg (by omega)]; exact h i (by omega)
def outR (f g : Nat → Int64) (nc : Nat) : Prop := ∀ i, i < 11 * nc ∨ 11 * nc + 11 ≤ i → f i = g i
theorem outR_up {f g : Nat → Int64} {nc j : Nat} {x : Int64} (h : outR f g nc) (hj : j < 11) : outR (vp_updL f (11 * nc + j) x) g nc := fun i hi => by
  unfold vp_updL; rw [if_neg (by omega)]; exact h i hi
set_option maxHeartbeats 1000000 in
set_option maxRecDepth 100000 in
/-- combine(up, down, unknown) -/
theorem c_X2_combine (l : Launch) (dC : Nat → ClassId) (dI : Nat → Nat → Nat) (sz : Nat) (m0 aN aR aX aO aP aH aL aW : Nat) (cI cJ : ClassId) (vn ct : Nat) (nm : Nat → Int32) (tp bt : Int64) (an : Int32) (rw nx : Nat → Int64) (og no : Nat → Int32) (rc nc : Nat) (hgh lws : Nat → Int64) (dh dl fT fB : Int64) (wd : Nat → Int32) (a b u : Nat) (ha9 : a < 1200) (hb9 : b < 1200) (hu9 : u < 11) (hnc : nc < 1200) (hra : rwB rw a) (hrb : rwB rw b) (hfit : ∀ j, j < 11 → (cbE rw a b u j).natAbs ≤ 9223372036854775807 * gcdN (cbE rw a b u) 11) : Met l yX2_combine wsX2_combine ({ frames := 2, cells := 0, slots := 0, locals := 68 }) (va_Pc [.ref m0, .int (nI a), .int (nI b), .int (nI u)] (fun U => U.heap.size = sz ∧ va_P (dC, dI) vwCl (mdW m0 aN aR aX aO aP aH aL aW cI cJ vn ct nm tp bt an rw nx og no rc nc hgh lws dh dl fT fB wd) U.heap ∧ va_K (dC, dI) vwCl [(cI, .int), (cJ, .long)] U ∧ va_D (fun _ => True) (mdW m0 aN aR aX aO aP aH aL aW cI cJ vn ct nm tp bt an rw nx og no rc nc hgh lws dh dl fT fB wd))) (va_Qv (fun v : (Nat → Int64) × (Nat → Int64) × Int64 × Int64 × (Nat → Int64) => outR v.2.2.2.2 nx nc ∧ ∀ j, j < 11 → cbF v.2.2.2.2 nc (gcdN (cbE rw a b u) 11) (cbE rw a b u) j) (fun v t => va_P (dC, dI) vwCl (mdW m0 aN aR aX aO aP aH aL aW cI cJ vn ct nm tp bt an rw v.2.2.2.2 og (upd no nc (og a ||| og b)) rc (nc + 1) v.1 v.2.1 v.2.2.1 v.2.2.2.1 fT fB wd) t.heap ∧ va_K (dC, dI) vwCl [(cI, .int), (cJ, .long)] t ∧ va_D (va_A (mdW m0 aN aR aX aO aP aH aL aW cI cJ vn ct nm tp bt an rw nx og no rc nc hgh lws dh dl fT fB wd) sz) (mdW m0 aN aR aX aO aP aH aL aW cI cJ vn ct nm tp bt an rw v.2.2.2.2 og (upd no nc (og a ||| og b)) rc (nc + 1) v.1 v.2.1 v.2.2.1 v.2.2.2.1 fT fB wd)) (va_A (mdW m0 aN aR aX aO aP aH aL aW cI cJ vn ct nm tp bt an rw nx og no rc nc hgh lws dh dl fT fB wd) sz)) 0 0 (va_A (mdW m0 aN aR aX aO aP aH aL aW cI cJ vn ct nm tp bt an rw nx og no rc nc hgh lws dh dl fT fB wd) sz) := by
  refine Met.ofW (cc := cX2_combine) (maxL := 17) (ret := none) (by decide) rfl ?_
  intro p e s m args below meth c s₁ B hml hv
  obtain ⟨rfl, hsz, hP, hK, hD0⟩ := hv
  have hx := B.exec
  have hb := B.bytes
  have hr := B.returns
  have hts := atoms_spec (ws := wsX2_combine) B.pre
  have hown : s.vm.findClass RX2 = some m.cls := findClass_of_methodNamed B.named
  subst hsz
  have hD := hD0.self (sz := s.heap.size)
  clear hD0
  generalize hAe : va_A (mdW m0 aN aR aX aO aP aH aL aW cI cJ vn ct nm tp bt an rw nx og no rc nc hgh lws dh dl fT fB wd) s.heap.size = A at hD ⊢
  have hA : ∀ q : Nat, s.heap.size ≤ q → A q := fun q h => by rw [← hAe]; exact Or.inr h
  have hl := lv_entry ([.ref m0, .int (nI a), .int (nI b), .int (nI u)]) (n := 17) (Nat.le_of_ble_eq_true rfl)
  rw [lg_entry_eq]
  generalize (lg_sl ([.ref m0, .int (nI a), .int (nI b), .int (nI u)]) ++ List.replicate (17 - (lg_sl ([.ref m0, .int (nI a), .int (nI b), .int (nI u)])).length) Slot.unset).toArray = ls at hl ⊢
  have hl : lv_has ls 17 [(0, .ref m0), (1, .int (nI a)), (2, .int (nI b)), (3, .int (nI u))] := hl
  have hP : va_P (dC, dI) vwCl (mdW m0 aN aR aX aO aP aH aL aW cI cJ vn ct nm tp bt an rw nx og no rc nc hgh lws dh dl fT fB wd) s.heap := hP
  obtain ⟨H, hH⟩ : ∃ H, H = s.heap := ⟨_, rfl⟩
  have hS : va_S A s.heap H [] := by rw [hH]; exact va_S.rf
  rw [← hH] at hP ⊢
  obtain ⟨E, hE⟩ : ∃ E, E = cbE rw a b u := ⟨_, rfl⟩
  rw [← hE] at hfit
  have hEb : ∀ j, j < 11 → (E j).natAbs < 42535295865117307932921825928971026432 := fun j hj => by rw [hE]; exact cbE_b hra hrb hu9 hj
  have hGb : ∀ j, j ≤ 11 → gcdN E j < 42535295865117307932921825928971026432 := fun j hj => gcdN_lt (by decide) (fun i hi => hEb i (by omega))
  have loop2 : ∀ (hh ll : Nat → Int64) (Dh Dl : Int64), (∀ i, i < 11 → (hh i).toInt * 18446744073709551616 + (uN (ll i) : Int) = E i) → w2 Dh Dl = gcdN E 11 → ∀ (d j : Nat) (f : Nat → Int64) (H : Heap) (locs : List Loc) (ls : Array Slot), j + d = 11 → outR f nx nc → (∀ i, i < j → cbF f nc (gcdN E 11) E i) → va_P (dC, dI) vwCl (mdW m0 aN aR aX aO aP aH aL aW cI cJ vn ct nm tp bt an rw f og no rc nc hh ll Dh Dl fT fB wd) H → va_K (dC, dI) vwCl [(cI, .int), (cJ, .long)] s → va_D A (mdW m0 aN aR aX aO aP aH aL aW cI cJ vn ct nm tp bt an rw f og no rc nc hh ll Dh Dl fT fB wd) → va_S A s.heap H locs → lv_has ls 17 [(8, .int (nI j)), (0, .ref m0), (1, .int (nI a)), (2, .int (nI b)), (3, .int (nI u))] → W p l e (headSpec wsX2_combine ({ frames := 2, cells := 0, slots := 0, locals := 68 })).room s m #[.ref m0, .int (nI a), .int (nI b), .int (nI u)] below meth c H locs 0 0 (MQ below (va_Qv (fun v : (Nat → Int64) × (Nat → Int64) × Int64 × Int64 × (Nat → Int64) => outR v.2.2.2.2 nx nc ∧ ∀ j, j < 11 → cbF v.2.2.2.2 nc (gcdN (cbE rw a b u) 11) (cbE rw a b u) j) (fun v t => va_P (dC, dI) vwCl (mdW m0 aN aR aX aO aP aH aL aW cI cJ vn ct nm tp bt an rw v.2.2.2.2 og (upd no nc (og a ||| og b)) rc (nc + 1) v.1 v.2.1 v.2.2.1 v.2.2.2.1 fT fB wd) t.heap ∧ va_K (dC, dI) vwCl [(cI, .int), (cJ, .long)] t ∧ va_D A (mdW m0 aN aR aX aO aP aH aL aW cI cJ vn ct nm tp bt an rw v.2.2.2.2 og (upd no nc (og a ||| og b)) rc (nc + 1) v.1 v.2.1 v.2.2.1 v.2.2.2.1 fT fB wd)) A) #[.ref m0, .int (nI a), .int (nI b), .int (nI u)] s 0 0 A) (F0 m 180 ls []) := by
    clear hP hK hD hS hl
    intro hh ll Dh Dl hhl hG d
    induction d with
    | zero =>
      intro j f H locs ls hj ho hf hP hK hD hS hl
      refine lv_iload hx hb dX2_combine_180 (lv_at hl 0 rfl) ?_
      refine lv_bipush (v := nI 11) hx hb dX2_combine_182 (by decide) ?_
      refine lv_icmp_ge (tgt := 343) hx hb dX2_combine_184 (by decide) (fun c1 => ?_) (fun c1 => ?_)
      · refine lv_aload_n hx hb dX2_combine_343 rfl (lv_at hl 1 rfl) ?_
        refine va_get (D := (dC, dI)) (ci := 2) (v := .ref aP) (C := RX2) (T := TX2) (N := 19) hx hb hts (fun _ h => List.mem_cons_of_mem _ (List.mem_append_right _ h)) hown hK hP 0 rfl rfl 9 (by decide) (hts (.fieldLink RX2 27 "RankFinderModel" "nextOrigins" "[I") (List.mem_of_getElem? (i := 8) rfl)) (fun _ h9 => h9) rfl dX2_combine_344 ?_
        refine lv_aload_n hx hb dX2_combine_347 rfl (lv_at hl 1 rfl) ?_
        refine va_get (D := (dC, dI)) (ci := 2) (v := .int (nI nc)) (C := RX2) (T := TX2) (N := 19) hx hb hts (fun _ h => List.mem_cons_of_mem _ (List.mem_append_right _ h)) hown hK hP 0 rfl rfl 11 (by decide) (hts (.fieldLink RX2 83 "RankFinderModel" "nextCount" "I") (List.mem_of_getElem? (i := 7) rfl)) (fun _ h9 => h9) rfl dX2_combine_348 ?_
        refine lv_aload_n hx hb dX2_combine_351 rfl (lv_at hl 1 rfl) ?_
        refine va_get (D := (dC, dI)) (ci := 2) (v := .ref aO) (C := RX2) (T := TX2) (N := 19) hx hb hts (fun _ h => List.mem_cons_of_mem _ (List.mem_append_right _ h)) hown hK hP 0 rfl rfl 8 (by decide) (hts (.fieldLink RX2 24 "RankFinderModel" "origins" "[I") (List.mem_of_getElem? (i := 9) rfl)) (fun _ h9 => h9) rfl dX2_combine_352 ?_
        refine lv_iload_n hx hb dX2_combine_355 rfl (lv_at hl 2 rfl) ?_
        refine na_iald hx hb hK hP 4 0 rfl rfl ha9 (by decide) dX2_combine_356 ?_
        refine lv_aload_n hx hb dX2_combine_357 rfl (lv_at hl 1 rfl) ?_
        refine va_get (D := (dC, dI)) (ci := 2) (v := .ref aO) (C := RX2) (T := TX2) (N := 19) hx hb hts (fun _ h => List.mem_cons_of_mem _ (List.mem_append_right _ h)) hown hK hP 0 rfl rfl 8 (by decide) (hts (.fieldLink RX2 24 "RankFinderModel" "origins" "[I") (List.mem_of_getElem? (i := 9) rfl)) (fun _ h9 => h9) rfl dX2_combine_358 ?_
        refine lv_iload_n hx hb dX2_combine_361 rfl (lv_at hl 3 rfl) ?_
        refine na_iald hx hb hK hP 4 0 rfl rfl hb9 (by decide) dX2_combine_362 ?_
        refine lv_ior hx hb dX2_combine_363 ?_
        refine na_iast hx hb hK hP hD hS 5 0 rfl rfl hnc (by decide) dX2_combine_364 (fun H locs hP hD hS => ?_)
        have hP : va_P (dC, dI) vwCl (mdW m0 aN aR aX aO aP aH aL aW cI cJ vn ct nm tp bt an rw f og (upd no nc ((og a) ||| (og b))) rc nc hh ll Dh Dl fT fB wd) H := hP
        have hD : va_D A (mdW m0 aN aR aX aO aP aH aL aW cI cJ vn ct nm tp bt an rw f og (upd no nc ((og a) ||| (og b))) rc nc hh ll Dh Dl fT fB wd) := hD
        refine lv_aload_n hx hb dX2_combine_365 rfl (lv_at hl 1 rfl) ?_
        refine lv_dup hx hb dX2_combine_366 rfl ?_
        refine va_get (D := (dC, dI)) (ci := 2) (v := .int (nI nc)) (C := RX2) (T := TX2) (N := 19) hx hb hts (fun _ h => List.mem_cons_of_mem _ (List.mem_append_right _ h)) hown hK hP 0 rfl rfl 11 (by decide) (hts (.fieldLink RX2 83 "RankFinderModel" "nextCount" "I") (List.mem_of_getElem? (i := 7) rfl)) (fun _ h9 => h9) rfl dX2_combine_367 ?_
        refine lv_iconst (v := nI 1) hx hb dX2_combine_370 (by decide) ?_
        refine lv_iadd hx hb dX2_combine_371 ?_
        refine lv_topi (fun z_1 ez_1 => ?_)
        obtain rfl : z_1 = nI (nc + 1) := ez_1.trans (nI_add nc 1)
        refine va_put (D := (dC, dI)) (ci := 2) (v := .int (nI (nc + 1))) (ty := .int) (C := RX2) (T := TX2) (N := 19) hx hb hts (fun _ h => List.mem_cons_of_mem _ (List.mem_append_right _ h)) tyX2 tyX2_ok nmX2 hown hK hP hD hS 0 rfl rfl 11 (by decide) (hts (.fieldLink RX2 83 "RankFinderModel" "nextCount" "I") (List.mem_of_getElem? (i := 7) rfl)) (fun _ h9 => h9) rfl (by decide +kernel) rfl rfl (Nat.le_of_ble_eq_true rfl) dX2_combine_372 (fun H locs hP hD hS => ?_)
        have hP : va_P (dC, dI) vwCl (mdW m0 aN aR aX aO aP aH aL aW cI cJ vn ct nm tp bt an rw f og (upd no nc ((og a) ||| (og b))) rc (nc + 1) hh ll Dh Dl fT fB wd) H := hP
        have hD : va_D A (mdW m0 aN aR aX aO aP aH aL aW cI cJ vn ct nm tp bt an rw f og (upd no nc ((og a) ||| (og b))) rc (nc + 1) hh ll Dh Dl fT fB wd) := hD
        exact W.vret hx hb hr (fun t ht hW => ⟨⟨(hh, ll, Dh, Dl, f), rfl, by rw [← hE]; exact ⟨ho, fun i hi => hf i (by omega)⟩, by rw [ht]; exact hP, va_K.moved hW.alike hK, hD⟩, hS.F ht⟩) hS.2.2 dX2_combine_375
      · exact absurd (nI_le (by omega) (by omega)) c1
    | succ d ih =>
      intro j f H locs ls hj ho hf hP hK hD hS hl
      refine lv_iload hx hb dX2_combine_180 (lv_at hl 0 rfl) ?_
      refine lv_bipush (v := nI 11) hx hb dX2_combine_182 (by decide) ?_
      refine lv_icmp_ge (tgt := 343) hx hb dX2_combine_184 (by decide) (fun c1 => ?_) (fun c1 => ?_)
      · exact absurd c1 (nI_ge (by omega) (by omega))
      · have he := hhl j (by omega)
        have aft3 : ∀ (f9 : Int32) (x9 : Int64) (H : Heap) (locs : List Loc) (ls : Array Slot), x9.toInt * (gcdN E 11 : Int) = ((E j).natAbs : Int) → 0 ≤ x9.toInt → (E j = 0 → x9 = 0) → ((f9 = 1 ∧ E j < 0) ∨ (f9 = 0 ∧ 0 ≤ E j)) → va_P (dC, dI) vwCl (mdW m0 aN aR aX aO aP aH aL aW cI cJ vn ct nm tp bt an rw f og no rc nc hh ll Dh Dl fT fB wd) H → va_K (dC, dI) vwCl [(cI, .int), (cJ, .long)] s → va_D A (mdW m0 aN aR aX aO aP aH aL aW cI cJ vn ct nm tp bt an rw f og no rc nc hh ll Dh Dl fT fB wd) → va_S A s.heap H locs → lv_has ls 17 [(9, .int f9), (8, .int (nI j)), (0, .ref m0), (1, .int (nI a)), (2, .int (nI b)), (3, .int (nI u))] → W p l e (headSpec wsX2_combine ({ frames := 2, cells := 0, slots := 0, locals := 68 })).room s m #[.ref m0, .int (nI a), .int (nI b), .int (nI u)] below meth c H locs 0 0 (MQ below (va_Qv (fun v : (Nat → Int64) × (Nat → Int64) × Int64 × Int64 × (Nat → Int64) => outR v.2.2.2.2 nx nc ∧ ∀ j, j < 11 → cbF v.2.2.2.2 nc (gcdN (cbE rw a b u) 11) (cbE rw a b u) j) (fun v t => va_P (dC, dI) vwCl (mdW m0 aN aR aX aO aP aH aL aW cI cJ vn ct nm tp bt an rw v.2.2.2.2 og (upd no nc (og a ||| og b)) rc (nc + 1) v.1 v.2.1 v.2.2.1 v.2.2.2.1 fT fB wd) t.heap ∧ va_K (dC, dI) vwCl [(cI, .int), (cJ, .long)] t ∧ va_D A (mdW m0 aN aR aX aO aP aH aL aW cI cJ vn ct nm tp bt an rw v.2.2.2.2 og (upd no nc (og a ||| og b)) rc (nc + 1) v.1 v.2.1 v.2.2.1 v.2.2.2.1 fT fB wd)) A) #[.ref m0, .int (nI a), .int (nI b), .int (nI u)] s 0 0 A) (F0 m 307 ls [.long x9]) := by
          clear hP hK hD hS hl
          intro f9 x9 H locs ls hx1 hx2 hx3 hsg hP hK hD hS hl
          rcases hsg with ⟨rfl, hsg⟩ | ⟨rfl, hsg⟩
          · refine lv_lstore (lv' := [(15, .long x9), (9, .int 1), (8, .int (nI j)), (0, .ref m0), (1, .int (nI a)), (2, .int (nI b)), (3, .int (nI u))]) hx hb dX2_combine_307 hl (by decide) rfl (fun ls hl => ?_)
            refine lv_aload_n hx hb dX2_combine_309 rfl (lv_at hl 3 rfl) ?_
            refine va_get (D := (dC, dI)) (ci := 2) (v := .ref aX) (C := RX2) (T := TX2) (N := 19) hx hb hts (fun _ h => List.mem_cons_of_mem _ (List.mem_append_right _ h)) hown hK hP 0 rfl rfl 7 (by decide) (hts (.fieldLink RX2 21 "RankFinderModel" "next" "[J") (List.mem_of_getElem? (i := 6) rfl)) (fun _ h9 => h9) rfl dX2_combine_310 ?_
            refine lv_bipush (v := nI 11) hx hb dX2_combine_313 (by decide) ?_
            refine lv_aload_n hx hb dX2_combine_315 rfl (lv_at hl 3 rfl) ?_
            refine va_get (D := (dC, dI)) (ci := 2) (v := .int (nI nc)) (C := RX2) (T := TX2) (N := 19) hx hb hts (fun _ h => List.mem_cons_of_mem _ (List.mem_append_right _ h)) hown hK hP 0 rfl rfl 11 (by decide) (hts (.fieldLink RX2 83 "RankFinderModel" "nextCount" "I") (List.mem_of_getElem? (i := 7) rfl)) (fun _ h9 => h9) rfl dX2_combine_316 ?_
            refine lv_imul hx hb dX2_combine_319 ?_
            refine lv_topi (fun z_1 ez_1 => ?_)
            obtain rfl : z_1 = nI (11 * nc) := ez_1.trans (pk_mul 11 nc)
            refine lv_iload hx hb dX2_combine_320 (lv_at hl 2 rfl) ?_
            refine lv_iadd hx hb dX2_combine_322 ?_
            refine lv_topi (fun z_2 ez_2 => ?_)
            obtain rfl : z_2 = nI ((11 * nc) + j) := ez_2.trans (nI_add (11 * nc) j)
            refine lv_iload hx hb dX2_combine_323 (lv_at hl 1 rfl) ?_
            refine lv_if_eq (tgt := 334) hx hb dX2_combine_325 (by decide) (fun c => absurd c (by decide)) (fun _ => ?_)
            refine lv_lload hx hb dX2_combine_328 (lv_at hl 0 rfl) ?_
            refine lv_lneg hx hb dX2_combine_330 ?_
            refine lv_goto (tgt := 336) hx hb dX2_combine_331 (by decide) ?_
            refine na_last hx hb hK hP hD hS 3 1 rfl rfl (show 11 * nc + j < 13200 by omega) (by decide) dX2_combine_336 (fun H locs hP hD hS => ?_)
            have hP : va_P (dC, dI) vwCl (mdW m0 aN aR aX aO aP aH aL aW cI cJ vn ct nm tp bt an rw (vp_updL f ((11 * nc) + j) (-x9)) og no rc nc hh ll Dh Dl fT fB wd) H := hP
            have hD : va_D A (mdW m0 aN aR aX aO aP aH aL aW cI cJ vn ct nm tp bt an rw (vp_updL f ((11 * nc) + j) (-x9)) og no rc nc hh ll Dh Dl fT fB wd) := hD
            refine lv_iinc (v := nI (j + 1)) (lv' := [(8, .int (nI (j + 1))), (15, .long x9), (9, .int 1), (0, .ref m0), (1, .int (nI a)), (2, .int (nI b)), (3, .int (nI u))]) hx hb dX2_combine_337 hl (k := 2) rfl (nI_1 _) (by decide) rfl (fun ls hl => ?_)
            refine lv_goto (tgt := 180) hx hb dX2_combine_340 (by decide) ?_
            exact ih (j + 1) _ H _ ls (by omega) (outR_up ho (by omega)) (cbF_up hf (by rw [neg_int (by omega), Int.neg_mul, hx1]; omega) (fun e => by omega)) hP hK hD hS (lv_sub hl [0, 3, 4, 5, 6] rfl)
          · refine lv_lstore (lv' := [(15, .long x9), (9, .int 0), (8, .int (nI j)), (0, .ref m0), (1, .int (nI a)), (2, .int (nI b)), (3, .int (nI u))]) hx hb dX2_combine_307 hl (by decide) rfl (fun ls hl => ?_)
            refine lv_aload_n hx hb dX2_combine_309 rfl (lv_at hl 3 rfl) ?_
            refine va_get (D := (dC, dI)) (ci := 2) (v := .ref aX) (C := RX2) (T := TX2) (N := 19) hx hb hts (fun _ h => List.mem_cons_of_mem _ (List.mem_append_right _ h)) hown hK hP 0 rfl rfl 7 (by decide) (hts (.fieldLink RX2 21 "RankFinderModel" "next" "[J") (List.mem_of_getElem? (i := 6) rfl)) (fun _ h9 => h9) rfl dX2_combine_310 ?_
            refine lv_bipush (v := nI 11) hx hb dX2_combine_313 (by decide) ?_
            refine lv_aload_n hx hb dX2_combine_315 rfl (lv_at hl 3 rfl) ?_
            refine va_get (D := (dC, dI)) (ci := 2) (v := .int (nI nc)) (C := RX2) (T := TX2) (N := 19) hx hb hts (fun _ h => List.mem_cons_of_mem _ (List.mem_append_right _ h)) hown hK hP 0 rfl rfl 11 (by decide) (hts (.fieldLink RX2 83 "RankFinderModel" "nextCount" "I") (List.mem_of_getElem? (i := 7) rfl)) (fun _ h9 => h9) rfl dX2_combine_316 ?_
            refine lv_imul hx hb dX2_combine_319 ?_
            refine lv_topi (fun z_3 ez_3 => ?_)
            obtain rfl : z_3 = nI (11 * nc) := ez_3.trans (pk_mul 11 nc)
            refine lv_iload hx hb dX2_combine_320 (lv_at hl 2 rfl) ?_
            refine lv_iadd hx hb dX2_combine_322 ?_
            refine lv_topi (fun z_4 ez_4 => ?_)
            obtain rfl : z_4 = nI ((11 * nc) + j) := ez_4.trans (nI_add (11 * nc) j)
            refine lv_iload hx hb dX2_combine_323 (lv_at hl 1 rfl) ?_
            refine lv_if_eq (tgt := 334) hx hb dX2_combine_325 (by decide) (fun _ => ?_) (fun c => absurd rfl c)
            refine lv_lload hx hb dX2_combine_334 (lv_at hl 0 rfl) ?_
            refine na_last hx hb hK hP hD hS 3 1 rfl rfl (show 11 * nc + j < 13200 by omega) (by decide) dX2_combine_336 (fun H locs hP hD hS => ?_)
            have hP : va_P (dC, dI) vwCl (mdW m0 aN aR aX aO aP aH aL aW cI cJ vn ct nm tp bt an rw (vp_updL f ((11 * nc) + j) x9) og no rc nc hh ll Dh Dl fT fB wd) H := hP
            have hD : va_D A (mdW m0 aN aR aX aO aP aH aL aW cI cJ vn ct nm tp bt an rw (vp_updL f ((11 * nc) + j) x9) og no rc nc hh ll Dh Dl fT fB wd) := hD
            refine lv_iinc (v := nI (j + 1)) (lv' := [(8, .int (nI (j + 1))), (15, .long x9), (9, .int 0), (0, .ref m0), (1, .int (nI a)), (2, .int (nI b)), (3, .int (nI u))]) hx hb dX2_combine_337 hl (k := 2) rfl (nI_1 _) (by decide) rfl (fun ls hl => ?_)
            refine lv_goto (tgt := 180) hx hb dX2_combine_340 (by decide) ?_
            exact ih (j + 1) _ H _ ls (by omega) (outR_up ho (by omega)) (cbF_up hf (by rw [hx1]; omega) hx3) hP hK hD hS (lv_sub hl [0, 3, 4, 5, 6] rfl)
        have aft2 : ∀ (f9 : Int32) (hi lo : Int64) (ls : Array Slot), w2 hi lo = (E j).natAbs → ((f9 = 1 ∧ E j < 0) ∨ (f9 = 0 ∧ 0 ≤ E j)) → lv_has ls 17 [(12, .long hi), (10, .long lo), (9, .int f9), (8, .int (nI j)), (0, .ref m0), (1, .int (nI a)), (2, .int (nI b)), (3, .int (nI u))] → W p l e (headSpec wsX2_combine ({ frames := 2, cells := 0, slots := 0, locals := 68 })).room s m #[.ref m0, .int (nI a), .int (nI b), .int (nI u)] below meth c H locs 0 0 (MQ below (va_Qv (fun v : (Nat → Int64) × (Nat → Int64) × Int64 × Int64 × (Nat → Int64) => outR v.2.2.2.2 nx nc ∧ ∀ j, j < 11 → cbF v.2.2.2.2 nc (gcdN (cbE rw a b u) 11) (cbE rw a b u) j) (fun v t => va_P (dC, dI) vwCl (mdW m0 aN aR aX aO aP aH aL aW cI cJ vn ct nm tp bt an rw v.2.2.2.2 og (upd no nc (og a ||| og b)) rc (nc + 1) v.1 v.2.1 v.2.2.1 v.2.2.2.1 fT fB wd) t.heap ∧ va_K (dC, dI) vwCl [(cI, .int), (cJ, .long)] t ∧ va_D A (mdW m0 aN aR aX aO aP aH aL aW cI cJ vn ct nm tp bt an rw v.2.2.2.2 og (upd no nc (og a ||| og b)) rc (nc + 1) v.1 v.2.1 v.2.2.1 v.2.2.2.1 fT fB wd)) A) #[.ref m0, .int (nI a), .int (nI b), .int (nI u)] s 0 0 A) (F0 m 269 ls []) := by
          clear hl
          intro f9 hi lo ls hw9 hsg hl
          refine lv_lload hx hb dX2_combine_269 (lv_at hl 0 rfl) ?_
          refine lv_lconst (v := 0) hx hb dX2_combine_271 (by decide) ?_
          refine W.lcmp hx hb dX2_combine_272 ?_
          refine lv_if_ne (tgt := 287) hx hb dX2_combine_273 (by decide) (fun c2 => ?_) (fun c2 => ?_)
          · rw [lg_cmp_eq] at c2
            have hez : (E j).natAbs ≠ 0 := fun e => by rw [← hw9] at e; exact c2 (w2_0.mp e).1
            refine lv_iconst (v := nI 0) hx hb dX2_combine_287 (by decide) ?_
            refine lv_istore (lv' := [(14, .int (nI 0)), (12, .long hi), (10, .long lo), (9, .int f9), (8, .int (nI j)), (0, .ref m0), (1, .int (nI a)), (2, .int (nI b)), (3, .int (nI u))]) hx hb dX2_combine_288 hl (by decide) rfl (fun ls hl => ?_)
            refine lv_iload hx hb dX2_combine_290 (lv_at hl 0 rfl) ?_
            refine lv_if_eq (tgt := 299) hx hb dX2_combine_292 (by decide) (fun _ => ?_) (fun c => absurd rfl c)
            refine lv_aload_n hx hb dX2_combine_299 rfl (lv_at hl 5 rfl) ?_
            refine lv_lload hx hb dX2_combine_300 (lv_at hl 1 rfl) ?_
            refine lv_lload hx hb dX2_combine_302 (lv_at hl 2 rfl) ?_
            have hdv : gcdN E 11 ∣ (E j).natAbs := gcdN_dvd (by omega)
            have hG0 : 0 < gcdN E 11 := Nat.pos_of_dvd_of_pos hdv (by omega)
            have hFc : ∀ q, va_A (mdW m0 aN aR aX aO aP aH aL aW cI cJ vn ct nm tp bt an rw f og no rc nc hh ll Dh Dl fT fB wd) H.size q → A q := va_fall hD hS hA
            refine va_calll (va_runV (As := [.long hi, .long lo]) (rest := []) ⟨hx, hb, hml, hown, hts⟩ (c_X2_share l dC dI H.size m0 aN aR aX aO aP aH aL aW cI cJ vn ct nm tp bt an rw f og no rc nc hh ll Dh Dl fT fB wd hi lo (by rw [hG]; exact hG0) (by rw [hG]; have := hGb 11 (by omega); omega)) (cwV 2 hts gX2_combine_X2_share rfl rfl rfl (by decide +kernel) ⟨Nat.le_of_ble_eq_true rfl, Nat.le_of_ble_eq_true rfl⟩) ⟨fun a U g mk q => by obtain ⟨q0, q1, qP, qK, qD⟩ := q; exact ⟨q0, q1, qP, va_K.moved (u := U) (U := U.calling g mk a) (Vm.Alike.refl U.vm) qK, qD⟩, va_recv hK hP (ci := 2) (q0 := 0) rfl rfl, fun U hU hW => ⟨rfl, by rw [hU], by rw [hU]; exact hP, va_K.moved hW.alike hK, hD.weaken (fun _ _ _ _ => trivial)⟩⟩ rfl rfl hl.1 rfl (lv_room (Nat.le_of_ble_eq_true rfl)) dX2_combine_304 ⟨(Nat.zero_le _), (Nat.zero_le _)⟩) hS (fun q _ h => hFc q h) hFc (fun r_304 v9 t H1 locs ht hvm hw hB hz1 hk1 hS => ?_)
            obtain ⟨hP1, hK1, hD1⟩ := hB
            rw [ht] at hP1
            clear hP hD hK
            have hK := va_K.moved hvm.symm hK1
            have hP := hP1
            have hD := hD1.weaken (B := A) (fun _ q _ h => hFc q.1 h)
            clear hP1 hD1 hK1 hFc hk1 hz1 ht hvm
            generalize H1 = H at hP hS ⊢
            rw [hG, hw9] at hw
            obtain ⟨hx1, hx2⟩ := sh_fin hG0 hdv (hfit j (by omega)) hw
            exact aft3 f9 r_304 H _ ls hx1 hx2 (fun e => by rw [e] at hez; exact absurd rfl hez) hsg hP hK hD hS (lv_sub hl [3, 4, 5, 6, 7, 8] rfl)
          · rw [lg_cmp_eq] at c2
            refine lv_lload hx hb dX2_combine_276 (lv_at hl 1 rfl) ?_
            refine lv_lconst (v := 0) hx hb dX2_combine_278 (by decide) ?_
            refine W.lcmp hx hb dX2_combine_279 ?_
            refine lv_if_ne (tgt := 287) hx hb dX2_combine_280 (by decide) (fun c3 => ?_) (fun c3 => ?_)
            · rw [lg_cmp_eq] at c3
              have hez : (E j).natAbs ≠ 0 := fun e => by rw [← hw9] at e; exact c3 (w2_0.mp e).2
              refine lv_iconst (v := nI 0) hx hb dX2_combine_287 (by decide) ?_
              refine lv_istore (lv' := [(14, .int (nI 0)), (12, .long hi), (10, .long lo), (9, .int f9), (8, .int (nI j)), (0, .ref m0), (1, .int (nI a)), (2, .int (nI b)), (3, .int (nI u))]) hx hb dX2_combine_288 hl (by decide) rfl (fun ls hl => ?_)
              refine lv_iload hx hb dX2_combine_290 (lv_at hl 0 rfl) ?_
              refine lv_if_eq (tgt := 299) hx hb dX2_combine_292 (by decide) (fun _ => ?_) (fun c => absurd rfl c)
              refine lv_aload_n hx hb dX2_combine_299 rfl (lv_at hl 5 rfl) ?_
              refine lv_lload hx hb dX2_combine_300 (lv_at hl 1 rfl) ?_
              refine lv_lload hx hb dX2_combine_302 (lv_at hl 2 rfl) ?_
              have hdv : gcdN E 11 ∣ (E j).natAbs := gcdN_dvd (by omega)
              have hG0 : 0 < gcdN E 11 := Nat.pos_of_dvd_of_pos hdv (by omega)
              have hFc : ∀ q, va_A (mdW m0 aN aR aX aO aP aH aL aW cI cJ vn ct nm tp bt an rw f og no rc nc hh ll Dh Dl fT fB wd) H.size q → A q := va_fall hD hS hA
              refine va_calll (va_runV (As := [.long hi, .long lo]) (rest := []) ⟨hx, hb, hml, hown, hts⟩ (c_X2_share l dC dI H.size m0 aN aR aX aO aP aH aL aW cI cJ vn ct nm tp bt an rw f og no rc nc hh ll Dh Dl fT fB wd hi lo (by rw [hG]; exact hG0) (by rw [hG]; have := hGb 11 (by omega); omega)) (cwV 2 hts gX2_combine_X2_share rfl rfl rfl (by decide +kernel) ⟨Nat.le_of_ble_eq_true rfl, Nat.le_of_ble_eq_true rfl⟩) ⟨fun a U g mk q => by obtain ⟨q0, q1, qP, qK, qD⟩ := q; exact ⟨q0, q1, qP, va_K.moved (u := U) (U := U.calling g mk a) (Vm.Alike.refl U.vm) qK, qD⟩, va_recv hK hP (ci := 2) (q0 := 0) rfl rfl, fun U hU hW => ⟨rfl, by rw [hU], by rw [hU]; exact hP, va_K.moved hW.alike hK, hD.weaken (fun _ _ _ _ => trivial)⟩⟩ rfl rfl hl.1 rfl (lv_room (Nat.le_of_ble_eq_true rfl)) dX2_combine_304 ⟨(Nat.zero_le _), (Nat.zero_le _)⟩) hS (fun q _ h => hFc q h) hFc (fun r_304 v9 t H1 locs ht hvm hw hB hz1 hk1 hS => ?_)
              obtain ⟨hP1, hK1, hD1⟩ := hB
              rw [ht] at hP1
              clear hP hD hK
              have hK := va_K.moved hvm.symm hK1
              have hP := hP1
              have hD := hD1.weaken (B := A) (fun _ q _ h => hFc q.1 h)
              clear hP1 hD1 hK1 hFc hk1 hz1 ht hvm
              generalize H1 = H at hP hS ⊢
              rw [hG, hw9] at hw
              obtain ⟨hx1, hx2⟩ := sh_fin hG0 hdv (hfit j (by omega)) hw
              exact aft3 f9 r_304 H _ ls hx1 hx2 (fun e => by rw [e] at hez; exact absurd rfl hez) hsg hP hK hD hS (lv_sub hl [3, 4, 5, 6, 7, 8] rfl)
            · rw [lg_cmp_eq] at c3
              have hz9 := w2_0.mpr ⟨c2, c3⟩
              refine lv_iconst (v := nI 1) hx hb dX2_combine_283 (by decide) ?_
              refine lv_goto (tgt := 288) hx hb dX2_combine_284 (by decide) ?_
              refine lv_istore (lv' := [(14, .int (nI 1)), (12, .long hi), (10, .long lo), (9, .int f9), (8, .int (nI j)), (0, .ref m0), (1, .int (nI a)), (2, .int (nI b)), (3, .int (nI u))]) hx hb dX2_combine_288 hl (by decide) rfl (fun ls hl => ?_)
              refine lv_iload hx hb dX2_combine_290 (lv_at hl 0 rfl) ?_
              refine lv_if_eq (tgt := 299) hx hb dX2_combine_292 (by decide) (fun c => absurd c (by decide)) (fun _ => ?_)
              refine lv_lconst (v := 0) hx hb dX2_combine_295 (by decide) ?_
              refine lv_goto (tgt := 307) hx hb dX2_combine_296 (by decide) ?_
              exact aft3 f9 0 H _ ls (by rw [← hw9, hz9]; show (0 : Int) * _ = 0; omega) (Int.le_refl _) (fun _ => rfl) hsg hP hK hD hS (lv_sub hl [3, 4, 5, 6, 7, 8] rfl)
        refine lv_aload_n hx hb dX2_combine_187 rfl (lv_at hl 1 rfl) ?_
        refine va_get (D := (dC, dI)) (ci := 2) (v := .ref aH) (C := RX2) (T := TX2) (N := 19) hx hb hts (fun _ h => List.mem_cons_of_mem _ (List.mem_append_right _ h)) hown hK hP 0 rfl rfl 12 (by decide) (hts (.fieldLink RX2 30 "RankFinderModel" "highs" "[J") (List.mem_of_getElem? (i := 4) rfl)) (fun _ h9 => h9) rfl dX2_combine_188 ?_
        refine lv_iload hx hb dX2_combine_191 (lv_at hl 0 rfl) ?_
        refine na_lald hx hb hK hP 6 1 rfl rfl (show j < 11 by omega) (by decide) dX2_combine_193 ?_
        refine lv_lconst (v := 0) hx hb dX2_combine_194 (by decide) ?_
        refine W.lcmp hx hb dX2_combine_195 ?_
        refine lv_if_ge (tgt := 203) hx hb dX2_combine_196 (by decide) (fun c4 => ?_) (fun c4 => ?_)
        · rw [lg_cmp_ge] at c4
          refine lv_iconst (v := nI 0) hx hb dX2_combine_203 (by decide) ?_
          refine lv_istore (lv' := [(9, .int (nI 0)), (8, .int (nI j)), (0, .ref m0), (1, .int (nI a)), (2, .int (nI b)), (3, .int (nI u))]) hx hb dX2_combine_204 hl (by decide) rfl (fun ls hl => ?_)
          refine lv_iload hx hb dX2_combine_206 (lv_at hl 0 rfl) ?_
          refine lv_if_eq (tgt := 222) hx hb dX2_combine_208 (by decide) (fun _ => ?_) (fun c => absurd rfl c)
          refine lv_aload_n hx hb dX2_combine_222 rfl (lv_at hl 2 rfl) ?_
          refine va_get (D := (dC, dI)) (ci := 2) (v := .ref aL) (C := RX2) (T := TX2) (N := 19) hx hb hts (fun _ h => List.mem_cons_of_mem _ (List.mem_append_right _ h)) hown hK hP 0 rfl rfl 13 (by decide) (hts (.fieldLink RX2 33 "RankFinderModel" "lows" "[J") (List.mem_of_getElem? (i := 5) rfl)) (fun _ h9 => h9) rfl dX2_combine_223 ?_
          refine lv_iload hx hb dX2_combine_226 (lv_at hl 1 rfl) ?_
          refine na_lald hx hb hK hP 7 1 rfl rfl (show j < 11 by omega) (by decide) dX2_combine_228 ?_
          refine lv_lstore (lv' := [(10, .long (ll j)), (9, .int (nI 0)), (8, .int (nI j)), (0, .ref m0), (1, .int (nI a)), (2, .int (nI b)), (3, .int (nI u))]) hx hb dX2_combine_229 hl (by decide) rfl (fun ls hl => ?_)
          refine lv_iload hx hb dX2_combine_231 (lv_at hl 1 rfl) ?_
          refine lv_if_ne (tgt := 246) hx hb dX2_combine_233 (by decide) (fun c => absurd rfl c) (fun _ => ?_)
          refine lv_aload_n hx hb dX2_combine_236 rfl (lv_at hl 3 rfl) ?_
          refine va_get (D := (dC, dI)) (ci := 2) (v := .ref aH) (C := RX2) (T := TX2) (N := 19) hx hb hts (fun _ h => List.mem_cons_of_mem _ (List.mem_append_right _ h)) hown hK hP 0 rfl rfl 12 (by decide) (hts (.fieldLink RX2 30 "RankFinderModel" "highs" "[J") (List.mem_of_getElem? (i := 4) rfl)) (fun _ h9 => h9) rfl dX2_combine_237 ?_
          refine lv_iload hx hb dX2_combine_240 (lv_at hl 2 rfl) ?_
          refine na_lald hx hb hK hP 6 1 rfl rfl (show j < 11 by omega) (by decide) dX2_combine_242 ?_
          refine lv_goto (tgt := 267) hx hb dX2_combine_243 (by decide) ?_
          refine lv_lstore (lv' := [(12, .long (hh j)), (10, .long (ll j)), (9, .int (nI 0)), (8, .int (nI j)), (0, .ref m0), (1, .int (nI a)), (2, .int (nI b)), (3, .int (nI u))]) hx hb dX2_combine_267 hl (by decide) rfl (fun ls hl => ?_)
          obtain ⟨s1, s2⟩ := sg_pos he c4
          exact aft2 0 _ _ ls s1 (Or.inr ⟨rfl, s2⟩) (lv_sub hl [0, 1, 2, 3, 4, 5, 6, 7] rfl)
        · rw [lg_cmp_ge] at c4
          refine lv_iconst (v := nI 1) hx hb dX2_combine_199 (by decide) ?_
          refine lv_goto (tgt := 204) hx hb dX2_combine_200 (by decide) ?_
          refine lv_istore (lv' := [(9, .int (nI 1)), (8, .int (nI j)), (0, .ref m0), (1, .int (nI a)), (2, .int (nI b)), (3, .int (nI u))]) hx hb dX2_combine_204 hl (by decide) rfl (fun ls hl => ?_)
          refine lv_iload hx hb dX2_combine_206 (lv_at hl 0 rfl) ?_
          refine lv_if_eq (tgt := 222) hx hb dX2_combine_208 (by decide) (fun c => absurd c (by decide)) (fun _ => ?_)
          refine lv_aload_n hx hb dX2_combine_211 rfl (lv_at hl 2 rfl) ?_
          refine va_get (D := (dC, dI)) (ci := 2) (v := .ref aL) (C := RX2) (T := TX2) (N := 19) hx hb hts (fun _ h => List.mem_cons_of_mem _ (List.mem_append_right _ h)) hown hK hP 0 rfl rfl 13 (by decide) (hts (.fieldLink RX2 33 "RankFinderModel" "lows" "[J") (List.mem_of_getElem? (i := 5) rfl)) (fun _ h9 => h9) rfl dX2_combine_212 ?_
          refine lv_iload hx hb dX2_combine_215 (lv_at hl 1 rfl) ?_
          refine na_lald hx hb hK hP 7 1 rfl rfl (show j < 11 by omega) (by decide) dX2_combine_217 ?_
          refine lv_lneg hx hb dX2_combine_218 ?_
          refine lv_goto (tgt := 229) hx hb dX2_combine_219 (by decide) ?_
          refine lv_lstore (lv' := [(10, .long (-(ll j))), (9, .int (nI 1)), (8, .int (nI j)), (0, .ref m0), (1, .int (nI a)), (2, .int (nI b)), (3, .int (nI u))]) hx hb dX2_combine_229 hl (by decide) rfl (fun ls hl => ?_)
          refine lv_iload hx hb dX2_combine_231 (lv_at hl 1 rfl) ?_
          refine lv_if_ne (tgt := 246) hx hb dX2_combine_233 (by decide) (fun _ => ?_) (fun c => absurd c (by decide))
          refine lv_aload_n hx hb dX2_combine_246 rfl (lv_at hl 3 rfl) ?_
          refine va_get (D := (dC, dI)) (ci := 2) (v := .ref aH) (C := RX2) (T := TX2) (N := 19) hx hb hts (fun _ h => List.mem_cons_of_mem _ (List.mem_append_right _ h)) hown hK hP 0 rfl rfl 12 (by decide) (hts (.fieldLink RX2 30 "RankFinderModel" "highs" "[J") (List.mem_of_getElem? (i := 4) rfl)) (fun _ h9 => h9) rfl dX2_combine_247 ?_
          refine lv_iload hx hb dX2_combine_250 (lv_at hl 2 rfl) ?_
          refine na_lald hx hb hK hP 6 1 rfl rfl (show j < 11 by omega) (by decide) dX2_combine_252 ?_
          refine lv_lneg hx hb dX2_combine_253 ?_
          refine lv_lload hx hb dX2_combine_254 (lv_at hl 0 rfl) ?_
          refine lv_lconst (v := 0) hx hb dX2_combine_256 (by decide) ?_
          refine W.lcmp hx hb dX2_combine_257 ?_
          refine lv_if_eq (tgt := 265) hx hb dX2_combine_258 (by decide) (fun c5 => ?_) (fun c5 => ?_)
          · rw [lg_cmp_eq] at c5
            refine lv_lconst (v := 0) hx hb dX2_combine_265 (by decide) ?_
            refine lv_lsub hx hb dX2_combine_266 ?_
            refine lv_lstore (lv' := [(12, .long ((-(hh j)) - 0)), (10, .long (-(ll j))), (9, .int (nI 1)), (8, .int (nI j)), (0, .ref m0), (1, .int (nI a)), (2, .int (nI b)), (3, .int (nI u))]) hx hb dX2_combine_267 hl (by decide) rfl (fun ls hl => ?_)
            obtain ⟨s1, s2⟩ := sg_neg (b := 0) he (Int64.not_le.mp c4) (by rw [if_pos c5])
            exact aft2 1 _ _ ls s1 (Or.inl ⟨rfl, s2⟩) (lv_sub hl [0, 1, 2, 3, 4, 5, 6, 7] rfl)
          · rw [lg_cmp_eq] at c5
            refine lv_lconst (v := 1) hx hb dX2_combine_261 (by decide) ?_
            refine lv_goto (tgt := 266) hx hb dX2_combine_262 (by decide) ?_
            refine lv_lsub hx hb dX2_combine_266 ?_
            refine lv_lstore (lv' := [(12, .long ((-(hh j)) - 1)), (10, .long (-(ll j))), (9, .int (nI 1)), (8, .int (nI j)), (0, .ref m0), (1, .int (nI a)), (2, .int (nI b)), (3, .int (nI u))]) hx hb dX2_combine_267 hl (by decide) rfl (fun ls hl => ?_)
            obtain ⟨s1, s2⟩ := sg_neg (b := 1) he (Int64.not_le.mp c4) (by rw [if_neg c5])
            exact aft2 1 _ _ ls s1 (Or.inl ⟨rfl, s2⟩) (lv_sub hl [0, 1, 2, 3, 4, 5, 6, 7] rfl)
  have loop1 : ∀ (d j : Nat) (hh ll : Nat → Int64) (Dh Dl : Int64) (H : Heap) (locs : List Loc) (ls : Array Slot), j + d = 11 → (∀ i, i < j → (hh i).toInt * 18446744073709551616 + (uN (ll i) : Int) = E i) → w2 Dh Dl = gcdN E j → va_P (dC, dI) vwCl (mdW m0 aN aR aX aO aP aH aL aW cI cJ vn ct nm tp bt an rw nx og no rc nc hh ll Dh Dl fT fB wd) H → va_K (dC, dI) vwCl [(cI, .int), (cJ, .long)] s → va_D A (mdW m0 aN aR aX aO aP aH aL aW cI cJ vn ct nm tp bt an rw nx og no rc nc hh ll Dh Dl fT fB wd) → va_S A s.heap H locs → lv_has ls 17 [(8, .int (nI j)), (4, .long (rw (11 * a + u))), (6, .long (-(rw (11 * b + u)))), (0, .ref m0), (1, .int (nI a)), (2, .int (nI b)), (3, .int (nI u))] → W p l e (headSpec wsX2_combine ({ frames := 2, cells := 0, slots := 0, locals := 68 })).room s m #[.ref m0, .int (nI a), .int (nI b), .int (nI u)] below meth c H locs 0 0 (MQ below (va_Qv (fun v : (Nat → Int64) × (Nat → Int64) × Int64 × Int64 × (Nat → Int64) => outR v.2.2.2.2 nx nc ∧ ∀ j, j < 11 → cbF v.2.2.2.2 nc (gcdN (cbE rw a b u) 11) (cbE rw a b u) j) (fun v t => va_P (dC, dI) vwCl (mdW m0 aN aR aX aO aP aH aL aW cI cJ vn ct nm tp bt an rw v.2.2.2.2 og (upd no nc (og a ||| og b)) rc (nc + 1) v.1 v.2.1 v.2.2.1 v.2.2.2.1 fT fB wd) t.heap ∧ va_K (dC, dI) vwCl [(cI, .int), (cJ, .long)] t ∧ va_D A (mdW m0 aN aR aX aO aP aH aL aW cI cJ vn ct nm tp bt an rw v.2.2.2.2 og (upd no nc (og a ||| og b)) rc (nc + 1) v.1 v.2.1 v.2.2.1 v.2.2.2.1 fT fB wd)) A) #[.ref m0, .int (nI a), .int (nI b), .int (nI u)] s 0 0 A) (F0 m 40 ls []) := by
    clear hP hK hD hS hl
    intro d
    induction d with
    | zero =>
      intro j hh ll Dh Dl H locs ls hj hhl hG hP hK hD hS hl
      refine lv_iload hx hb dX2_combine_40 (lv_at hl 0 rfl) ?_
      refine lv_bipush (v := nI 11) hx hb dX2_combine_42 (by decide) ?_
      refine lv_icmp_ge (tgt := 177) hx hb dX2_combine_44 (by decide) (fun c1 => ?_) (fun c1 => ?_)
      · obtain rfl : j = 11 := by omega
        refine lv_iconst (v := nI 0) hx hb dX2_combine_177 (by decide) ?_
        refine lv_istore (lv' := [(8, .int (nI 0)), (4, .long (rw (11 * a + u))), (6, .long (-(rw (11 * b + u)))), (0, .ref m0), (1, .int (nI a)), (2, .int (nI b)), (3, .int (nI u))]) hx hb dX2_combine_178 hl (by decide) rfl (fun ls hl => ?_)
        exact loop2 hh ll Dh Dl hhl hG 11 0 nx H _ ls (by omega) (fun _ _ => rfl) (fun i hi => by omega) hP hK hD hS (lv_sub hl [0, 3, 4, 5, 6] rfl)
      · exact absurd (nI_le (by omega) (by omega)) c1
    | succ d ih =>
      intro j hh ll Dh Dl H locs ls hj hhl hG hP hK hD hS hl
      refine lv_iload hx hb dX2_combine_40 (lv_at hl 0 rfl) ?_
      refine lv_bipush (v := nI 11) hx hb dX2_combine_42 (by decide) ?_
      refine lv_icmp_ge (tgt := 177) hx hb dX2_combine_44 (by decide) (fun c1 => ?_) (fun c1 => ?_)
      · exact absurd c1 (nI_ge (by omega) (by omega))
      · refine lv_aload_n hx hb dX2_combine_47 rfl (lv_at hl 3 rfl) ?_
        refine lv_iload hx hb dX2_combine_48 (lv_at hl 0 rfl) ?_
        refine lv_aload_n hx hb dX2_combine_50 rfl (lv_at hl 3 rfl) ?_
        refine va_get (D := (dC, dI)) (ci := 2) (v := .ref aR) (C := RX2) (T := TX2) (N := 19) hx hb hts (fun _ h => List.mem_cons_of_mem _ (List.mem_append_right _ h)) hown hK hP 0 rfl rfl 6 (by decide) (hts (.fieldLink RX2 17 "RankFinderModel" "rows" "[J") (List.mem_of_getElem? (i := 1) rfl)) (fun _ h9 => h9) rfl dX2_combine_51 ?_
        refine lv_bipush (v := nI 11) hx hb dX2_combine_54 (by decide) ?_
        refine lv_iload_n hx hb dX2_combine_56 rfl (lv_at hl 4 rfl) ?_
        refine lv_imul hx hb dX2_combine_57 ?_
        refine lv_topi (fun z_1 ez_1 => ?_)
        obtain rfl : z_1 = nI (11 * a) := ez_1.trans (pk_mul 11 a)
        refine lv_iload hx hb dX2_combine_58 (lv_at hl 0 rfl) ?_
        refine lv_iadd hx hb dX2_combine_60 ?_
        refine lv_topi (fun z_2 ez_2 => ?_)
        obtain rfl : z_2 = nI ((11 * a) + j) := ez_2.trans (nI_add (11 * a) j)
        refine na_lald hx hb hK hP 2 1 rfl rfl (show 11 * a + j < 13200 by omega) (by decide) dX2_combine_61 ?_
        refine lv_lload hx hb dX2_combine_62 (lv_at hl 2 rfl) ?_
        refine lv_aload_n hx hb dX2_combine_64 rfl (lv_at hl 3 rfl) ?_
        refine va_get (D := (dC, dI)) (ci := 2) (v := .ref aR) (C := RX2) (T := TX2) (N := 19) hx hb hts (fun _ h => List.mem_cons_of_mem _ (List.mem_append_right _ h)) hown hK hP 0 rfl rfl 6 (by decide) (hts (.fieldLink RX2 17 "RankFinderModel" "rows" "[J") (List.mem_of_getElem? (i := 1) rfl)) (fun _ h9 => h9) rfl dX2_combine_65 ?_
        refine lv_bipush (v := nI 11) hx hb dX2_combine_68 (by decide) ?_
        refine lv_iload_n hx hb dX2_combine_70 rfl (lv_at hl 5 rfl) ?_
        refine lv_imul hx hb dX2_combine_71 ?_
        refine lv_topi (fun z_3 ez_3 => ?_)
        obtain rfl : z_3 = nI (11 * b) := ez_3.trans (pk_mul 11 b)
        refine lv_iload hx hb dX2_combine_72 (lv_at hl 0 rfl) ?_
        refine lv_iadd hx hb dX2_combine_74 ?_
        refine lv_topi (fun z_4 ez_4 => ?_)
        obtain rfl : z_4 = nI ((11 * b) + j) := ez_4.trans (nI_add (11 * b) j)
        refine na_lald hx hb hK hP 2 1 rfl rfl (show 11 * b + j < 13200 by omega) (by decide) dX2_combine_75 ?_
        refine lv_lload hx hb dX2_combine_76 (lv_at hl 1 rfl) ?_
        have hFc : ∀ q, va_A (mdW m0 aN aR aX aO aP aH aL aW cI cJ vn ct nm tp bt an rw nx og no rc nc hh ll Dh Dl fT fB wd) H.size q → A q := va_fall hD hS hA
        refine va_callv (va_runV (As := [.int (nI j), .long (rw ((11 * a) + j)), .long (-(rw (11 * b + u))), .long (rw ((11 * b) + j)), .long (rw (11 * a + u))]) (rest := []) ⟨hx, hb, hml, hown, hts⟩ (c_X2_make l dC dI H.size m0 aN aR aX aO aP aH aL aW cI cJ vn ct nm tp bt an rw nx og no rc nc hh ll Dh Dl fT fB wd j (rw (11 * a + j)) (-(rw (11 * b + u))) (rw (11 * b + j)) (rw (11 * a + u)) (by omega)) (cwV 5 hts gX2_combine_X2_make rfl rfl rfl (by decide +kernel) ⟨Nat.le_of_ble_eq_true rfl, Nat.le_of_ble_eq_true rfl⟩) ⟨fun a U g mk q => by obtain ⟨q0, q1, qP, qK, qD⟩ := q; exact ⟨q0, q1, qP, va_K.moved (u := U) (U := U.calling g mk a) (Vm.Alike.refl U.vm) qK, qD⟩, va_recv hK hP (ci := 2) (q0 := 0) rfl rfl, fun U hU hW => ⟨rfl, by rw [hU], by rw [hU]; exact hP, va_K.moved hW.alike hK, hD.weaken (fun _ _ _ _ => trivial)⟩⟩ rfl rfl hl.1 rfl (lv_room (Nat.le_of_ble_eq_true rfl)) dX2_combine_78 ⟨(Nat.zero_le _), (Nat.zero_le _)⟩) hS (fun q _ h => hFc q h) hFc (fun v9 t H1 locs ht hvm hw hB hz1 hk1 hS => ?_)
        obtain ⟨hP1, hK1, hD1⟩ := hB
        rw [ht] at hP1
        clear hP hD hK
        have hK := va_K.moved hvm.symm hK1
        have hP := hP1
        have hD := hD1.weaken (B := A) (fun _ q _ h => hFc q.1 h)
        clear hP1 hD1 hK1 hFc hk1 hz1 ht hvm
        generalize H1 = H at hP hS ⊢
        have hP : va_P (dC, dI) vwCl (mdW m0 aN aR aX aO aP aH aL aW cI cJ vn ct nm tp bt an rw nx og no rc nc (vp_updL hh j (mkH (rw (11 * a + j)) (-(rw (11 * b + u))) (rw (11 * b + j)) (rw (11 * a + u)))) (vp_updL ll j (rw (11 * a + j) * -(rw (11 * b + u)) + rw (11 * b + j) * rw (11 * a + u))) Dh Dl fT fB wd) H := hP
        have hD : va_D A (mdW m0 aN aR aX aO aP aH aL aW cI cJ vn ct nm tp bt an rw nx og no rc nc (vp_updL hh j (mkH (rw (11 * a + j)) (-(rw (11 * b + u))) (rw (11 * b + j)) (rw (11 * a + u)))) (vp_updL ll j (rw (11 * a + j) * -(rw (11 * b + u)) + rw (11 * b + j) * rw (11 * a + u))) Dh Dl fT fB wd) := hD
        have hq : (-(rw (11 * b + u))).toInt = -(rw (11 * b + u)).toInt := neg_int (by have := (hrb u hu9).1; omega)
        have hm : (mkH (rw (11 * a + j)) (-(rw (11 * b + u))) (rw (11 * b + j)) (rw (11 * a + u))).toInt * 18446744073709551616 + (uN (rw (11 * a + j) * -(rw (11 * b + u)) + rw (11 * b + j) * rw (11 * a + u)) : Int) = E j := by
          have hb0 := hEb j (by omega)
          rw [hE] at hb0 ⊢
          unfold cbE at *
          rw [← hq] at hb0 ⊢
          exact mk_int (by omega) (by omega)
        obtain ⟨h2, hh2⟩ : ∃ f, f = vp_updL hh j (mkH (rw (11 * a + j)) (-(rw (11 * b + u))) (rw (11 * b + j)) (rw (11 * a + u))) := ⟨_, rfl⟩
        obtain ⟨l2, hl2⟩ : ∃ f, f = vp_updL ll j (rw (11 * a + j) * -(rw (11 * b + u)) + rw (11 * b + j) * rw (11 * a + u)) := ⟨_, rfl⟩
        rw [← hh2, ← hl2] at hP hD
        have hP : va_P (dC, dI) vwCl (mdW m0 aN aR aX aO aP aH aL aW cI cJ vn ct nm tp bt an rw nx og no rc nc h2 l2 Dh Dl fT fB wd) H := hP
        have hD : va_D A (mdW m0 aN aR aX aO aP aH aL aW cI cJ vn ct nm tp bt an rw nx og no rc nc h2 l2 Dh Dl fT fB wd) := hD
        have hhl2 : ∀ i, i < j + 1 → (h2 i).toInt * 18446744073709551616 + (uN (l2 i) : Int) = E i := fun i hi => by
          rw [hh2, hl2]; unfold vp_updL
          by_cases q : i = j
          · subst q; rw [if_pos rfl, if_pos rfl]; exact hm
          · rw [if_neg q, if_neg q]; exact hhl i (by omega)
        have he := hhl2 j (by omega)
        clear hhl hh2 hl2 hm
        have aft1 : ∀ (hi lo : Int64) (ls : Array Slot), w2 hi lo = (E j).natAbs → lv_has ls 17 [(12, .long hi), (10, .long lo), (8, .int (nI j)), (4, .long (rw (11 * a + u))), (6, .long (-(rw (11 * b + u)))), (0, .ref m0), (1, .int (nI a)), (2, .int (nI b)), (3, .int (nI u))] → W p l e (headSpec wsX2_combine ({ frames := 2, cells := 0, slots := 0, locals := 68 })).room s m #[.ref m0, .int (nI a), .int (nI b), .int (nI u)] below meth c H locs 0 0 (MQ below (va_Qv (fun v : (Nat → Int64) × (Nat → Int64) × Int64 × Int64 × (Nat → Int64) => outR v.2.2.2.2 nx nc ∧ ∀ j, j < 11 → cbF v.2.2.2.2 nc (gcdN (cbE rw a b u) 11) (cbE rw a b u) j) (fun v t => va_P (dC, dI) vwCl (mdW m0 aN aR aX aO aP aH aL aW cI cJ vn ct nm tp bt an rw v.2.2.2.2 og (upd no nc (og a ||| og b)) rc (nc + 1) v.1 v.2.1 v.2.2.1 v.2.2.2.1 fT fB wd) t.heap ∧ va_K (dC, dI) vwCl [(cI, .int), (cJ, .long)] t ∧ va_D A (mdW m0 aN aR aX aO aP aH aL aW cI cJ vn ct nm tp bt an rw v.2.2.2.2 og (upd no nc (og a ||| og b)) rc (nc + 1) v.1 v.2.1 v.2.2.1 v.2.2.2.1 fT fB wd)) A) #[.ref m0, .int (nI a), .int (nI b), .int (nI u)] s 0 0 A) (F0 m 163 ls []) := by
          clear hl
          intro hi lo ls hw9 hl
          refine lv_aload_n hx hb dX2_combine_163 rfl (lv_at hl 5 rfl) ?_
          refine lv_lload hx hb dX2_combine_164 (lv_at hl 0 rfl) ?_
          refine lv_lload hx hb dX2_combine_166 (lv_at hl 1 rfl) ?_
          have hFc : ∀ q, va_A (mdW m0 aN aR aX aO aP aH aL aW cI cJ vn ct nm tp bt an rw nx og no rc nc h2 l2 Dh Dl fT fB wd) H.size q → A q := va_fall hD hS hA
          refine va_callv (va_runV (As := [.long hi, .long lo]) (rest := []) ⟨hx, hb, hml, hown, hts⟩ (c_X2_gather l dC dI H.size m0 aN aR aX aO aP aH aL aW cI cJ vn ct nm tp bt an rw nx og no rc nc h2 l2 Dh Dl fT fB wd hi lo (by rw [hG]; have := hGb j (by omega); omega) (by rw [hw9]; have := hEb j (by omega); omega)) (cwV 2 hts gX2_combine_X2_gather rfl rfl rfl (by decide +kernel) ⟨Nat.le_of_ble_eq_true rfl, Nat.le_of_ble_eq_true rfl⟩) ⟨fun a U g mk q => by obtain ⟨q0, q1, qP, qK, qD⟩ := q; exact ⟨q0, q1, qP, va_K.moved (u := U) (U := U.calling g mk a) (Vm.Alike.refl U.vm) qK, qD⟩, va_recv hK hP (ci := 2) (q0 := 0) rfl rfl, fun U hU hW => ⟨rfl, by rw [hU], by rw [hU]; exact hP, va_K.moved hW.alike hK, hD.weaken (fun _ _ _ _ => trivial)⟩⟩ rfl rfl hl.1 rfl (lv_room (Nat.le_of_ble_eq_true rfl)) dX2_combine_168 ⟨(Nat.zero_le _), (Nat.zero_le _)⟩) hS (fun q _ h => hFc q h) hFc (fun v9 t H1 locs ht hvm hw hB hz1 hk1 hS => ?_)
          obtain ⟨hP1, hK1, hD1⟩ := hB
          rw [ht] at hP1
          clear hP hD hK
          have hK := va_K.moved hvm.symm hK1
          have hP := hP1
          have hD := hD1.weaken (B := A) (fun _ q _ h => hFc q.1 h)
          clear hP1 hD1 hK1 hFc hk1 hz1 ht hvm
          generalize H1 = H at hP hS ⊢
          have hP : va_P (dC, dI) vwCl (mdW m0 aN aR aX aO aP aH aL aW cI cJ vn ct nm tp bt an rw nx og no rc nc h2 l2 v9.1 v9.2 fT fB wd) H := hP
          have hD : va_D A (mdW m0 aN aR aX aO aP aH aL aW cI cJ vn ct nm tp bt an rw nx og no rc nc h2 l2 v9.1 v9.2 fT fB wd) := hD
          refine lv_iinc (v := nI (j + 1)) (lv' := [(8, .int (nI (j + 1))), (12, .long hi), (10, .long lo), (4, .long (rw (11 * a + u))), (6, .long (-(rw (11 * b + u)))), (0, .ref m0), (1, .int (nI a)), (2, .int (nI b)), (3, .int (nI u))]) hx hb dX2_combine_171 hl (k := 2) rfl (nI_1 _) (by decide) rfl (fun ls hl => ?_)
          refine lv_goto (tgt := 40) hx hb dX2_combine_174 (by decide) ?_
          exact ih (j + 1) h2 l2 v9.1 v9.2 H _ ls (by omega) hhl2 (by rw [hw, hG, hw9]; rfl) hP hK hD hS (lv_sub hl [0, 3, 4, 5, 6, 7, 8] rfl)
        refine lv_aload_n hx hb dX2_combine_81 rfl (lv_at hl 3 rfl) ?_
        refine va_get (D := (dC, dI)) (ci := 2) (v := .ref aH) (C := RX2) (T := TX2) (N := 19) hx hb hts (fun _ h => List.mem_cons_of_mem _ (List.mem_append_right _ h)) hown hK hP 0 rfl rfl 12 (by decide) (hts (.fieldLink RX2 30 "RankFinderModel" "highs" "[J") (List.mem_of_getElem? (i := 4) rfl)) (fun _ h9 => h9) rfl dX2_combine_82 ?_
        refine lv_iload hx hb dX2_combine_85 (lv_at hl 0 rfl) ?_
        refine na_lald hx hb hK hP 6 1 rfl rfl (show j < 11 by omega) (by decide) dX2_combine_87 ?_
        refine lv_lconst (v := 0) hx hb dX2_combine_88 (by decide) ?_
        refine W.lcmp hx hb dX2_combine_89 ?_
        refine lv_if_ge (tgt := 97) hx hb dX2_combine_90 (by decide) (fun c4 => ?_) (fun c4 => ?_)
        · rw [lg_cmp_ge] at c4
          refine lv_iconst (v := nI 0) hx hb dX2_combine_97 (by decide) ?_
          refine lv_istore (lv' := [(9, .int (nI 0)), (8, .int (nI j)), (4, .long (rw (11 * a + u))), (6, .long (-(rw (11 * b + u)))), (0, .ref m0), (1, .int (nI a)), (2, .int (nI b)), (3, .int (nI u))]) hx hb dX2_combine_98 hl (by decide) rfl (fun ls hl => ?_)
          refine lv_iload hx hb dX2_combine_100 (lv_at hl 0 rfl) ?_
          refine lv_if_eq (tgt := 116) hx hb dX2_combine_102 (by decide) (fun _ => ?_) (fun c => absurd rfl c)
          refine lv_aload_n hx hb dX2_combine_116 rfl (lv_at hl 4 rfl) ?_
          refine va_get (D := (dC, dI)) (ci := 2) (v := .ref aL) (C := RX2) (T := TX2) (N := 19) hx hb hts (fun _ h => List.mem_cons_of_mem _ (List.mem_append_right _ h)) hown hK hP 0 rfl rfl 13 (by decide) (hts (.fieldLink RX2 33 "RankFinderModel" "lows" "[J") (List.mem_of_getElem? (i := 5) rfl)) (fun _ h9 => h9) rfl dX2_combine_117 ?_
          refine lv_iload hx hb dX2_combine_120 (lv_at hl 1 rfl) ?_
          refine na_lald hx hb hK hP 7 1 rfl rfl (show j < 11 by omega) (by decide) dX2_combine_122 ?_
          refine lv_lstore (lv' := [(10, .long (l2 j)), (9, .int (nI 0)), (8, .int (nI j)), (4, .long (rw (11 * a + u))), (6, .long (-(rw (11 * b + u)))), (0, .ref m0), (1, .int (nI a)), (2, .int (nI b)), (3, .int (nI u))]) hx hb dX2_combine_123 hl (by decide) rfl (fun ls hl => ?_)
          refine lv_iload hx hb dX2_combine_125 (lv_at hl 1 rfl) ?_
          refine lv_if_ne (tgt := 140) hx hb dX2_combine_127 (by decide) (fun c => absurd rfl c) (fun _ => ?_)
          refine lv_aload_n hx hb dX2_combine_130 rfl (lv_at hl 5 rfl) ?_
          refine va_get (D := (dC, dI)) (ci := 2) (v := .ref aH) (C := RX2) (T := TX2) (N := 19) hx hb hts (fun _ h => List.mem_cons_of_mem _ (List.mem_append_right _ h)) hown hK hP 0 rfl rfl 12 (by decide) (hts (.fieldLink RX2 30 "RankFinderModel" "highs" "[J") (List.mem_of_getElem? (i := 4) rfl)) (fun _ h9 => h9) rfl dX2_combine_131 ?_
          refine lv_iload hx hb dX2_combine_134 (lv_at hl 2 rfl) ?_
          refine na_lald hx hb hK hP 6 1 rfl rfl (show j < 11 by omega) (by decide) dX2_combine_136 ?_
          refine lv_goto (tgt := 161) hx hb dX2_combine_137 (by decide) ?_
          refine lv_lstore (lv' := [(12, .long (h2 j)), (10, .long (l2 j)), (9, .int (nI 0)), (8, .int (nI j)), (4, .long (rw (11 * a + u))), (6, .long (-(rw (11 * b + u)))), (0, .ref m0), (1, .int (nI a)), (2, .int (nI b)), (3, .int (nI u))]) hx hb dX2_combine_161 hl (by decide) rfl (fun ls hl => ?_)
          obtain ⟨s1, s2⟩ := sg_pos he c4
          exact aft1 _ _ ls s1 (lv_sub hl [0, 1, 3, 4, 5, 6, 7, 8, 9] rfl)
        · rw [lg_cmp_ge] at c4
          refine lv_iconst (v := nI 1) hx hb dX2_combine_93 (by decide) ?_
          refine lv_goto (tgt := 98) hx hb dX2_combine_94 (by decide) ?_
          refine lv_istore (lv' := [(9, .int (nI 1)), (8, .int (nI j)), (4, .long (rw (11 * a + u))), (6, .long (-(rw (11 * b + u)))), (0, .ref m0), (1, .int (nI a)), (2, .int (nI b)), (3, .int (nI u))]) hx hb dX2_combine_98 hl (by decide) rfl (fun ls hl => ?_)
          refine lv_iload hx hb dX2_combine_100 (lv_at hl 0 rfl) ?_
          refine lv_if_eq (tgt := 116) hx hb dX2_combine_102 (by decide) (fun c => absurd c (by decide)) (fun _ => ?_)
          refine lv_aload_n hx hb dX2_combine_105 rfl (lv_at hl 4 rfl) ?_
          refine va_get (D := (dC, dI)) (ci := 2) (v := .ref aL) (C := RX2) (T := TX2) (N := 19) hx hb hts (fun _ h => List.mem_cons_of_mem _ (List.mem_append_right _ h)) hown hK hP 0 rfl rfl 13 (by decide) (hts (.fieldLink RX2 33 "RankFinderModel" "lows" "[J") (List.mem_of_getElem? (i := 5) rfl)) (fun _ h9 => h9) rfl dX2_combine_106 ?_
          refine lv_iload hx hb dX2_combine_109 (lv_at hl 1 rfl) ?_
          refine na_lald hx hb hK hP 7 1 rfl rfl (show j < 11 by omega) (by decide) dX2_combine_111 ?_
          refine lv_lneg hx hb dX2_combine_112 ?_
          refine lv_goto (tgt := 123) hx hb dX2_combine_113 (by decide) ?_
          refine lv_lstore (lv' := [(10, .long (-(l2 j))), (9, .int (nI 1)), (8, .int (nI j)), (4, .long (rw (11 * a + u))), (6, .long (-(rw (11 * b + u)))), (0, .ref m0), (1, .int (nI a)), (2, .int (nI b)), (3, .int (nI u))]) hx hb dX2_combine_123 hl (by decide) rfl (fun ls hl => ?_)
          refine lv_iload hx hb dX2_combine_125 (lv_at hl 1 rfl) ?_
          refine lv_if_ne (tgt := 140) hx hb dX2_combine_127 (by decide) (fun _ => ?_) (fun c => absurd c (by decide))
          refine lv_aload_n hx hb dX2_combine_140 rfl (lv_at hl 5 rfl) ?_
          refine va_get (D := (dC, dI)) (ci := 2) (v := .ref aH) (C := RX2) (T := TX2) (N := 19) hx hb hts (fun _ h => List.mem_cons_of_mem _ (List.mem_append_right _ h)) hown hK hP 0 rfl rfl 12 (by decide) (hts (.fieldLink RX2 30 "RankFinderModel" "highs" "[J") (List.mem_of_getElem? (i := 4) rfl)) (fun _ h9 => h9) rfl dX2_combine_141 ?_
          refine lv_iload hx hb dX2_combine_144 (lv_at hl 2 rfl) ?_
          refine na_lald hx hb hK hP 6 1 rfl rfl (show j < 11 by omega) (by decide) dX2_combine_146 ?_
          refine lv_lneg hx hb dX2_combine_147 ?_
          refine lv_lload hx hb dX2_combine_148 (lv_at hl 0 rfl) ?_
          refine lv_lconst (v := 0) hx hb dX2_combine_150 (by decide) ?_
          refine W.lcmp hx hb dX2_combine_151 ?_
          refine lv_if_eq (tgt := 159) hx hb dX2_combine_152 (by decide) (fun c5 => ?_) (fun c5 => ?_)
          · rw [lg_cmp_eq] at c5
            refine lv_lconst (v := 0) hx hb dX2_combine_159 (by decide) ?_
            refine lv_lsub hx hb dX2_combine_160 ?_
            refine lv_lstore (lv' := [(12, .long ((-(h2 j)) - 0)), (10, .long (-(l2 j))), (9, .int (nI 1)), (8, .int (nI j)), (4, .long (rw (11 * a + u))), (6, .long (-(rw (11 * b + u)))), (0, .ref m0), (1, .int (nI a)), (2, .int (nI b)), (3, .int (nI u))]) hx hb dX2_combine_161 hl (by decide) rfl (fun ls hl => ?_)
            obtain ⟨s1, s2⟩ := sg_neg (b := 0) he (Int64.not_le.mp c4) (by rw [if_pos c5])
            exact aft1 _ _ ls s1 (lv_sub hl [0, 1, 3, 4, 5, 6, 7, 8, 9] rfl)
          · rw [lg_cmp_eq] at c5
            refine lv_lconst (v := 1) hx hb dX2_combine_155 (by decide) ?_
            refine lv_goto (tgt := 160) hx hb dX2_combine_156 (by decide) ?_
            refine lv_lsub hx hb dX2_combine_160 ?_
            refine lv_lstore (lv' := [(12, .long ((-(h2 j)) - 1)), (10, .long (-(l2 j))), (9, .int (nI 1)), (8, .int (nI j)), (4, .long (rw (11 * a + u))), (6, .long (-(rw (11 * b + u)))), (0, .ref m0), (1, .int (nI a)), (2, .int (nI b)), (3, .int (nI u))]) hx hb dX2_combine_161 hl (by decide) rfl (fun ls hl => ?_)
            obtain ⟨s1, s2⟩ := sg_neg (b := 1) he (Int64.not_le.mp c4) (by rw [if_neg c5])
            exact aft1 _ _ ls s1 (lv_sub hl [0, 1, 3, 4, 5, 6, 7, 8, 9] rfl)
  refine lv_aload_n hx hb dX2_combine_0 rfl (lv_at hl 0 rfl) ?_
  refine va_get (D := (dC, dI)) (ci := 2) (v := .ref aR) (C := RX2) (T := TX2) (N := 19) hx hb hts (fun _ h => List.mem_cons_of_mem _ (List.mem_append_right _ h)) hown hK hP 0 rfl rfl 6 (by decide) (hts (.fieldLink RX2 17 "RankFinderModel" "rows" "[J") (List.mem_of_getElem? (i := 1) rfl)) (fun _ h9 => h9) rfl dX2_combine_1 ?_
  refine lv_bipush (v := nI 11) hx hb dX2_combine_4 (by decide) ?_
  refine lv_iload_n hx hb dX2_combine_6 rfl (lv_at hl 1 rfl) ?_
  refine lv_imul hx hb dX2_combine_7 ?_
  refine lv_topi (fun z_1 ez_1 => ?_)
  obtain rfl : z_1 = nI (11 * a) := ez_1.trans (pk_mul 11 a)
  refine lv_iload_n hx hb dX2_combine_8 rfl (lv_at hl 3 rfl) ?_
  refine lv_iadd hx hb dX2_combine_9 ?_
  refine lv_topi (fun z_2 ez_2 => ?_)
  obtain rfl : z_2 = nI ((11 * a) + u) := ez_2.trans (nI_add (11 * a) u)
  refine na_lald hx hb hK hP 2 1 rfl rfl (show 11 * a + u < 13200 by omega) (by decide) dX2_combine_10 ?_
  refine lv_lstore (lv' := [(4, .long (rw ((11 * a) + u))), (0, .ref m0), (1, .int (nI a)), (2, .int (nI b)), (3, .int (nI u))]) hx hb dX2_combine_11 hl (by decide) rfl (fun ls hl => ?_)
  refine lv_aload_n hx hb dX2_combine_13 rfl (lv_at hl 1 rfl) ?_
  refine va_get (D := (dC, dI)) (ci := 2) (v := .ref aR) (C := RX2) (T := TX2) (N := 19) hx hb hts (fun _ h => List.mem_cons_of_mem _ (List.mem_append_right _ h)) hown hK hP 0 rfl rfl 6 (by decide) (hts (.fieldLink RX2 17 "RankFinderModel" "rows" "[J") (List.mem_of_getElem? (i := 1) rfl)) (fun _ h9 => h9) rfl dX2_combine_14 ?_
  refine lv_bipush (v := nI 11) hx hb dX2_combine_17 (by decide) ?_
  refine lv_iload_n hx hb dX2_combine_19 rfl (lv_at hl 3 rfl) ?_
  refine lv_imul hx hb dX2_combine_20 ?_
  refine lv_topi (fun z_3 ez_3 => ?_)
  obtain rfl : z_3 = nI (11 * b) := ez_3.trans (pk_mul 11 b)
  refine lv_iload_n hx hb dX2_combine_21 rfl (lv_at hl 4 rfl) ?_
  refine lv_iadd hx hb dX2_combine_22 ?_
  refine lv_topi (fun z_4 ez_4 => ?_)
  obtain rfl : z_4 = nI ((11 * b) + u) := ez_4.trans (nI_add (11 * b) u)
  refine na_lald hx hb hK hP 2 1 rfl rfl (show 11 * b + u < 13200 by omega) (by decide) dX2_combine_23 ?_
  refine lv_lneg hx hb dX2_combine_24 ?_
  refine lv_lstore (lv' := [(6, .long (-(rw ((11 * b) + u)))), (4, .long (rw ((11 * a) + u))), (0, .ref m0), (1, .int (nI a)), (2, .int (nI b)), (3, .int (nI u))]) hx hb dX2_combine_25 hl (by decide) rfl (fun ls hl => ?_)
  refine lv_aload_n hx hb dX2_combine_27 rfl (lv_at hl 2 rfl) ?_
  refine lv_lconst (v := 0) hx hb dX2_combine_28 (by decide) ?_
  refine va_put (D := (dC, dI)) (ci := 2) (v := .long 0) (ty := .long) (C := RX2) (T := TX2) (N := 19) hx hb hts (fun _ h => List.mem_cons_of_mem _ (List.mem_append_right _ h)) tyX2 tyX2_ok nmX2 hown hK hP hD hS 0 rfl rfl 14 (by decide) (hts (.fieldLink RX2 65 "RankFinderModel" "divisorHigh" "J") (List.mem_of_getElem? (i := 2) rfl)) (fun _ h9 => h9) rfl (by decide +kernel) rfl rfl (Nat.le_of_ble_eq_true rfl) dX2_combine_29 (fun H locs hP hD hS => ?_)
  have hP : va_P (dC, dI) vwCl (mdW m0 aN aR aX aO aP aH aL aW cI cJ vn ct nm tp bt an rw nx og no rc nc hgh lws 0 dl fT fB wd) H := hP
  have hD : va_D A (mdW m0 aN aR aX aO aP aH aL aW cI cJ vn ct nm tp bt an rw nx og no rc nc hgh lws 0 dl fT fB wd) := hD
  refine lv_aload_n hx hb dX2_combine_32 rfl (lv_at hl 2 rfl) ?_
  refine lv_lconst (v := 0) hx hb dX2_combine_33 (by decide) ?_
  refine va_put (D := (dC, dI)) (ci := 2) (v := .long 0) (ty := .long) (C := RX2) (T := TX2) (N := 19) hx hb hts (fun _ h => List.mem_cons_of_mem _ (List.mem_append_right _ h)) tyX2 tyX2_ok nmX2 hown hK hP hD hS 0 rfl rfl 15 (by decide) (hts (.fieldLink RX2 69 "RankFinderModel" "divisorLow" "J") (List.mem_of_getElem? (i := 3) rfl)) (fun _ h9 => h9) rfl (by decide +kernel) rfl rfl (Nat.le_of_ble_eq_true rfl) dX2_combine_34 (fun H locs hP hD hS => ?_)
  have hP : va_P (dC, dI) vwCl (mdW m0 aN aR aX aO aP aH aL aW cI cJ vn ct nm tp bt an rw nx og no rc nc hgh lws 0 0 fT fB wd) H := hP
  have hD : va_D A (mdW m0 aN aR aX aO aP aH aL aW cI cJ vn ct nm tp bt an rw nx og no rc nc hgh lws 0 0 fT fB wd) := hD
  refine lv_iconst (v := nI 0) hx hb dX2_combine_37 (by decide) ?_
  refine lv_istore (lv' := [(8, .int (nI 0)), (6, .long (-(rw ((11 * b) + u)))), (4, .long (rw ((11 * a) + u))), (0, .ref m0), (1, .int (nI a)), (2, .int (nI b)), (3, .int (nI u))]) hx hb dX2_combine_38 hl (by decide) rfl (fun ls hl => ?_)
  exact loop1 11 0 hgh lws 0 0 H _ ls (by omega) (fun i hi => by omega) rfl hP hK hD hS (lv_sub hl [0, 2, 1, 3, 4, 5, 6] rfl)
