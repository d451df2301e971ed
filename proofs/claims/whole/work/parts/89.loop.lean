/-! ===== the law's loop and its start ===== -/
theorem sw_in {x : Int32} (h0 : 0 ≤ x.toInt) (h : x.toInt ≤ 11) : x = 0 ∨ x = 1 ∨ x = 2 ∨ x = 3 ∨ x = 4 ∨ x = 5 ∨ x = 6 ∨ x = 7 ∨ x = 8 ∨ x = 9 ∨ x = 10 ∨ x = 11 := by
  have e : Int32.ofInt x.toInt = x := Int32.ofInt_toInt x
  rcases (by omega : x.toInt = 0 ∨ x.toInt = 1 ∨ x.toInt = 2 ∨ x.toInt = 3 ∨ x.toInt = 4 ∨ x.toInt = 5 ∨ x.toInt = 6 ∨ x.toInt = 7 ∨ x.toInt = 8 ∨ x.toInt = 9 ∨ x.toInt = 10 ∨ x.toInt = 11) with q | q | q | q | q | q | q | q | q | q | q | q <;> rw [q] at e <;> clear h0 h q <;> subst e <;> decide
theorem lw_head {i L : Nat} (hi : i ≤ L) (hL : L ≤ 4096) (h : ¬ Int32.ofNat L - nI 8 < nI i) : i + 8 ≤ L := by
  have e : (Int32.ofNat L - nI 8).toInt = (L : Int) - (8 : Nat) := pk_sub_toInt (a := L) (b := 8) (by omega) (by omega)
  rw [Int32.lt_iff_toInt_lt, e, nI_toInt (by omega)] at h
  omega
set_option maxHeartbeats 2000000 in
set_option maxRecDepth 100000 in
/-- the law from its head: i ints of the script are read -/
theorem law_loop {p : Program} {l : Launch} {e : Env} {s : State} {m : MethodId} {below : List Frame} {meth : Method} {c : Code} {dC : Nat → ClassId} {dI : Nat → Nat → Nat} {b L : Nat} {xs : Nat → Int32} (hL : L ≤ 4096) (C0 : lw_At p s m meth c b L xs) {p0 m0 : Nat} : ∀ (n i : Nat) (H : Heap) (locs : List Loc) (ls : Array Slot), i ≤ L → L + 1 ≤ i + n → Lw dC dI s p0 m0 H → va_S (fun q : Nat => s.heap.size ≤ q) s.heap H locs → lv_has ls 4 [(0, .ref b), (1, .ref p0), (2, .ref m0), (3, .int (nI i))] → W p l e room_1 s m #[Value.ref b] below meth c H locs 33 29176 (lw_Z below #[Value.ref b] s) (F0 m 18 ls []) := by
  have C1 := C0
  obtain ⟨hx, hb, hr, hml, hown, hts0, hX, hbl, hlocks, hgv⟩ := C0
  have hts : ∀ w ∈ wsL_law, w.before #[Value.ref b] s = true := fun w h => hts0 w (wsL_law_in w h)
  clear hts0 hgv
  have hown : s.vm.findClass RL = some m.cls := hown
  have hb : c.code = cL_law := hb
  have hA : ∀ q : Nat, s.heap.size ≤ q → (fun q : Nat => s.heap.size ≤ q) q := fun _ h => h
  have hbA : ¬ (fun q : Nat => s.heap.size ≤ q) b := Nat.not_le.mpr hbl
  intro n
  induction n with
  | zero =>
    intro i H locs ls h1 h2
    exact absurd h2 (by omega)
  | succ n ih =>
    intro i H locs ls hi hin hI hS hl
    refine lv_iload_n hx hb dL_law_18 rfl (lv_at hl 3 rfl) ?_
    refine lv_aload_n hx hb dL_law_19 rfl (lv_at hl 0 rfl) ?_
    refine va_slen hx hb hX hbl hbA hS dL_law_20 ?_
    refine lv_bipush (v := nI 8) hx hb dL_law_21 (by decide) ?_
    refine lv_isub hx hb dL_law_23 ?_
    refine lv_icmp_gt (tgt := 538) hx hb dL_law_24 (by decide) (fun c9 => ?_) (fun c9 => ?_)
    · refine lv_iconst (v := nI 1) hx hb dL_law_538 (by decide) ?_
      refine va_forget (fun q hq => hS.2.2 q hq) ?_
      refine W.widen (k := 600000) (n := 7302250) (Nat.le_of_ble_eq_true rfl) (Nat.le_of_ble_eq_true rfl) ?_
      exact lw_ret hx hb hr hlocks dL_law_539
    · have h8 : i + 8 ≤ L := lw_head hi hL c9
      have nx9 : ∀ (H : Heap) (locs : List Loc) (ls : Array Slot), Lw dC dI s p0 m0 H → va_S (fun q : Nat => s.heap.size ≤ q) s.heap H locs → lv_has ls 4 [(0, .ref b), (1, .ref p0), (2, .ref m0), (3, .int (nI i))] → W p l e room_1 s m #[Value.ref b] below meth c H locs 33 29176 (lw_Z below #[Value.ref b] s) (F0 m 532 ls []) := by
        intro H locs ls hI hS hl
        refine lv_iinc (v := nI (i + 8)) (lv' := [(3, .int (nI (i + 8))), (0, .ref b), (1, .ref p0), (2, .ref m0)]) hx hb dL_law_532 hl (k := 3) rfl (by rw [show Int32.ofInt 8 = nI 8 from rfl, nI_add]) (by decide) rfl (fun ls hl => ?_)
        refine lv_goto (tgt := 18) hx hb dL_law_535 (by decide) ?_
        exact ih (i + 8) H locs ls h8 (by omega) hI hS (lv_sub hl [1, 2, 3, 0] rfl)
      refine lv_aload_n hx hb dL_law_27 rfl (lv_at hl 0 rfl) ?_
      refine lv_iload_n hx hb dL_law_28 rfl (lv_at hl 3 rfl) ?_
      refine va_sld hx hb hX hbl hbA hS (vp_in_nI (show i < L by omega) (by omega)) dL_law_29 ?_
      refine lv_topi (fun z_1 ez_1 => ?_)
      obtain rfl : z_1 = xs (i) := ez_1.trans (by rw [nI_clamp (by omega)])
      refine lv_bipush (v := nI 15) hx hb dL_law_30 (by decide) ?_
      refine lv_iand hx hb dL_law_32 ?_
      refine lv_topi (fun z_2 ez_2 => ?_)
      clear ez_2
      by_cases h9 : 0 ≤ z_2.toInt ∧ z_2.toInt ≤ 11
      · rcases sw_in h9.1 h9.2 with rfl | rfl | rfl | rfl | rfl | rfl | rfl | rfl | rfl | rfl | rfl | rfl
        · refine lv_tableIn (off := 63) (tgt := 96) hx hb dL_law_33 (by decide) (by decide) (by decide) (by decide) ?_
          exact law_begin hL C1 h8 nx9 H _ ls hI hS hl
        · refine lv_tableIn (off := 86) (tgt := 119) hx hb dL_law_33 (by decide) (by decide) (by decide) (by decide) ?_
          exact law_rule hL C1 h8 nx9 H _ ls hI hS hl
        · refine lv_tableIn (off := 173) (tgt := 206) hx hb dL_law_33 (by decide) (by decide) (by decide) (by decide) ?_
          exact law_drop hL C1 h8 nx9 H _ ls hI hS hl
        · refine lv_tableIn (off := 196) (tgt := 229) hx hb dL_law_33 (by decide) (by decide) (by decide) (by decide) ?_
          exact law_rules hL C1 h8 nx9 H _ ls hI hS hl
        · refine lv_tableIn (off := 209) (tgt := 242) hx hb dL_law_33 (by decide) (by decide) (by decide) (by decide) ?_
          exact law_number hL C1 h8 nx9 H _ ls hI hS hl
        · refine lv_tableIn (off := 242) (tgt := 275) hx hb dL_law_33 (by decide) (by decide) (by decide) (by decide) ?_
          exact law_keeps hL C1 h8 nx9 H _ ls hI hS hl
        · refine lv_tableIn (off := 317) (tgt := 350) hx hb dL_law_33 (by decide) (by decide) (by decide) (by decide) ?_
          exact law_hasTurn hL C1 h8 nx9 H _ ls hI hS hl
        · refine lv_tableIn (off := 330) (tgt := 363) hx hb dL_law_33 (by decide) (by decide) (by decide) (by decide) ?_
          exact law_ranked hL C1 h8 nx9 H _ ls hI hS hl
        · refine lv_tableIn (off := 343) (tgt := 376) hx hb dL_law_33 (by decide) (by decide) (by decide) (by decide) ?_
          exact law_ranks hL C1 h8 nx9 H _ ls hI hS hl
        · refine lv_tableIn (off := 396) (tgt := 429) hx hb dL_law_33 (by decide) (by decide) (by decide) (by decide) ?_
          exact law_least hL C1 h8 nx9 H _ ls hI hS hl
        · refine lv_tableIn (off := 471) (tgt := 504) hx hb dL_law_33 (by decide) (by decide) (by decide) (by decide) ?_
          exact law_top hL C1 h8 nx9 H _ ls hI hS hl
        · refine lv_tableIn (off := 485) (tgt := 518) hx hb dL_law_33 (by decide) (by decide) (by decide) (by decide) ?_
          exact law_bottom hL C1 h8 nx9 H _ ls hI hS hl
      · refine lv_tableOut (tgt := 532) hx hb dL_law_33 (by omega) (by decide) ?_
        exact nx9 H _ ls hI hS hl
set_option maxHeartbeats 2000000 in
set_option maxRecDepth 100000 in
/-- THE LAW, from its entry -/
theorem whole_start {p : Program} {e : Env} {s : State} {m : MethodId} {below : List Frame} {meth : Method} {c : Code} (l : Launch) {b L : Nat} {xs : Nat → Int32} (hL : L ≤ 4096) (C0 : lw_At p s m meth c b L xs) : W p l e room_1 s m #[Value.ref b] below meth c s.heap [] 0 0 (lw_Z below #[Value.ref b] s) (entryFrame m ([Value.ref b] : List Value).toArray 4) := by
  have C1 := C0
  obtain ⟨hx, hb, hr, hml, hown, hts0, hX, hbl, hlocks, hgv⟩ := C0
  have hts : ∀ w ∈ wsL_law, w.before #[Value.ref b] s = true := fun w h => hts0 w (wsL_law_in w h)
  have hown : s.vm.findClass RL = some m.cls := hown
  have hb : c.code = cL_law := hb
  have hA : ∀ q : Nat, s.heap.size ≤ q → (fun q : Nat => s.heap.size ≤ q) q := fun _ h => h
  have hbA : ¬ (fun q : Nat => s.heap.size ≤ q) b := Nat.not_le.mpr hbl
  obtain ⟨c0, iS0, hKn0⟩ := u_known (C := RX0) (T := TX0) (N := 7) (n := 7) hts0 inBX0 (hts0 (.instantiable RX0 7) (List.mem_of_getElem? (i := 50) rfl))
  obtain ⟨c1, iS1, hKn1⟩ := u_known (C := RX1) (T := TX1) (N := 7) (n := 7) hts0 inBX1 (hts0 (.instantiable RX1 7) (List.mem_of_getElem? (i := 40) rfl))
  obtain ⟨c2, iS2, hKn2⟩ := u_known (C := RX2) (T := TX2) (N := 19) (n := 19) hts0 inBX2 (hts0 (.instantiable RX2 19) (List.mem_of_getElem? (i := 300) rfl))
  obtain ⟨dC, dI, hKc⟩ : ∃ (dC : Nat → ClassId) (dI : Nat → Nat → Nat), ∀ (k : Nat) (q : vw_C), vwCl[k]? = some q → u_Kn s q.1 q.2.1 q.2.2 (dC k) (dI k) := by
    refine ⟨fun k => if k = 0 then c0 else if k = 1 then c1 else c2, fun k => if k = 0 then iS0 else if k = 1 then iS1 else iS2, ?_⟩
    intro k q hq
    match k, hq with
    | 0, hq => cases hq; exact hKn0
    | 1, hq => cases hq; exact hKn1
    | 2, hq => cases hq; exact hKn2
    | k + 3, hq => simp [vwCl] at hq
  have hOint : va_AOA .int s := va_AOA.of (hts0 (.arrayOver (.array .int)) (List.mem_of_getElem? (i := 48) rfl))
  have hOlong : va_AOA .long s := va_AOA.of (hts0 (.arrayOver (.array .long)) (List.mem_of_getElem? (i := 56) rfl))
  have hS : va_S (fun q : Nat => s.heap.size ≤ q) s.heap s.heap [] := va_S.rf
  have hK : va_K (dC, dI) vwCl [] s := ⟨hKc, fun k q h => by simp at h⟩
  have hP : va_P (dC, dI) vwCl [] s.heap := fun k q h => by simp at h
  have hD : va_D (fun q : Nat => s.heap.size ≤ q) [] := ⟨fun i j p q h => by simp at h, fun k q h => by simp at h⟩
  have hl := lv_entry ([.ref b]) (n := 4) (Nat.le_of_ble_eq_true rfl)
  rw [lg_entry_eq]
  generalize (lg_sl ([.ref b]) ++ List.replicate (4 - (lg_sl ([.ref b])).length) Slot.unset).toArray = ls at hl ⊢
  have hl : lv_has ls 4 [(0, .ref b)] := hl
  refine va_new (ci := 1) (fs := [.null, .null, .null, .int 0, .int 0, .long 0, .long 0]) (C := RX1) (T := TX1) (N := 7) hx hb hts0 inBX1 tyX1 tyX1_ok hown (hts0 (.classLink RL 7 RX1) (List.mem_of_getElem? (i := 39) rfl)) (hts0 (.instantiable RX1 7) (List.mem_of_getElem? (i := 40) rfl)) (hts0 (.initialized RX1) (List.mem_of_getElem? (i := 32) rfl)) hK hP hD hS hA rfl (fun j hj => by rcases (show j = 0 ∨ j = 1 ∨ j = 2 ∨ j = 3 ∨ j = 4 ∨ j = 5 ∨ j = 6 by omega) with rfl | rfl | rfl | rfl | rfl | rfl | rfl <;> rfl) (Nat.le_of_ble_eq_true rfl) (Nat.le_of_ble_eq_true rfl) dL_law_0 (fun p0 H hP hD hS => ?_)
  refine lv_dup hx hb dL_law_3 rfl ?_
  have hPc : va_P (dC, dI) vwCl [(p0, .inr (1, [.null, .null, .null, .int 0, .int 0, .long 0, .long 0]))] H := hP
  have hDc : va_D (fun _ => True) [(p0, .inr (1, [.null, .null, .null, .int 0, .int 0, .long 0, .long 0]))] := va_Dr (X := []) hD
  have hKc := hK.sub (tys' := []) [] rfl
  have hFc : ∀ q, va_A [(p0, .inr (1, [.null, .null, .null, .int 0, .int 0, .long 0, .long 0]))] H.size q → (fun q : Nat => s.heap.size ≤ q) q := va_Ar (X := []) hD hS hA
  refine va_callv (va_runI (As := []) (rest := [.ref p0]) ⟨hx, hb, hml, hown, hts⟩ (c_X1_init l dC dI H.size p0) (cwI 0 hts gL_law_X1_init rfl rfl rfl (hts0 (.initialized RX1) (List.mem_of_getElem? (i := 32) rfl)) (hts0 (.methodLink RL 9 yX1_init) (List.mem_of_getElem? (i := 41) rfl)) (hts0 (.instanceMethod yX1_init) (List.mem_of_getElem? (i := 42) rfl)) rfl (by decide +kernel) ⟨Nat.le_of_ble_eq_true rfl, Nat.le_of_ble_eq_true rfl⟩) ⟨fun a U g mk q => by obtain ⟨q0, q1, qP, qK, qD⟩ := q; exact ⟨q0, q1, qP, va_K.moved (u := U) (U := U.calling g mk a) (Vm.Alike.refl U.vm) qK, qD.1, va_AOA.moved (u := U) (U := U.calling g mk a) (Vm.Alike.refl U.vm) qD.2.1, va_AOA.moved (u := U) (U := U.calling g mk a) (Vm.Alike.refl U.vm) qD.2.2⟩, fun U hU hW => ⟨rfl, by rw [hU], by rw [hU]; exact hPc, va_K.moved hW.alike hKc, hDc, va_AOA.moved hW.alike hOint, va_AOA.moved hW.alike hOlong⟩⟩ rfl rfl hl.1 rfl (lv_room (Nat.le_of_ble_eq_true rfl)) dL_law_4 ⟨Nat.le_of_ble_eq_true rfl, Nat.le_of_ble_eq_true rfl⟩) hS (fun q _ h => hFc q h) hFc (fun v9 t H1 locs ht hvm hw hB hz1 hk1 hS => ?_)
  obtain ⟨⟨qt, qg, h0, rt, cB, cI⟩, qc, qh, r, cA, cI9, cJ⟩ := v9
  obtain ⟨hP1, hK1, hD1⟩ := hB
  rw [ht] at hP1
  have hK := hK.app (va_K.moved hvm.symm hK1)
  have hP := hP1
  have hD := hD1.weaken (B := (fun q : Nat => s.heap.size ≤ q)) (fun _ q _ h => hFc q.1 h)
  clear hPc hKc hP1 hD1 hK1 hFc hk1 hz1 ht hvm hDc
  generalize H1 = H at hP hS ⊢
  have hP : va_P (dC, dI) vwCl (rfX p0 qt qg h0 rt cB cI 1 0 0 0 (fun _ => 0) (fun _ _ => 0) ++ wgW h0 qc qh r cA cI cJ 0 0 1 0 1 (fun _ => 0) (fun _ _ => 0)) H := hP
  have hD : va_D (fun q : Nat => s.heap.size ≤ q) (rfX p0 qt qg h0 rt cB cI 1 0 0 0 (fun _ => 0) (fun _ _ => 0) ++ wgW h0 qc qh r cA cI cJ 0 0 1 0 1 (fun _ => 0) (fun _ _ => 0)) := hD
  refine lv_astore_n (lv' := [(1, .ref p0), (0, .ref b)]) hx hb dL_law_7 rfl hl (by decide) rfl (fun ls hl => ?_)
  refine va_new (ci := 2) (fs := [.int 0, .int 0, .null, .long 0, .long 0, .int 0, .null, .null, .null, .null, .int 0, .int 0, .null, .null, .long 0, .long 0, .long 0, .long 0, .null]) (C := RX2) (T := TX2) (N := 19) hx hb hts0 inBX2 tyX2 tyX2_ok hown (hts0 (.classLink RL 10 RX2) (List.mem_of_getElem? (i := 299) rfl)) (hts0 (.instantiable RX2 19) (List.mem_of_getElem? (i := 300) rfl)) (hts0 (.initialized RX2) (List.mem_of_getElem? (i := 34) rfl)) hK hP hD hS hA rfl (fun j hj => by rcases (show j = 0 ∨ j = 1 ∨ j = 2 ∨ j = 3 ∨ j = 4 ∨ j = 5 ∨ j = 6 ∨ j = 7 ∨ j = 8 ∨ j = 9 ∨ j = 10 ∨ j = 11 ∨ j = 12 ∨ j = 13 ∨ j = 14 ∨ j = 15 ∨ j = 16 ∨ j = 17 ∨ j = 18 by omega) with rfl | rfl | rfl | rfl | rfl | rfl | rfl | rfl | rfl | rfl | rfl | rfl | rfl | rfl | rfl | rfl | rfl | rfl | rfl <;> rfl) (Nat.le_of_ble_eq_true rfl) (Nat.le_of_ble_eq_true rfl) dL_law_8 (fun m0 H hP hD hS => ?_)
  refine lv_dup hx hb dL_law_11 rfl ?_
  have hPc : va_P (dC, dI) vwCl [(m0, .inr (2, [.int 0, .int 0, .null, .long 0, .long 0, .int 0, .null, .null, .null, .null, .int 0, .int 0, .null, .null, .long 0, .long 0, .long 0, .long 0, .null]))] H := va_Pr hP
  have hDc : va_D (fun _ => True) [(m0, .inr (2, [.int 0, .int 0, .null, .long 0, .long 0, .int 0, .null, .null, .null, .null, .int 0, .int 0, .null, .null, .long 0, .long 0, .long 0, .long 0, .null]))] := va_Dr hD
  have hKc := hK.sub (tys' := []) [] rfl
  have hFc : ∀ q, va_A [(m0, .inr (2, [.int 0, .int 0, .null, .long 0, .long 0, .int 0, .null, .null, .null, .null, .int 0, .int 0, .null, .null, .long 0, .long 0, .long 0, .long 0, .null]))] H.size q → (fun q : Nat => s.heap.size ≤ q) q := va_Ar hD hS hA
  refine va_callv (va_runI (As := []) (rest := [.ref m0]) ⟨hx, hb, hml, hown, hts⟩ (c_X2_init l dC dI H.size m0) (cwI 0 hts gL_law_X2_init rfl rfl rfl (hts0 (.initialized RX2) (List.mem_of_getElem? (i := 34) rfl)) (hts0 (.methodLink RL 12 yX2_init) (List.mem_of_getElem? (i := 301) rfl)) (hts0 (.instanceMethod yX2_init) (List.mem_of_getElem? (i := 302) rfl)) rfl (by decide +kernel) ⟨Nat.le_of_ble_eq_true rfl, Nat.le_of_ble_eq_true rfl⟩) ⟨fun a U g mk q => by obtain ⟨q0, q1, qP, qK, qD⟩ := q; exact ⟨q0, q1, qP, va_K.moved (u := U) (U := U.calling g mk a) (Vm.Alike.refl U.vm) qK, qD⟩, fun U hU hW => ⟨rfl, by rw [hU], by rw [hU]; exact hPc, va_K.moved hW.alike hKc, hDc⟩⟩ rfl rfl hl.1 rfl (lv_room (Nat.le_of_ble_eq_true rfl)) dL_law_12 ⟨Nat.le_of_ble_eq_true rfl, Nat.le_of_ble_eq_true rfl⟩) hS (fun q _ h => hFc q h) hFc (fun v9 t H1 locs ht hvm hw hB hz1 hk1 hS => ?_)
  obtain ⟨aN, aR, aX, aO, aP, aH, aL, aW, cI2, cJ2⟩ := v9
  obtain ⟨hP1, hK1, hD1⟩ := hB
  rw [ht] at hP1
  have hK := hK.app (va_K.moved hvm.symm hK1)
  obtain ⟨hP, hD⟩ := jn_app hP hD hk1 hFc hP1 hD1
  clear hPc hKc hP1 hD1 hK1 hFc hk1 hz1 ht hvm hDc
  generalize H1 = H at hP hS ⊢
  refine lv_astore_n (lv' := [(2, .ref m0), (1, .ref p0), (0, .ref b)]) hx hb dL_law_15 rfl hl (by decide) rfl (fun ls hl => ?_)
  refine lv_iconst (v := nI 0) hx hb dL_law_16 (by decide) ?_
  refine lv_istore_n (lv' := [(3, .int (nI 0)), (2, .ref m0), (1, .ref p0), (0, .ref b)]) hx hb dL_law_17 rfl hl (by decide) rfl (fun ls hl => ?_)
  refine W.widen (k := 33) (n := 29176) (Nat.le_of_ble_eq_true rfl) (Nat.le_of_ble_eq_true rfl) ?_
  exact law_loop hL C1 (L + 1) 0 H _ ls (Nat.zero_le L) (by omega) ⟨1, 0, 0, 0, qt, qg, h0, rt, cB, cI, cA, cJ, qc, qh, r, (fun _ => 0), (fun _ _ => 0), 0, 0, 1, 0, 1, (fun _ => 0), (fun _ _ => 0), aN, aR, aX, aO, aP, aH, aL, aW, cI2, cJ2, (fun _ => 0), 0, (fun _ => 0), (fun _ => 0), (fun _ => 0), (fun _ => 0), 0, 0, (fun _ => 0), (fun _ => 0), 0, 0, 0, 0, (fun _ => 0), by omega, by omega, by omega, okN_0, lwR_0, hP, hK, hD⟩ hS (lv_sub hl [3, 2, 1, 0] rfl)
