/-! ===== the reference: its world; the small methods ===== -/
/-- the reference's cells -/
abbrev mdW (m0 aN aR aX aO aP aH aL aW : Nat) (cI cJ : ClassId) (vn ct : Nat) (nm : Nat → Int32) (tp bt : Int64) (an : Int32) (rw nx : Nat → Int64) (og no : Nat → Int32) (rc nc : Nat) (hgh lws : Nat → Int64) (dh dl fT fB : Int64) (wd : Nat → Int32) : va_W :=
  [(m0, .inr (2, [.int (nI vn), .int (nI ct), .ref aN, .long tp, .long bt, .int an, .ref aR, .ref aX, .ref aO, .ref aP, .int (nI rc), .int (nI nc), .ref aH, .ref aL, .long dh, .long dl, .long fT, .long fB, .ref aW])), (aN, .inl (cI, 56, .inl nm)), (aR, .inl (cJ, 13200, .inr (.inl rw))), (aX, .inl (cJ, 13200, .inr (.inl nx))), (aO, .inl (cI, 1200, .inl og)), (aP, .inl (cI, 1200, .inl no)), (aH, .inl (cJ, 11, .inr (.inl hgh))), (aL, .inl (cJ, 11, .inr (.inl lws))), (aW, .inl (cI, 6, .inl wd))]
set_option maxHeartbeats 1000000 in
set_option maxRecDepth 100000 in
/-- isSmall(a, y) -/
theorem c_X2_isSmall (l : Launch) (dC : Nat → ClassId) (dI : Nat → Nat → Nat) (sz : Nat) (a y : Int32) : Met l yX2_isSmall wsX2_isSmall ({ frames := 0, cells := 0, slots := 0, locals := 0 }) (va_Pc [.int a, .int y] (fun U => U.heap.size = sz ∧ va_P (dC, dI) vwCl ([] : va_W) U.heap ∧ va_K (dC, dI) vwCl [] U ∧ va_D (fun _ => True) ([] : va_W))) (va_Qi (fun (x : Int32) (v : Unit) => (x = 1 ∧ inR a y) ∨ (x = 0 ∧ ¬ inR a y)) (fun v t => va_P (dC, dI) vwCl ([] : va_W) t.heap ∧ va_K (dC, dI) vwCl [] t ∧ va_D (va_A ([] : va_W) sz) ([] : va_W)) (va_A ([] : va_W) sz)) 0 0 (va_A ([] : va_W) sz) := by
  refine Met.ofW (cc := cX2_isSmall) (maxL := 2) (ret := (some .boolean)) (by decide) rfl ?_
  intro p e s m args below meth c s₁ B hml hv
  obtain ⟨rfl, hsz, hP, hK, hD0⟩ := hv
  have hx := B.exec
  have hb := B.bytes
  have hr := B.returns
  have hts := atoms_spec (ws := wsX2_isSmall) B.pre
  have hown : s.vm.findClass RX2 = some m.cls := findClass_of_methodNamed B.named
  subst hsz
  have hD := hD0.self (sz := s.heap.size)
  clear hD0
  generalize hAe : va_A ([] : va_W) s.heap.size = A at hD ⊢
  have hA : ∀ q : Nat, s.heap.size ≤ q → A q := fun q h => by rw [← hAe]; exact Or.inr h
  have hl := lv_entry ([.int a, .int y]) (n := 2) (Nat.le_of_ble_eq_true rfl)
  rw [lg_entry_eq]
  generalize (lg_sl ([.int a, .int y]) ++ List.replicate (2 - (lg_sl ([.int a, .int y])).length) Slot.unset).toArray = ls at hl ⊢
  have hl : lv_has ls 2 [(0, .int a), (1, .int y)] := hl
  have hP : va_P (dC, dI) vwCl ([] : va_W) s.heap := hP
  obtain ⟨H, hH⟩ : ∃ H, H = s.heap := ⟨_, rfl⟩
  have hS : va_S A s.heap H [] := by rw [hH]; exact va_S.rf
  rw [← hH] at hP ⊢
  refine lv_iload_n hx hb dX2_isSmall_0 rfl (lv_at hl 0 rfl) ?_
  refine lv_iload_n hx hb dX2_isSmall_1 rfl (lv_at hl 1 rfl) ?_
  refine lv_ineg hx hb dX2_isSmall_2 ?_
  refine lv_icmp_lt (tgt := 15) hx hb dX2_isSmall_3 (by decide) (fun c1 => ?_) (fun c1 => ?_)
  · refine lv_iconst (v := nI 0) hx hb dX2_isSmall_15 (by decide) ?_
    exact W.zret (v := (nI 0)) hx hb hr (by rfl) (fun t ht hW => ⟨⟨(nI 0), (), rfl, Or.inr ⟨rfl, fun q => q.1 c1⟩, by rw [ht]; exact hP, va_K.moved hW.alike hK, hD⟩, hS.F ht⟩) hS.2.2 dX2_isSmall_16
  · refine lv_iload_n hx hb dX2_isSmall_6 rfl (lv_at hl 0 rfl) ?_
    refine lv_iload_n hx hb dX2_isSmall_7 rfl (lv_at hl 1 rfl) ?_
    refine lv_icmp_gt (tgt := 15) hx hb dX2_isSmall_8 (by decide) (fun c2 => ?_) (fun c2 => ?_)
    · refine lv_iconst (v := nI 0) hx hb dX2_isSmall_15 (by decide) ?_
      exact W.zret (v := (nI 0)) hx hb hr (by rfl) (fun t ht hW => ⟨⟨(nI 0), (), rfl, Or.inr ⟨rfl, fun q => q.2 c2⟩, by rw [ht]; exact hP, va_K.moved hW.alike hK, hD⟩, hS.F ht⟩) hS.2.2 dX2_isSmall_16
    · refine lv_iconst (v := nI 1) hx hb dX2_isSmall_11 (by decide) ?_
      refine lv_goto (tgt := 16) hx hb dX2_isSmall_12 (by decide) ?_
      exact W.zret (v := (nI 1)) hx hb hr (by rfl) (fun t ht hW => ⟨⟨(nI 1), (), rfl, Or.inl ⟨rfl, c1, c2⟩, by rw [ht]; exact hP, va_K.moved hW.alike hK, hD⟩, hS.F ht⟩) hS.2.2 dX2_isSmall_16
theorem ult_iff {x y : Int64} : x + (-9223372036854775808) < y + (-9223372036854775808) ↔ uN x < uN y := by
  rw [Int64.lt_iff_toInt_lt]
  have key : ∀ x : Int64, (x + (-9223372036854775808)).toInt = (uN x : Int) - 9223372036854775808 := fun x => by
    refine cg_eq ((cg_addL _ _).tr ?_) (by omega) (by have := uN_lt x; omega)
    obtain ⟨k, h⟩ := cg_uN x
    rw [show (-9223372036854775808 : Int64).toInt = -9223372036854775808 from by decide]
    exact ⟨-k, by omega⟩
  rw [key, key]
  omega
set_option maxHeartbeats 1000000 in
set_option maxRecDepth 100000 in
/-- isBelow(a, b) -/
theorem c_X2_isBelow (l : Launch) (dC : Nat → ClassId) (dI : Nat → Nat → Nat) (sz : Nat) (a b : Int64) : Met l yX2_isBelow wsX2_isBelow ({ frames := 0, cells := 0, slots := 0, locals := 0 }) (va_Pc [.long a, .long b] (fun U => U.heap.size = sz ∧ va_P (dC, dI) vwCl ([] : va_W) U.heap ∧ va_K (dC, dI) vwCl [] U ∧ va_D (fun _ => True) ([] : va_W))) (va_Qi (fun (x : Int32) (v : Unit) => (x = 1 ∧ uN a < uN b) ∨ (x = 0 ∧ ¬ uN a < uN b)) (fun v t => va_P (dC, dI) vwCl ([] : va_W) t.heap ∧ va_K (dC, dI) vwCl [] t ∧ va_D (va_A ([] : va_W) sz) ([] : va_W)) (va_A ([] : va_W) sz)) 0 0 (va_A ([] : va_W) sz) := by
  refine Met.ofW (cc := cX2_isBelow) (maxL := 4) (ret := (some .boolean)) (by decide) rfl ?_
  intro p e s m args below meth c s₁ B hml hv
  obtain ⟨rfl, hsz, hP, hK, hD0⟩ := hv
  have hx := B.exec
  have hb := B.bytes
  have hr := B.returns
  have hts := atoms_spec (ws := wsX2_isBelow) B.pre
  have hown : s.vm.findClass RX2 = some m.cls := findClass_of_methodNamed B.named
  subst hsz
  have hD := hD0.self (sz := s.heap.size)
  clear hD0
  generalize hAe : va_A ([] : va_W) s.heap.size = A at hD ⊢
  have hA : ∀ q : Nat, s.heap.size ≤ q → A q := fun q h => by rw [← hAe]; exact Or.inr h
  have hl := lv_entry ([.long a, .long b]) (n := 4) (Nat.le_of_ble_eq_true rfl)
  rw [lg_entry_eq]
  generalize (lg_sl ([.long a, .long b]) ++ List.replicate (4 - (lg_sl ([.long a, .long b])).length) Slot.unset).toArray = ls at hl ⊢
  have hl : lv_has ls 4 [(0, .long a), (2, .long b)] := hl
  have hP : va_P (dC, dI) vwCl ([] : va_W) s.heap := hP
  obtain ⟨H, hH⟩ : ∃ H, H = s.heap := ⟨_, rfl⟩
  have hS : va_S A s.heap H [] := by rw [hH]; exact va_S.rf
  rw [← hH] at hP ⊢
  refine lv_lload_n hx hb dX2_isBelow_0 rfl (lv_at hl 0 rfl) ?_
  refine lv_ldc2 (v := (-9223372036854775808)) hx hb hown (hts (.constantLong RX2 53 (-9223372036854775808)) (List.mem_of_getElem? (i := 1) rfl)) dX2_isBelow_1 ?_
  refine lv_ladd hx hb dX2_isBelow_4 ?_
  refine lv_lload_n hx hb dX2_isBelow_5 rfl (lv_at hl 1 rfl) ?_
  refine lv_ldc2 (v := (-9223372036854775808)) hx hb hown (hts (.constantLong RX2 53 (-9223372036854775808)) (List.mem_of_getElem? (i := 1) rfl)) dX2_isBelow_6 ?_
  refine lv_ladd hx hb dX2_isBelow_9 ?_
  refine W.lcmp hx hb dX2_isBelow_10 ?_
  refine lv_if_ge (tgt := 18) hx hb dX2_isBelow_11 (by decide) (fun c1 => ?_) (fun c1 => ?_)
  · rw [lg_cmp_ge] at c1
    refine lv_iconst (v := nI 0) hx hb dX2_isBelow_18 (by decide) ?_
    exact W.zret (v := (nI 0)) hx hb hr (by rfl) (fun t ht hW => ⟨⟨(nI 0), (), rfl, Or.inr ⟨rfl, fun q => (Int64.not_lt.mpr c1) (ult_iff.mpr q)⟩, by rw [ht]; exact hP, va_K.moved hW.alike hK, hD⟩, hS.F ht⟩) hS.2.2 dX2_isBelow_19
  · rw [lg_cmp_ge] at c1
    refine lv_iconst (v := nI 1) hx hb dX2_isBelow_14 (by decide) ?_
    refine lv_goto (tgt := 19) hx hb dX2_isBelow_15 (by decide) ?_
    exact W.zret (v := (nI 1)) hx hb hr (by rfl) (fun t ht hW => ⟨⟨(nI 1), (), rfl, Or.inl ⟨rfl, ult_iff.mp (Int64.not_le.mp c1)⟩, by rw [ht]; exact hP, va_K.moved hW.alike hK, hD⟩, hS.F ht⟩) hS.2.2 dX2_isBelow_19
set_option maxHeartbeats 1000000 in
set_option maxRecDepth 100000 in
/-- high(a, b) -/
theorem c_X2_high (l : Launch) (dC : Nat → ClassId) (dI : Nat → Nat → Nat) (sz : Nat) (a b : Int64) : Met l yX2_high wsX2_high ({ frames := 0, cells := 0, slots := 0, locals := 0 }) (va_Pc [.long a, .long b] (fun U => U.heap.size = sz ∧ va_P (dC, dI) vwCl ([] : va_W) U.heap ∧ va_K (dC, dI) vwCl [] U ∧ va_D (fun _ => True) ([] : va_W))) (va_Ql (fun (x : Int64) (v : Unit) => x = hpF a b) (fun v t => va_P (dC, dI) vwCl ([] : va_W) t.heap ∧ va_K (dC, dI) vwCl [] t ∧ va_D (va_A ([] : va_W) sz) ([] : va_W)) (va_A ([] : va_W) sz)) 0 0 (va_A ([] : va_W) sz) := by
  refine Met.ofW (cc := cX2_high) (maxL := 16) (ret := (some .long)) (by decide) rfl ?_
  intro p e s m args below meth c s₁ B hml hv
  obtain ⟨rfl, hsz, hP, hK, hD0⟩ := hv
  have hx := B.exec
  have hb := B.bytes
  have hr := B.returns
  have hts := atoms_spec (ws := wsX2_high) B.pre
  have hown : s.vm.findClass RX2 = some m.cls := findClass_of_methodNamed B.named
  subst hsz
  have hD := hD0.self (sz := s.heap.size)
  clear hD0
  generalize hAe : va_A ([] : va_W) s.heap.size = A at hD ⊢
  have hA : ∀ q : Nat, s.heap.size ≤ q → A q := fun q h => by rw [← hAe]; exact Or.inr h
  have hl := lv_entry ([.long a, .long b]) (n := 16) (Nat.le_of_ble_eq_true rfl)
  rw [lg_entry_eq]
  generalize (lg_sl ([.long a, .long b]) ++ List.replicate (16 - (lg_sl ([.long a, .long b])).length) Slot.unset).toArray = ls at hl ⊢
  have hl : lv_has ls 16 [(0, .long a), (2, .long b)] := hl
  have hP : va_P (dC, dI) vwCl ([] : va_W) s.heap := hP
  obtain ⟨H, hH⟩ : ∃ H, H = s.heap := ⟨_, rfl⟩
  have hS : va_S A s.heap H [] := by rw [hH]; exact va_S.rf
  rw [← hH] at hP ⊢
  refine lv_lload_n hx hb dX2_high_0 rfl (lv_at hl 0 rfl) ?_
  refine lv_ldc2 (v := 4294967295) hx hb hown (hts (.constantLong RX2 55 (4294967295)) (List.mem_of_getElem? (i := 1) rfl)) dX2_high_1 ?_
  refine lv_land hx hb dX2_high_4 ?_
  refine lv_lstore (lv' := [(4, .long (a &&& 4294967295)), (0, .long a), (2, .long b)]) hx hb dX2_high_5 hl (by decide) rfl (fun ls hl => ?_)
  refine lv_lload_n hx hb dX2_high_7 rfl (lv_at hl 2 rfl) ?_
  refine lv_ldc2 (v := 4294967295) hx hb hown (hts (.constantLong RX2 55 (4294967295)) (List.mem_of_getElem? (i := 1) rfl)) dX2_high_8 ?_
  refine lv_land hx hb dX2_high_11 ?_
  refine lv_lstore (lv' := [(6, .long (b &&& 4294967295)), (4, .long (a &&& 4294967295)), (0, .long a), (2, .long b)]) hx hb dX2_high_12 hl (by decide) rfl (fun ls hl => ?_)
  refine lv_lload_n hx hb dX2_high_14 rfl (lv_at hl 2 rfl) ?_
  refine lv_bipush (v := nI 32) hx hb dX2_high_15 (by decide) ?_
  refine lv_lshr hx hb dX2_high_17 rfl ?_
  refine lv_lstore (lv' := [(8, .long (a >>> (Int32.toInt64 (nI 32) &&& 63))), (6, .long (b &&& 4294967295)), (4, .long (a &&& 4294967295)), (0, .long a), (2, .long b)]) hx hb dX2_high_18 hl (by decide) rfl (fun ls hl => ?_)
  refine lv_lload_n hx hb dX2_high_20 rfl (lv_at hl 4 rfl) ?_
  refine lv_bipush (v := nI 32) hx hb dX2_high_21 (by decide) ?_
  refine lv_lshr hx hb dX2_high_23 rfl ?_
  refine lv_lstore (lv' := [(10, .long (b >>> (Int32.toInt64 (nI 32) &&& 63))), (8, .long (a >>> (Int32.toInt64 (nI 32) &&& 63))), (6, .long (b &&& 4294967295)), (4, .long (a &&& 4294967295)), (0, .long a), (2, .long b)]) hx hb dX2_high_24 hl (by decide) rfl (fun ls hl => ?_)
  refine lv_lload hx hb dX2_high_26 (lv_at hl 1 rfl) ?_
  refine lv_lload hx hb dX2_high_28 (lv_at hl 2 rfl) ?_
  refine lv_lmul hx hb dX2_high_30 ?_
  refine lv_lload hx hb dX2_high_31 (lv_at hl 3 rfl) ?_
  refine lv_lload hx hb dX2_high_33 (lv_at hl 2 rfl) ?_
  refine lv_lmul hx hb dX2_high_35 ?_
  refine lv_bipush (v := nI 32) hx hb dX2_high_36 (by decide) ?_
  refine lv_lushr hx hb dX2_high_38 rfl ?_
  refine lv_ladd hx hb dX2_high_39 ?_
  refine lv_lstore (lv' := [(12, .long (((a >>> (Int32.toInt64 (nI 32) &&& 63)) * (b &&& 4294967295)) + ((Int64.toUInt64 ((a &&& 4294967295) * (b &&& 4294967295)) >>> ((Int32.toInt64 (nI 32)).toUInt64 &&& Int64.toUInt64 63)).toInt64))), (10, .long (b >>> (Int32.toInt64 (nI 32) &&& 63))), (8, .long (a >>> (Int32.toInt64 (nI 32) &&& 63))), (6, .long (b &&& 4294967295)), (4, .long (a &&& 4294967295)), (0, .long a), (2, .long b)]) hx hb dX2_high_40 hl (by decide) rfl (fun ls hl => ?_)
  refine lv_lload hx hb dX2_high_42 (lv_at hl 4 rfl) ?_
  refine lv_lload hx hb dX2_high_44 (lv_at hl 1 rfl) ?_
  refine lv_lmul hx hb dX2_high_46 ?_
  refine lv_lload hx hb dX2_high_47 (lv_at hl 0 rfl) ?_
  refine lv_ldc2 (v := 4294967295) hx hb hown (hts (.constantLong RX2 55 (4294967295)) (List.mem_of_getElem? (i := 1) rfl)) dX2_high_49 ?_
  refine lv_land hx hb dX2_high_52 ?_
  refine lv_ladd hx hb dX2_high_53 ?_
  refine lv_lstore (lv' := [(14, .long (((a &&& 4294967295) * (b >>> (Int32.toInt64 (nI 32) &&& 63))) + ((((a >>> (Int32.toInt64 (nI 32) &&& 63)) * (b &&& 4294967295)) + ((Int64.toUInt64 ((a &&& 4294967295) * (b &&& 4294967295)) >>> ((Int32.toInt64 (nI 32)).toUInt64 &&& Int64.toUInt64 63)).toInt64)) &&& 4294967295))), (12, .long (((a >>> (Int32.toInt64 (nI 32) &&& 63)) * (b &&& 4294967295)) + ((Int64.toUInt64 ((a &&& 4294967295) * (b &&& 4294967295)) >>> ((Int32.toInt64 (nI 32)).toUInt64 &&& Int64.toUInt64 63)).toInt64))), (10, .long (b >>> (Int32.toInt64 (nI 32) &&& 63))), (8, .long (a >>> (Int32.toInt64 (nI 32) &&& 63))), (6, .long (b &&& 4294967295)), (4, .long (a &&& 4294967295)), (0, .long a), (2, .long b)]) hx hb dX2_high_54 hl (by decide) rfl (fun ls hl => ?_)
  refine lv_lload hx hb dX2_high_56 (lv_at hl 3 rfl) ?_
  refine lv_lload hx hb dX2_high_58 (lv_at hl 2 rfl) ?_
  refine lv_lmul hx hb dX2_high_60 ?_
  refine lv_lload hx hb dX2_high_61 (lv_at hl 1 rfl) ?_
  refine lv_bipush (v := nI 32) hx hb dX2_high_63 (by decide) ?_
  refine lv_lshr hx hb dX2_high_65 rfl ?_
  refine lv_ladd hx hb dX2_high_66 ?_
  refine lv_lload hx hb dX2_high_67 (lv_at hl 0 rfl) ?_
  refine lv_bipush (v := nI 32) hx hb dX2_high_69 (by decide) ?_
  refine lv_lshr hx hb dX2_high_71 rfl ?_
  refine lv_ladd hx hb dX2_high_72 ?_
  exact W.lret (v := ((((a >>> (Int32.toInt64 (nI 32) &&& 63)) * (b >>> (Int32.toInt64 (nI 32) &&& 63))) + ((((a >>> (Int32.toInt64 (nI 32) &&& 63)) * (b &&& 4294967295)) + ((Int64.toUInt64 ((a &&& 4294967295) * (b &&& 4294967295)) >>> ((Int32.toInt64 (nI 32)).toUInt64 &&& Int64.toUInt64 63)).toInt64)) >>> (Int32.toInt64 (nI 32) &&& 63))) + ((((a &&& 4294967295) * (b >>> (Int32.toInt64 (nI 32) &&& 63))) + ((((a >>> (Int32.toInt64 (nI 32) &&& 63)) * (b &&& 4294967295)) + ((Int64.toUInt64 ((a &&& 4294967295) * (b &&& 4294967295)) >>> ((Int32.toInt64 (nI 32)).toUInt64 &&& Int64.toUInt64 63)).toInt64)) &&& 4294967295)) >>> (Int32.toInt64 (nI 32) &&& 63)))) hx hb hr (fun t ht hW => ⟨⟨((((a >>> (Int32.toInt64 (nI 32) &&& 63)) * (b >>> (Int32.toInt64 (nI 32) &&& 63))) + ((((a >>> (Int32.toInt64 (nI 32) &&& 63)) * (b &&& 4294967295)) + ((Int64.toUInt64 ((a &&& 4294967295) * (b &&& 4294967295)) >>> ((Int32.toInt64 (nI 32)).toUInt64 &&& Int64.toUInt64 63)).toInt64)) >>> (Int32.toInt64 (nI 32) &&& 63))) + ((((a &&& 4294967295) * (b >>> (Int32.toInt64 (nI 32) &&& 63))) + ((((a >>> (Int32.toInt64 (nI 32) &&& 63)) * (b &&& 4294967295)) + ((Int64.toUInt64 ((a &&& 4294967295) * (b &&& 4294967295)) >>> ((Int32.toInt64 (nI 32)).toUInt64 &&& Int64.toUInt64 63)).toInt64)) &&& 4294967295)) >>> (Int32.toInt64 (nI 32) &&& 63))), (), rfl, rfl, by rw [ht]; exact hP, va_K.moved hW.alike hK, hD⟩, hS.F ht⟩) hS.2.2 dX2_high_73
set_option maxHeartbeats 1000000 in
set_option maxRecDepth 100000 in
/-- begin(k) -/
theorem c_X2_begin (l : Launch) (dC : Nat → ClassId) (dI : Nat → Nat → Nat) (sz : Nat) (m0 aN aR aX aO aP aH aL aW : Nat) (cI cJ : ClassId) (vn ct : Nat) (nm : Nat → Int32) (tp bt : Int64) (an : Int32) (rw nx : Nat → Int64) (og no : Nat → Int32) (rc nc : Nat) (hgh lws : Nat → Int64) (dh dl fT fB : Int64) (wd : Nat → Int32) (k : Int32) : Met l yX2_begin wsX2_begin ({ frames := 0, cells := 0, slots := 0, locals := 0 }) (va_Pc [.ref m0, .int k] (fun U => U.heap.size = sz ∧ va_P (dC, dI) vwCl (mdW m0 aN aR aX aO aP aH aL aW cI cJ vn ct nm tp bt an rw nx og no rc nc hgh lws dh dl fT fB wd) U.heap ∧ va_K (dC, dI) vwCl [(cI, .int), (cJ, .long)] U ∧ va_D (fun _ => True) (mdW m0 aN aR aX aO aP aH aL aW cI cJ vn ct nm tp bt an rw nx og no rc nc hgh lws dh dl fT fB wd))) (va_Qi (fun (x : Int32) (v : Nat × Nat) => (∃ j, 1 ≤ j ∧ j ≤ 3 ∧ k = nI j ∧ x = 1 ∧ v = (j, 0)) ∨ (x = 0 ∧ (∀ j, 1 ≤ j → j ≤ 3 → k ≠ nI j) ∧ v = (vn, ct))) (fun v t => va_P (dC, dI) vwCl (mdW m0 aN aR aX aO aP aH aL aW cI cJ v.1 v.2 nm tp bt an rw nx og no rc nc hgh lws dh dl fT fB wd) t.heap ∧ va_K (dC, dI) vwCl [(cI, .int), (cJ, .long)] t ∧ va_D (va_A (mdW m0 aN aR aX aO aP aH aL aW cI cJ vn ct nm tp bt an rw nx og no rc nc hgh lws dh dl fT fB wd) sz) (mdW m0 aN aR aX aO aP aH aL aW cI cJ v.1 v.2 nm tp bt an rw nx og no rc nc hgh lws dh dl fT fB wd)) (va_A (mdW m0 aN aR aX aO aP aH aL aW cI cJ vn ct nm tp bt an rw nx og no rc nc hgh lws dh dl fT fB wd) sz)) 0 0 (va_A (mdW m0 aN aR aX aO aP aH aL aW cI cJ vn ct nm tp bt an rw nx og no rc nc hgh lws dh dl fT fB wd) sz) := by
  refine Met.ofW (cc := cX2_begin) (maxL := 2) (ret := (some .boolean)) (by decide) rfl ?_
  intro p e s m args below meth c s₁ B hml hv
  obtain ⟨rfl, hsz, hP, hK, hD0⟩ := hv
  have hx := B.exec
  have hb := B.bytes
  have hr := B.returns
  have hts := atoms_spec (ws := wsX2_begin) B.pre
  have hown : s.vm.findClass RX2 = some m.cls := findClass_of_methodNamed B.named
  subst hsz
  have hD := hD0.self (sz := s.heap.size)
  clear hD0
  generalize hAe : va_A (mdW m0 aN aR aX aO aP aH aL aW cI cJ vn ct nm tp bt an rw nx og no rc nc hgh lws dh dl fT fB wd) s.heap.size = A at hD ⊢
  have hA : ∀ q : Nat, s.heap.size ≤ q → A q := fun q h => by rw [← hAe]; exact Or.inr h
  have hl := lv_entry ([.ref m0, .int k]) (n := 2) (Nat.le_of_ble_eq_true rfl)
  rw [lg_entry_eq]
  generalize (lg_sl ([.ref m0, .int k]) ++ List.replicate (2 - (lg_sl ([.ref m0, .int k])).length) Slot.unset).toArray = ls at hl ⊢
  have hl : lv_has ls 2 [(0, .ref m0), (1, .int k)] := hl
  have hP : va_P (dC, dI) vwCl (mdW m0 aN aR aX aO aP aH aL aW cI cJ vn ct nm tp bt an rw nx og no rc nc hgh lws dh dl fT fB wd) s.heap := hP
  obtain ⟨H, hH⟩ : ∃ H, H = s.heap := ⟨_, rfl⟩
  have hS : va_S A s.heap H [] := by rw [hH]; exact va_S.rf
  rw [← hH] at hP ⊢
  refine lv_iload_n hx hb dX2_begin_0 rfl (lv_at hl 1 rfl) ?_
  refine lv_iconst (v := nI 1) hx hb dX2_begin_1 (by decide) ?_
  refine lv_icmp_lt (tgt := 10) hx hb dX2_begin_2 (by decide) (fun c1 => ?_) (fun c1 => ?_)
  · refine lv_iconst (v := nI 0) hx hb dX2_begin_10 (by decide) ?_
    exact W.zret (v := (nI 0)) hx hb hr (by rfl) (fun t ht hW => ⟨⟨(nI 0), (vn, ct), rfl, Or.inr ⟨rfl, fun j h1 h2 q => by rw [q] at c1; exact nI_nlt h1 (by omega) c1, rfl⟩, by rw [ht]; exact hP, va_K.moved hW.alike hK, hD⟩, hS.F ht⟩) hS.2.2 dX2_begin_11
  · refine lv_iload_n hx hb dX2_begin_5 rfl (lv_at hl 1 rfl) ?_
    refine lv_iconst (v := nI 3) hx hb dX2_begin_6 (by decide) ?_
    refine lv_icmp_le (tgt := 12) hx hb dX2_begin_7 (by decide) (fun c2 => ?_) (fun c2 => ?_)
    · obtain ⟨j, hj, rfl⟩ := nI_of2 (M := nI 3) (n := 3) rfl (fun q => c1 (by rw [Int32.lt_iff_toInt_lt] at *; have e1 : (nI 1).toInt = 1 := rfl; have e0 : (0 : Int32).toInt = 0 := rfl; omega)) c2
      have hj1 : 1 ≤ j := by
        apply Classical.byContradiction
        intro q
        exact c1 (nI_lt (by omega) (by omega))
      refine lv_aload_n hx hb dX2_begin_12 rfl (lv_at hl 0 rfl) ?_
      refine lv_iload_n hx hb dX2_begin_13 rfl (lv_at hl 1 rfl) ?_
      refine va_put (D := (dC, dI)) (ci := 2) (v := .int (nI j)) (ty := .int) (C := RX2) (T := TX2) (N := 19) hx hb hts (fun _ h => List.mem_cons_of_mem _ (List.mem_append_right _ h)) tyX2 tyX2_ok nmX2 hown hK hP hD hS 0 rfl rfl 0 (by decide) (hts (.fieldLink RX2 7 "RankFinderModel" "n" "I") (List.mem_of_getElem? (i := 1) rfl)) (fun _ h9 => h9) rfl (by decide +kernel) rfl rfl (Nat.le_of_ble_eq_true rfl) dX2_begin_14 (fun H locs hP hD hS => ?_)
      have hP : va_P (dC, dI) vwCl (mdW m0 aN aR aX aO aP aH aL aW cI cJ j ct nm tp bt an rw nx og no rc nc hgh lws dh dl fT fB wd) H := hP
      have hD : va_D A (mdW m0 aN aR aX aO aP aH aL aW cI cJ j ct nm tp bt an rw nx og no rc nc hgh lws dh dl fT fB wd) := hD
      refine lv_aload_n hx hb dX2_begin_17 rfl (lv_at hl 0 rfl) ?_
      refine lv_iconst (v := nI 0) hx hb dX2_begin_18 (by decide) ?_
      refine va_put (D := (dC, dI)) (ci := 2) (v := .int (nI 0)) (ty := .int) (C := RX2) (T := TX2) (N := 19) hx hb hts (fun _ h => List.mem_cons_of_mem _ (List.mem_append_right _ h)) tyX2 tyX2_ok nmX2 hown hK hP hD hS 0 rfl rfl 1 (by decide) (hts (.fieldLink RX2 39 "RankFinderModel" "count" "I") (List.mem_of_getElem? (i := 2) rfl)) (fun _ h9 => h9) rfl (by decide +kernel) rfl rfl (Nat.le_of_ble_eq_true rfl) dX2_begin_19 (fun H locs hP hD hS => ?_)
      have hP : va_P (dC, dI) vwCl (mdW m0 aN aR aX aO aP aH aL aW cI cJ j 0 nm tp bt an rw nx og no rc nc hgh lws dh dl fT fB wd) H := hP
      have hD : va_D A (mdW m0 aN aR aX aO aP aH aL aW cI cJ j 0 nm tp bt an rw nx og no rc nc hgh lws dh dl fT fB wd) := hD
      refine lv_iconst (v := nI 1) hx hb dX2_begin_22 (by decide) ?_
      exact W.zret (v := (nI 1)) hx hb hr (by rfl) (fun t ht hW => ⟨⟨(nI 1), (j, 0), rfl, Or.inl ⟨j, hj1, hj, rfl, rfl, rfl⟩, by rw [ht]; exact hP, va_K.moved hW.alike hK, hD⟩, hS.F ht⟩) hS.2.2 dX2_begin_23
    · refine lv_iconst (v := nI 0) hx hb dX2_begin_10 (by decide) ?_
      exact W.zret (v := (nI 0)) hx hb hr (by rfl) (fun t ht hW => ⟨⟨(nI 0), (vn, ct), rfl, Or.inr ⟨rfl, fun j h1 h2 q => by rw [q] at c2; exact c2 (nI_le h2 (by omega)), rfl⟩, by rw [ht]; exact hP, va_K.moved hW.alike hK, hD⟩, hS.F ht⟩) hS.2.2 dX2_begin_11
set_option maxHeartbeats 1000000 in
set_option maxRecDepth 100000 in
/-- rules() -/
theorem c_X2_rules (l : Launch) (dC : Nat → ClassId) (dI : Nat → Nat → Nat) (sz : Nat) (m0 aN aR aX aO aP aH aL aW : Nat) (cI cJ : ClassId) (vn ct : Nat) (nm : Nat → Int32) (tp bt : Int64) (an : Int32) (rw nx : Nat → Int64) (og no : Nat → Int32) (rc nc : Nat) (hgh lws : Nat → Int64) (dh dl fT fB : Int64) (wd : Nat → Int32) : Met l yX2_rules wsX2_rules ({ frames := 0, cells := 0, slots := 0, locals := 0 }) (va_Pc [.ref m0] (fun U => U.heap.size = sz ∧ va_P (dC, dI) vwCl (mdW m0 aN aR aX aO aP aH aL aW cI cJ vn ct nm tp bt an rw nx og no rc nc hgh lws dh dl fT fB wd) U.heap ∧ va_K (dC, dI) vwCl [(cI, .int), (cJ, .long)] U ∧ va_D (fun _ => True) (mdW m0 aN aR aX aO aP aH aL aW cI cJ vn ct nm tp bt an rw nx og no rc nc hgh lws dh dl fT fB wd))) (va_Qi (fun (x : Int32) (v : Unit) => x = nI ct) (fun v t => va_P (dC, dI) vwCl (mdW m0 aN aR aX aO aP aH aL aW cI cJ vn ct nm tp bt an rw nx og no rc nc hgh lws dh dl fT fB wd) t.heap ∧ va_K (dC, dI) vwCl [(cI, .int), (cJ, .long)] t ∧ va_D (va_A (mdW m0 aN aR aX aO aP aH aL aW cI cJ vn ct nm tp bt an rw nx og no rc nc hgh lws dh dl fT fB wd) sz) (mdW m0 aN aR aX aO aP aH aL aW cI cJ vn ct nm tp bt an rw nx og no rc nc hgh lws dh dl fT fB wd)) (va_A (mdW m0 aN aR aX aO aP aH aL aW cI cJ vn ct nm tp bt an rw nx og no rc nc hgh lws dh dl fT fB wd) sz)) 0 0 (va_A (mdW m0 aN aR aX aO aP aH aL aW cI cJ vn ct nm tp bt an rw nx og no rc nc hgh lws dh dl fT fB wd) sz) := by
  refine Met.ofW (cc := cX2_rules) (maxL := 1) (ret := (some .int)) (by decide) rfl ?_
  intro p e s m args below meth c s₁ B hml hv
  obtain ⟨rfl, hsz, hP, hK, hD0⟩ := hv
  have hx := B.exec
  have hb := B.bytes
  have hr := B.returns
  have hts := atoms_spec (ws := wsX2_rules) B.pre
  have hown : s.vm.findClass RX2 = some m.cls := findClass_of_methodNamed B.named
  subst hsz
  have hD := hD0.self (sz := s.heap.size)
  clear hD0
  generalize hAe : va_A (mdW m0 aN aR aX aO aP aH aL aW cI cJ vn ct nm tp bt an rw nx og no rc nc hgh lws dh dl fT fB wd) s.heap.size = A at hD ⊢
  have hA : ∀ q : Nat, s.heap.size ≤ q → A q := fun q h => by rw [← hAe]; exact Or.inr h
  have hl := lv_entry ([.ref m0]) (n := 1) (Nat.le_of_ble_eq_true rfl)
  rw [lg_entry_eq]
  generalize (lg_sl ([.ref m0]) ++ List.replicate (1 - (lg_sl ([.ref m0])).length) Slot.unset).toArray = ls at hl ⊢
  have hl : lv_has ls 1 [(0, .ref m0)] := hl
  have hP : va_P (dC, dI) vwCl (mdW m0 aN aR aX aO aP aH aL aW cI cJ vn ct nm tp bt an rw nx og no rc nc hgh lws dh dl fT fB wd) s.heap := hP
  obtain ⟨H, hH⟩ : ∃ H, H = s.heap := ⟨_, rfl⟩
  have hS : va_S A s.heap H [] := by rw [hH]; exact va_S.rf
  rw [← hH] at hP ⊢
  refine lv_aload_n hx hb dX2_rules_0 rfl (lv_at hl 0 rfl) ?_
  refine va_get (D := (dC, dI)) (ci := 2) (v := .int (nI ct)) (C := RX2) (T := TX2) (N := 19) hx hb hts (fun _ h => List.mem_cons_of_mem _ (List.mem_append_right _ h)) hown hK hP 0 rfl rfl 1 (by decide) (hts (.fieldLink RX2 39 "RankFinderModel" "count" "I") (List.mem_of_getElem? (i := 1) rfl)) (fun _ h9 => h9) rfl dX2_rules_1 ?_
  exact W.iret (v := (nI ct)) hx hb hr (fun t ht hW => ⟨⟨(nI ct), (), rfl, rfl, by rw [ht]; exact hP, va_K.moved hW.alike hK, hD⟩, hS.F ht⟩) hS.2.2 dX2_rules_4
set_option maxHeartbeats 1000000 in
set_option maxRecDepth 100000 in
/-- top() -/
theorem c_X2_top (l : Launch) (dC : Nat → ClassId) (dI : Nat → Nat → Nat) (sz : Nat) (m0 aN aR aX aO aP aH aL aW : Nat) (cI cJ : ClassId) (vn ct : Nat) (nm : Nat → Int32) (tp bt : Int64) (an : Int32) (rw nx : Nat → Int64) (og no : Nat → Int32) (rc nc : Nat) (hgh lws : Nat → Int64) (dh dl fT fB : Int64) (wd : Nat → Int32) : Met l yX2_top wsX2_top ({ frames := 0, cells := 0, slots := 0, locals := 0 }) (va_Pc [.ref m0] (fun U => U.heap.size = sz ∧ va_P (dC, dI) vwCl (mdW m0 aN aR aX aO aP aH aL aW cI cJ vn ct nm tp bt an rw nx og no rc nc hgh lws dh dl fT fB wd) U.heap ∧ va_K (dC, dI) vwCl [(cI, .int), (cJ, .long)] U ∧ va_D (fun _ => True) (mdW m0 aN aR aX aO aP aH aL aW cI cJ vn ct nm tp bt an rw nx og no rc nc hgh lws dh dl fT fB wd))) (va_Ql (fun (x : Int64) (v : Unit) => x = tp) (fun v t => va_P (dC, dI) vwCl (mdW m0 aN aR aX aO aP aH aL aW cI cJ vn ct nm tp bt an rw nx og no rc nc hgh lws dh dl fT fB wd) t.heap ∧ va_K (dC, dI) vwCl [(cI, .int), (cJ, .long)] t ∧ va_D (va_A (mdW m0 aN aR aX aO aP aH aL aW cI cJ vn ct nm tp bt an rw nx og no rc nc hgh lws dh dl fT fB wd) sz) (mdW m0 aN aR aX aO aP aH aL aW cI cJ vn ct nm tp bt an rw nx og no rc nc hgh lws dh dl fT fB wd)) (va_A (mdW m0 aN aR aX aO aP aH aL aW cI cJ vn ct nm tp bt an rw nx og no rc nc hgh lws dh dl fT fB wd) sz)) 0 0 (va_A (mdW m0 aN aR aX aO aP aH aL aW cI cJ vn ct nm tp bt an rw nx og no rc nc hgh lws dh dl fT fB wd) sz) := by
  refine Met.ofW (cc := cX2_top) (maxL := 1) (ret := (some .long)) (by decide) rfl ?_
  intro p e s m args below meth c s₁ B hml hv
  obtain ⟨rfl, hsz, hP, hK, hD0⟩ := hv
  have hx := B.exec
  have hb := B.bytes
  have hr := B.returns
  have hts := atoms_spec (ws := wsX2_top) B.pre
  have hown : s.vm.findClass RX2 = some m.cls := findClass_of_methodNamed B.named
  subst hsz
  have hD := hD0.self (sz := s.heap.size)
  clear hD0
  generalize hAe : va_A (mdW m0 aN aR aX aO aP aH aL aW cI cJ vn ct nm tp bt an rw nx og no rc nc hgh lws dh dl fT fB wd) s.heap.size = A at hD ⊢
  have hA : ∀ q : Nat, s.heap.size ≤ q → A q := fun q h => by rw [← hAe]; exact Or.inr h
  have hl := lv_entry ([.ref m0]) (n := 1) (Nat.le_of_ble_eq_true rfl)
  rw [lg_entry_eq]
  generalize (lg_sl ([.ref m0]) ++ List.replicate (1 - (lg_sl ([.ref m0])).length) Slot.unset).toArray = ls at hl ⊢
  have hl : lv_has ls 1 [(0, .ref m0)] := hl
  have hP : va_P (dC, dI) vwCl (mdW m0 aN aR aX aO aP aH aL aW cI cJ vn ct nm tp bt an rw nx og no rc nc hgh lws dh dl fT fB wd) s.heap := hP
  obtain ⟨H, hH⟩ : ∃ H, H = s.heap := ⟨_, rfl⟩
  have hS : va_S A s.heap H [] := by rw [hH]; exact va_S.rf
  rw [← hH] at hP ⊢
  refine lv_aload_n hx hb dX2_top_0 rfl (lv_at hl 0 rfl) ?_
  refine va_get (D := (dC, dI)) (ci := 2) (v := .long tp) (C := RX2) (T := TX2) (N := 19) hx hb hts (fun _ h => List.mem_cons_of_mem _ (List.mem_append_right _ h)) hown hK hP 0 rfl rfl 3 (by decide) (hts (.fieldLink RX2 135 "RankFinderModel" "top" "J") (List.mem_of_getElem? (i := 1) rfl)) (fun _ h9 => h9) rfl dX2_top_1 ?_
  exact W.lret (v := tp) hx hb hr (fun t ht hW => ⟨⟨tp, (), rfl, rfl, by rw [ht]; exact hP, va_K.moved hW.alike hK, hD⟩, hS.F ht⟩) hS.2.2 dX2_top_4
set_option maxHeartbeats 1000000 in
set_option maxRecDepth 100000 in
/-- bottom() -/
theorem c_X2_bottom (l : Launch) (dC : Nat → ClassId) (dI : Nat → Nat → Nat) (sz : Nat) (m0 aN aR aX aO aP aH aL aW : Nat) (cI cJ : ClassId) (vn ct : Nat) (nm : Nat → Int32) (tp bt : Int64) (an : Int32) (rw nx : Nat → Int64) (og no : Nat → Int32) (rc nc : Nat) (hgh lws : Nat → Int64) (dh dl fT fB : Int64) (wd : Nat → Int32) : Met l yX2_bottom wsX2_bottom ({ frames := 0, cells := 0, slots := 0, locals := 0 }) (va_Pc [.ref m0] (fun U => U.heap.size = sz ∧ va_P (dC, dI) vwCl (mdW m0 aN aR aX aO aP aH aL aW cI cJ vn ct nm tp bt an rw nx og no rc nc hgh lws dh dl fT fB wd) U.heap ∧ va_K (dC, dI) vwCl [(cI, .int), (cJ, .long)] U ∧ va_D (fun _ => True) (mdW m0 aN aR aX aO aP aH aL aW cI cJ vn ct nm tp bt an rw nx og no rc nc hgh lws dh dl fT fB wd))) (va_Ql (fun (x : Int64) (v : Unit) => x = bt) (fun v t => va_P (dC, dI) vwCl (mdW m0 aN aR aX aO aP aH aL aW cI cJ vn ct nm tp bt an rw nx og no rc nc hgh lws dh dl fT fB wd) t.heap ∧ va_K (dC, dI) vwCl [(cI, .int), (cJ, .long)] t ∧ va_D (va_A (mdW m0 aN aR aX aO aP aH aL aW cI cJ vn ct nm tp bt an rw nx og no rc nc hgh lws dh dl fT fB wd) sz) (mdW m0 aN aR aX aO aP aH aL aW cI cJ vn ct nm tp bt an rw nx og no rc nc hgh lws dh dl fT fB wd)) (va_A (mdW m0 aN aR aX aO aP aH aL aW cI cJ vn ct nm tp bt an rw nx og no rc nc hgh lws dh dl fT fB wd) sz)) 0 0 (va_A (mdW m0 aN aR aX aO aP aH aL aW cI cJ vn ct nm tp bt an rw nx og no rc nc hgh lws dh dl fT fB wd) sz) := by
  refine Met.ofW (cc := cX2_bottom) (maxL := 1) (ret := (some .long)) (by decide) rfl ?_
  intro p e s m args below meth c s₁ B hml hv
  obtain ⟨rfl, hsz, hP, hK, hD0⟩ := hv
  have hx := B.exec
  have hb := B.bytes
  have hr := B.returns
  have hts := atoms_spec (ws := wsX2_bottom) B.pre
  have hown : s.vm.findClass RX2 = some m.cls := findClass_of_methodNamed B.named
  subst hsz
  have hD := hD0.self (sz := s.heap.size)
  clear hD0
  generalize hAe : va_A (mdW m0 aN aR aX aO aP aH aL aW cI cJ vn ct nm tp bt an rw nx og no rc nc hgh lws dh dl fT fB wd) s.heap.size = A at hD ⊢
  have hA : ∀ q : Nat, s.heap.size ≤ q → A q := fun q h => by rw [← hAe]; exact Or.inr h
  have hl := lv_entry ([.ref m0]) (n := 1) (Nat.le_of_ble_eq_true rfl)
  rw [lg_entry_eq]
  generalize (lg_sl ([.ref m0]) ++ List.replicate (1 - (lg_sl ([.ref m0])).length) Slot.unset).toArray = ls at hl ⊢
  have hl : lv_has ls 1 [(0, .ref m0)] := hl
  have hP : va_P (dC, dI) vwCl (mdW m0 aN aR aX aO aP aH aL aW cI cJ vn ct nm tp bt an rw nx og no rc nc hgh lws dh dl fT fB wd) s.heap := hP
  obtain ⟨H, hH⟩ : ∃ H, H = s.heap := ⟨_, rfl⟩
  have hS : va_S A s.heap H [] := by rw [hH]; exact va_S.rf
  rw [← hH] at hP ⊢
  refine lv_aload_n hx hb dX2_bottom_0 rfl (lv_at hl 0 rfl) ?_
  refine va_get (D := (dC, dI)) (ci := 2) (v := .long bt) (C := RX2) (T := TX2) (N := 19) hx hb hts (fun _ h => List.mem_cons_of_mem _ (List.mem_append_right _ h)) hown hK hP 0 rfl rfl 4 (by decide) (hts (.fieldLink RX2 138 "RankFinderModel" "bottom" "J") (List.mem_of_getElem? (i := 1) rfl)) (fun _ h9 => h9) rfl dX2_bottom_1 ?_
  exact W.lret (v := bt) hx hb hr (fun t ht hW => ⟨⟨bt, (), rfl, rfl, by rw [ht]; exact hP, va_K.moved hW.alike hK, hD⟩, hS.F ht⟩) hS.2.2 dX2_bottom_4
set_option maxHeartbeats 1000000 in
set_option maxRecDepth 100000 in
/-- number(k, i) -/
theorem c_X2_number (l : Launch) (dC : Nat → ClassId) (dI : Nat → Nat → Nat) (sz : Nat) (m0 aN aR aX aO aP aH aL aW : Nat) (cI cJ : ClassId) (vn ct : Nat) (nm : Nat → Int32) (tp bt : Int64) (an : Int32) (rw nx : Nat → Int64) (og no : Nat → Int32) (rc nc : Nat) (hgh lws : Nat → Int64) (dh dl fT fB : Int64) (wd : Nat → Int32) (k i : Int32) (hc : ct ≤ 8) : Met l yX2_number wsX2_number ({ frames := 0, cells := 0, slots := 0, locals := 0 }) (va_Pc [.ref m0, .int k, .int i] (fun U => U.heap.size = sz ∧ va_P (dC, dI) vwCl (mdW m0 aN aR aX aO aP aH aL aW cI cJ vn ct nm tp bt an rw nx og no rc nc hgh lws dh dl fT fB wd) U.heap ∧ va_K (dC, dI) vwCl [(cI, .int), (cJ, .long)] U ∧ va_D (fun _ => True) (mdW m0 aN aR aX aO aP aH aL aW cI cJ vn ct nm tp bt an rw nx og no rc nc hgh lws dh dl fT fB wd))) (va_Qi (fun (x : Int32) (v : Unit) => (∃ a b, a < ct ∧ b < 7 ∧ k = nI a ∧ i = nI b ∧ x = nm (7 * a + b)) ∨ (x = 0 ∧ ¬ ∃ a b, a < ct ∧ b < 7 ∧ k = nI a ∧ i = nI b)) (fun v t => va_P (dC, dI) vwCl (mdW m0 aN aR aX aO aP aH aL aW cI cJ vn ct nm tp bt an rw nx og no rc nc hgh lws dh dl fT fB wd) t.heap ∧ va_K (dC, dI) vwCl [(cI, .int), (cJ, .long)] t ∧ va_D (va_A (mdW m0 aN aR aX aO aP aH aL aW cI cJ vn ct nm tp bt an rw nx og no rc nc hgh lws dh dl fT fB wd) sz) (mdW m0 aN aR aX aO aP aH aL aW cI cJ vn ct nm tp bt an rw nx og no rc nc hgh lws dh dl fT fB wd)) (va_A (mdW m0 aN aR aX aO aP aH aL aW cI cJ vn ct nm tp bt an rw nx og no rc nc hgh lws dh dl fT fB wd) sz)) 0 0 (va_A (mdW m0 aN aR aX aO aP aH aL aW cI cJ vn ct nm tp bt an rw nx og no rc nc hgh lws dh dl fT fB wd) sz) := by
  refine Met.ofW (cc := cX2_number) (maxL := 3) (ret := (some .int)) (by decide) rfl ?_
  intro p e s m args below meth c s₁ B hml hv
  obtain ⟨rfl, hsz, hP, hK, hD0⟩ := hv
  have hx := B.exec
  have hb := B.bytes
  have hr := B.returns
  have hts := atoms_spec (ws := wsX2_number) B.pre
  have hown : s.vm.findClass RX2 = some m.cls := findClass_of_methodNamed B.named
  subst hsz
  have hD := hD0.self (sz := s.heap.size)
  clear hD0
  generalize hAe : va_A (mdW m0 aN aR aX aO aP aH aL aW cI cJ vn ct nm tp bt an rw nx og no rc nc hgh lws dh dl fT fB wd) s.heap.size = A at hD ⊢
  have hA : ∀ q : Nat, s.heap.size ≤ q → A q := fun q h => by rw [← hAe]; exact Or.inr h
  have hl := lv_entry ([.ref m0, .int k, .int i]) (n := 3) (Nat.le_of_ble_eq_true rfl)
  rw [lg_entry_eq]
  generalize (lg_sl ([.ref m0, .int k, .int i]) ++ List.replicate (3 - (lg_sl ([.ref m0, .int k, .int i])).length) Slot.unset).toArray = ls at hl ⊢
  have hl : lv_has ls 3 [(0, .ref m0), (1, .int k), (2, .int i)] := hl
  have hP : va_P (dC, dI) vwCl (mdW m0 aN aR aX aO aP aH aL aW cI cJ vn ct nm tp bt an rw nx og no rc nc hgh lws dh dl fT fB wd) s.heap := hP
  obtain ⟨H, hH⟩ : ∃ H, H = s.heap := ⟨_, rfl⟩
  have hS : va_S A s.heap H [] := by rw [hH]; exact va_S.rf
  rw [← hH] at hP ⊢
  refine lv_iload_n hx hb dX2_number_0 rfl (lv_at hl 1 rfl) ?_
  refine lv_if_lt (tgt := 36) hx hb dX2_number_1 (by decide) (fun c1 => ?_) (fun c1 => ?_)
  · refine lv_iconst (v := nI 0) hx hb dX2_number_36 (by decide) ?_
    exact W.iret (v := (nI 0)) hx hb hr (fun t ht hW => ⟨⟨(nI 0), (), rfl, Or.inr ⟨rfl, fun ⟨a2, b2, h1, h2, h3, h4⟩ => by rw [h3] at c1; exact nI_pos (by omega) c1⟩, by rw [ht]; exact hP, va_K.moved hW.alike hK, hD⟩, hS.F ht⟩) hS.2.2 dX2_number_37
  · refine lv_iload_n hx hb dX2_number_4 rfl (lv_at hl 1 rfl) ?_
    refine lv_aload_n hx hb dX2_number_5 rfl (lv_at hl 0 rfl) ?_
    refine va_get (D := (dC, dI)) (ci := 2) (v := .int (nI ct)) (C := RX2) (T := TX2) (N := 19) hx hb hts (fun _ h => List.mem_cons_of_mem _ (List.mem_append_right _ h)) hown hK hP 0 rfl rfl 1 (by decide) (hts (.fieldLink RX2 39 "RankFinderModel" "count" "I") (List.mem_of_getElem? (i := 1) rfl)) (fun _ h9 => h9) rfl dX2_number_6 ?_
    refine lv_icmp_ge (tgt := 36) hx hb dX2_number_9 (by decide) (fun c2 => ?_) (fun c2 => ?_)
    · refine lv_iconst (v := nI 0) hx hb dX2_number_36 (by decide) ?_
      exact W.iret (v := (nI 0)) hx hb hr (fun t ht hW => ⟨⟨(nI 0), (), rfl, Or.inr ⟨rfl, fun ⟨a2, b2, h1, h2, h3, h4⟩ => by rw [h3] at c2; exact nI_ge h1 (by omega) c2⟩, by rw [ht]; exact hP, va_K.moved hW.alike hK, hD⟩, hS.F ht⟩) hS.2.2 dX2_number_37
    · obtain ⟨a, ha, rfl, -⟩ := pk_mu c1 c2 (by omega)
      refine lv_iload_n hx hb dX2_number_12 rfl (lv_at hl 2 rfl) ?_
      refine lv_if_lt (tgt := 36) hx hb dX2_number_13 (by decide) (fun c3 => ?_) (fun c3 => ?_)
      · refine lv_iconst (v := nI 0) hx hb dX2_number_36 (by decide) ?_
        exact W.iret (v := (nI 0)) hx hb hr (fun t ht hW => ⟨⟨(nI 0), (), rfl, Or.inr ⟨rfl, fun ⟨a2, b2, h1, h2, h3, h4⟩ => by rw [h4] at c3; exact nI_pos (by omega) c3⟩, by rw [ht]; exact hP, va_K.moved hW.alike hK, hD⟩, hS.F ht⟩) hS.2.2 dX2_number_37
      · refine lv_iload_n hx hb dX2_number_16 rfl (lv_at hl 2 rfl) ?_
        refine lv_bipush (v := nI 7) hx hb dX2_number_17 (by decide) ?_
        refine lv_icmp_ge (tgt := 36) hx hb dX2_number_19 (by decide) (fun c4 => ?_) (fun c4 => ?_)
        · refine lv_iconst (v := nI 0) hx hb dX2_number_36 (by decide) ?_
          exact W.iret (v := (nI 0)) hx hb hr (fun t ht hW => ⟨⟨(nI 0), (), rfl, Or.inr ⟨rfl, fun ⟨a2, b2, h1, h2, h3, h4⟩ => by rw [h4] at c4; exact nI_ge h2 (by omega) c4⟩, by rw [ht]; exact hP, va_K.moved hW.alike hK, hD⟩, hS.F ht⟩) hS.2.2 dX2_number_37
        · obtain ⟨b, hb7, rfl, -⟩ := pk_mu c3 (L := 7) c4 (by omega)
          refine lv_aload_n hx hb dX2_number_22 rfl (lv_at hl 0 rfl) ?_
          refine va_get (D := (dC, dI)) (ci := 2) (v := .ref aN) (C := RX2) (T := TX2) (N := 19) hx hb hts (fun _ h => List.mem_cons_of_mem _ (List.mem_append_right _ h)) hown hK hP 0 rfl rfl 2 (by decide) (hts (.fieldLink RX2 13 "RankFinderModel" "numbers" "[I") (List.mem_of_getElem? (i := 2) rfl)) (fun _ h9 => h9) rfl dX2_number_23 ?_
          refine lv_bipush (v := nI 7) hx hb dX2_number_26 (by decide) ?_
          refine lv_iload_n hx hb dX2_number_28 rfl (lv_at hl 1 rfl) ?_
          refine lv_imul hx hb dX2_number_29 ?_
          refine lv_topi (fun z_1 ez_1 => ?_)
          obtain rfl : z_1 = nI (7 * a) := ez_1.trans (pk_mul 7 a)
          refine lv_iload_n hx hb dX2_number_30 rfl (lv_at hl 2 rfl) ?_
          refine lv_iadd hx hb dX2_number_31 ?_
          refine lv_topi (fun z_2 ez_2 => ?_)
          obtain rfl : z_2 = nI ((7 * a) + b) := ez_2.trans (nI_add (7 * a) b)
          refine na_iald hx hb hK hP 1 0 rfl rfl (show 7 * a + b < 56 by omega) (by decide) dX2_number_32 ?_
          refine lv_goto (tgt := 37) hx hb dX2_number_33 (by decide) ?_
          exact W.iret (v := (nm ((7 * a) + b))) hx hb hr (fun t ht hW => ⟨⟨(nm ((7 * a) + b)), (), rfl, Or.inl ⟨a, b, ha, hb7, rfl, rfl, rfl⟩, by rw [ht]; exact hP, va_K.moved hW.alike hK, hD⟩, hS.F ht⟩) hS.2.2 dX2_number_37
def dnF (nm : Nat → Int32) (k i : Nat) : Nat → Int32 := fun a => if k ≤ a ∧ a < i then nm (a + 7) else nm a
theorem dnF_0 (nm : Nat → Int32) (k : Nat) : dnF nm k k = nm := by funext a; unfold dnF; rw [if_neg (by omega)]
theorem dnF_s {nm : Nat → Int32} {k i : Nat} (h : k ≤ i) : upd (dnF nm k i) i (dnF nm k i (i + 7)) = dnF nm k (i + 1) := by
  funext a
  unfold upd
  by_cases e : a = i
  · subst e; simp only [if_true]; unfold dnF; rw [if_neg (by omega), if_pos (by omega)]
  · rw [if_neg e]; unfold dnF
    by_cases q : k ≤ a ∧ a < i
    · rw [if_pos q, if_pos (by omega)]
    · rw [if_neg q, if_neg (by omega)]
set_option maxHeartbeats 1000000 in
set_option maxRecDepth 100000 in
/-- drop(k) -/
theorem c_X2_drop (l : Launch) (dC : Nat → ClassId) (dI : Nat → Nat → Nat) (sz : Nat) (m0 aN aR aX aO aP aH aL aW : Nat) (cI cJ : ClassId) (vn ct : Nat) (nm : Nat → Int32) (tp bt : Int64) (an : Int32) (rw nx : Nat → Int64) (og no : Nat → Int32) (rc nc : Nat) (hgh lws : Nat → Int64) (dh dl fT fB : Int64) (wd : Nat → Int32) (k : Int32) (hc : ct ≤ 8) : Met l yX2_drop wsX2_drop ({ frames := 0, cells := 0, slots := 0, locals := 0 }) (va_Pc [.ref m0, .int k] (fun U => U.heap.size = sz ∧ va_P (dC, dI) vwCl (mdW m0 aN aR aX aO aP aH aL aW cI cJ vn ct nm tp bt an rw nx og no rc nc hgh lws dh dl fT fB wd) U.heap ∧ va_K (dC, dI) vwCl [(cI, .int), (cJ, .long)] U ∧ va_D (fun _ => True) (mdW m0 aN aR aX aO aP aH aL aW cI cJ vn ct nm tp bt an rw nx og no rc nc hgh lws dh dl fT fB wd))) (va_Qi (fun (x : Int32) (v : Nat × (Nat → Int32)) => (∃ j, j < ct ∧ k = nI j ∧ x = 1 ∧ v = (ct - 1, dnF nm (7 * j) (7 * (ct - 1)))) ∨ (x = 0 ∧ (∀ j, j < ct → k ≠ nI j) ∧ v = (ct, nm))) (fun v t => va_P (dC, dI) vwCl (mdW m0 aN aR aX aO aP aH aL aW cI cJ vn v.1 v.2 tp bt an rw nx og no rc nc hgh lws dh dl fT fB wd) t.heap ∧ va_K (dC, dI) vwCl [(cI, .int), (cJ, .long)] t ∧ va_D (va_A (mdW m0 aN aR aX aO aP aH aL aW cI cJ vn ct nm tp bt an rw nx og no rc nc hgh lws dh dl fT fB wd) sz) (mdW m0 aN aR aX aO aP aH aL aW cI cJ vn v.1 v.2 tp bt an rw nx og no rc nc hgh lws dh dl fT fB wd)) (va_A (mdW m0 aN aR aX aO aP aH aL aW cI cJ vn ct nm tp bt an rw nx og no rc nc hgh lws dh dl fT fB wd) sz)) 0 0 (va_A (mdW m0 aN aR aX aO aP aH aL aW cI cJ vn ct nm tp bt an rw nx og no rc nc hgh lws dh dl fT fB wd) sz) := by
  refine Met.ofW (cc := cX2_drop) (maxL := 3) (ret := (some .boolean)) (by decide) rfl ?_
  intro p e s m args below meth c s₁ B hml hv
  obtain ⟨rfl, hsz, hP, hK, hD0⟩ := hv
  have hx := B.exec
  have hb := B.bytes
  have hr := B.returns
  have hts := atoms_spec (ws := wsX2_drop) B.pre
  have hown : s.vm.findClass RX2 = some m.cls := findClass_of_methodNamed B.named
  subst hsz
  have hD := hD0.self (sz := s.heap.size)
  clear hD0
  generalize hAe : va_A (mdW m0 aN aR aX aO aP aH aL aW cI cJ vn ct nm tp bt an rw nx og no rc nc hgh lws dh dl fT fB wd) s.heap.size = A at hD ⊢
  have hA : ∀ q : Nat, s.heap.size ≤ q → A q := fun q h => by rw [← hAe]; exact Or.inr h
  have hl := lv_entry ([.ref m0, .int k]) (n := 3) (Nat.le_of_ble_eq_true rfl)
  rw [lg_entry_eq]
  generalize (lg_sl ([.ref m0, .int k]) ++ List.replicate (3 - (lg_sl ([.ref m0, .int k])).length) Slot.unset).toArray = ls at hl ⊢
  have hl : lv_has ls 3 [(0, .ref m0), (1, .int k)] := hl
  have hP : va_P (dC, dI) vwCl (mdW m0 aN aR aX aO aP aH aL aW cI cJ vn ct nm tp bt an rw nx og no rc nc hgh lws dh dl fT fB wd) s.heap := hP
  obtain ⟨H, hH⟩ : ∃ H, H = s.heap := ⟨_, rfl⟩
  have hS : va_S A s.heap H [] := by rw [hH]; exact va_S.rf
  rw [← hH] at hP ⊢
  refine lv_iload_n hx hb dX2_drop_0 rfl (lv_at hl 1 rfl) ?_
  refine lv_if_lt (tgt := 12) hx hb dX2_drop_1 (by decide) (fun c1 => ?_) (fun c1 => ?_)
  · refine lv_iconst (v := nI 0) hx hb dX2_drop_12 (by decide) ?_
    exact W.zret (v := (nI 0)) hx hb hr (by rfl) (fun t ht hW => ⟨⟨(nI 0), (ct, nm), rfl, Or.inr ⟨rfl, fun j hj q => by rw [q] at c1; exact nI_pos (by omega) c1, rfl⟩, by rw [ht]; exact hP, va_K.moved hW.alike hK, hD⟩, hS.F ht⟩) hS.2.2 dX2_drop_13
  · refine lv_iload_n hx hb dX2_drop_4 rfl (lv_at hl 1 rfl) ?_
    refine lv_aload_n hx hb dX2_drop_5 rfl (lv_at hl 0 rfl) ?_
    refine va_get (D := (dC, dI)) (ci := 2) (v := .int (nI ct)) (C := RX2) (T := TX2) (N := 19) hx hb hts (fun _ h => List.mem_cons_of_mem _ (List.mem_append_right _ h)) hown hK hP 0 rfl rfl 1 (by decide) (hts (.fieldLink RX2 39 "RankFinderModel" "count" "I") (List.mem_of_getElem? (i := 1) rfl)) (fun _ h9 => h9) rfl dX2_drop_6 ?_
    refine lv_icmp_lt (tgt := 14) hx hb dX2_drop_9 (by decide) (fun c2 => ?_) (fun c2 => ?_)
    · obtain ⟨j, hj, rfl, -⟩ := pk_mu c1 (Int32.not_le.mpr c2) (by omega)
      obtain ⟨cn, rfl⟩ : ∃ cn, ct = cn + 1 := ⟨ct - 1, by omega⟩
      refine lv_aload_n hx hb dX2_drop_14 rfl (lv_at hl 0 rfl) ?_
      refine lv_dup hx hb dX2_drop_15 rfl ?_
      refine va_get (D := (dC, dI)) (ci := 2) (v := .int (nI (cn + 1))) (C := RX2) (T := TX2) (N := 19) hx hb hts (fun _ h => List.mem_cons_of_mem _ (List.mem_append_right _ h)) hown hK hP 0 rfl rfl 1 (by decide) (hts (.fieldLink RX2 39 "RankFinderModel" "count" "I") (List.mem_of_getElem? (i := 1) rfl)) (fun _ h9 => h9) rfl dX2_drop_16 ?_
      refine lv_iconst (v := nI 1) hx hb dX2_drop_19 (by decide) ?_
      refine lv_isub hx hb dX2_drop_20 ?_
      refine lv_topi (fun z_1 ez_1 => ?_)
      obtain rfl : z_1 = nI cn := ez_1.trans (pk_sub (a := cn + 1) (b := 1) (by omega))
      refine va_put (D := (dC, dI)) (ci := 2) (v := .int (nI cn)) (ty := .int) (C := RX2) (T := TX2) (N := 19) hx hb hts (fun _ h => List.mem_cons_of_mem _ (List.mem_append_right _ h)) tyX2 tyX2_ok nmX2 hown hK hP hD hS 0 rfl rfl 1 (by decide) (hts (.fieldLink RX2 39 "RankFinderModel" "count" "I") (List.mem_of_getElem? (i := 1) rfl)) (fun _ h9 => h9) rfl (by decide +kernel) rfl rfl (Nat.le_of_ble_eq_true rfl) dX2_drop_21 (fun H locs hP hD hS => ?_)
      have hP : va_P (dC, dI) vwCl (mdW m0 aN aR aX aO aP aH aL aW cI cJ vn cn nm tp bt an rw nx og no rc nc hgh lws dh dl fT fB wd) H := hP
      have hD : va_D A (mdW m0 aN aR aX aO aP aH aL aW cI cJ vn cn nm tp bt an rw nx og no rc nc hgh lws dh dl fT fB wd) := hD
      refine lv_bipush (v := nI 7) hx hb dX2_drop_24 (by decide) ?_
      refine lv_iload_n hx hb dX2_drop_26 rfl (lv_at hl 1 rfl) ?_
      refine lv_imul hx hb dX2_drop_27 ?_
      refine lv_topi (fun z_2 ez_2 => ?_)
      obtain rfl : z_2 = nI (7 * j) := ez_2.trans (pk_mul 7 j)
      refine lv_istore_n (lv' := [(2, .int (nI (7 * j))), (0, .ref m0), (1, .int (nI j))]) hx hb dX2_drop_28 rfl hl (by decide) rfl (fun ls hl => ?_)
      have loop : ∀ (d i : Nat) (H : Heap) (locs : List Loc) (ls : Array Slot), i + d = 7 * cn → 7 * j ≤ i → va_P (dC, dI) vwCl (mdW m0 aN aR aX aO aP aH aL aW cI cJ vn cn (dnF nm (7 * j) i) tp bt an rw nx og no rc nc hgh lws dh dl fT fB wd) H → va_K (dC, dI) vwCl [(cI, .int), (cJ, .long)] s → va_D A (mdW m0 aN aR aX aO aP aH aL aW cI cJ vn cn (dnF nm (7 * j) i) tp bt an rw nx og no rc nc hgh lws dh dl fT fB wd) → va_S A s.heap H locs → lv_has ls 3 [(2, .int (nI i)), (0, .ref m0), (1, .int (nI j))] → W p l e (headSpec wsX2_drop ({ frames := 0, cells := 0, slots := 0, locals := 0 })).room s m #[.ref m0, .int (nI j)] below meth c H locs 0 0 (MQ below (va_Qi (fun (x : Int32) (v : Nat × (Nat → Int32)) => (∃ j9, j9 < cn + 1 ∧ nI j = nI j9 ∧ x = 1 ∧ v = (cn + 1 - 1, dnF nm (7 * j9) (7 * (cn + 1 - 1)))) ∨ (x = 0 ∧ (∀ j9, j9 < cn + 1 → nI j ≠ nI j9) ∧ v = (cn + 1, nm))) (fun v t => va_P (dC, dI) vwCl (mdW m0 aN aR aX aO aP aH aL aW cI cJ vn v.1 v.2 tp bt an rw nx og no rc nc hgh lws dh dl fT fB wd) t.heap ∧ va_K (dC, dI) vwCl [(cI, .int), (cJ, .long)] t ∧ va_D A (mdW m0 aN aR aX aO aP aH aL aW cI cJ vn v.1 v.2 tp bt an rw nx og no rc nc hgh lws dh dl fT fB wd)) A) #[.ref m0, .int (nI j)] s 0 0 A) (F0 m 29 ls []) := by
        clear hP hK hD hS hl
        intro d
        induction d with
        | zero =>
          intro i H locs ls hi hji hP hK hD hS hl
          refine lv_iload_n hx hb dX2_drop_29 rfl (lv_at hl 0 rfl) ?_
          refine lv_bipush (v := nI 7) hx hb dX2_drop_30 (by decide) ?_
          refine lv_aload_n hx hb dX2_drop_32 rfl (lv_at hl 1 rfl) ?_
          refine va_get (D := (dC, dI)) (ci := 2) (v := .int (nI cn)) (C := RX2) (T := TX2) (N := 19) hx hb hts (fun _ h => List.mem_cons_of_mem _ (List.mem_append_right _ h)) hown hK hP 0 rfl rfl 1 (by decide) (hts (.fieldLink RX2 39 "RankFinderModel" "count" "I") (List.mem_of_getElem? (i := 1) rfl)) (fun _ h9 => h9) rfl dX2_drop_33 ?_
          refine lv_imul hx hb dX2_drop_36 ?_
          refine lv_topi (fun z_1 ez_1 => ?_)
          obtain rfl : z_1 = nI (7 * cn) := ez_1.trans (pk_mul 7 cn)
          refine lv_icmp_ge (tgt := 61) hx hb dX2_drop_37 (by decide) (fun c3 => ?_) (fun c3 => ?_)
          · obtain rfl : i = 7 * cn := by omega
            refine lv_iconst (v := nI 1) hx hb dX2_drop_61 (by decide) ?_
            exact W.zret (v := (nI 1)) hx hb hr (by rfl) (fun t ht hW => ⟨⟨(nI 1), (cn, dnF nm (7 * j) (7 * cn)), rfl, Or.inl ⟨j, by omega, rfl, rfl, rfl⟩, by rw [ht]; exact hP, va_K.moved hW.alike hK, hD⟩, hS.F ht⟩) hS.2.2 dX2_drop_62
          · exact absurd (nI_le (by omega) (by omega)) c3
        | succ d ih =>
          intro i H locs ls hi hji hP hK hD hS hl
          refine lv_iload_n hx hb dX2_drop_29 rfl (lv_at hl 0 rfl) ?_
          refine lv_bipush (v := nI 7) hx hb dX2_drop_30 (by decide) ?_
          refine lv_aload_n hx hb dX2_drop_32 rfl (lv_at hl 1 rfl) ?_
          refine va_get (D := (dC, dI)) (ci := 2) (v := .int (nI cn)) (C := RX2) (T := TX2) (N := 19) hx hb hts (fun _ h => List.mem_cons_of_mem _ (List.mem_append_right _ h)) hown hK hP 0 rfl rfl 1 (by decide) (hts (.fieldLink RX2 39 "RankFinderModel" "count" "I") (List.mem_of_getElem? (i := 1) rfl)) (fun _ h9 => h9) rfl dX2_drop_33 ?_
          refine lv_imul hx hb dX2_drop_36 ?_
          refine lv_topi (fun z_1 ez_1 => ?_)
          obtain rfl : z_1 = nI (7 * cn) := ez_1.trans (pk_mul 7 cn)
          refine lv_icmp_ge (tgt := 61) hx hb dX2_drop_37 (by decide) (fun c3 => ?_) (fun c3 => ?_)
          · exact absurd c3 (nI_ge (by omega) (by omega))
          · refine lv_aload_n hx hb dX2_drop_40 rfl (lv_at hl 1 rfl) ?_
            refine va_get (D := (dC, dI)) (ci := 2) (v := .ref aN) (C := RX2) (T := TX2) (N := 19) hx hb hts (fun _ h => List.mem_cons_of_mem _ (List.mem_append_right _ h)) hown hK hP 0 rfl rfl 2 (by decide) (hts (.fieldLink RX2 13 "RankFinderModel" "numbers" "[I") (List.mem_of_getElem? (i := 2) rfl)) (fun _ h9 => h9) rfl dX2_drop_41 ?_
            refine lv_iload_n hx hb dX2_drop_44 rfl (lv_at hl 0 rfl) ?_
            refine lv_aload_n hx hb dX2_drop_45 rfl (lv_at hl 1 rfl) ?_
            refine va_get (D := (dC, dI)) (ci := 2) (v := .ref aN) (C := RX2) (T := TX2) (N := 19) hx hb hts (fun _ h => List.mem_cons_of_mem _ (List.mem_append_right _ h)) hown hK hP 0 rfl rfl 2 (by decide) (hts (.fieldLink RX2 13 "RankFinderModel" "numbers" "[I") (List.mem_of_getElem? (i := 2) rfl)) (fun _ h9 => h9) rfl dX2_drop_46 ?_
            refine lv_iload_n hx hb dX2_drop_49 rfl (lv_at hl 0 rfl) ?_
            refine lv_bipush (v := nI 7) hx hb dX2_drop_50 (by decide) ?_
            refine lv_iadd hx hb dX2_drop_52 ?_
            refine lv_topi (fun z_2 ez_2 => ?_)
            obtain rfl : z_2 = nI (i + 7) := ez_2.trans (nI_add i 7)
            refine na_iald hx hb hK hP 1 0 rfl rfl (show i + 7 < 56 by omega) (by decide) dX2_drop_53 ?_
            refine na_iast hx hb hK hP hD hS 1 0 rfl rfl (show i < 56 by omega) (by decide) dX2_drop_54 (fun H locs hP hD hS => ?_)
            have hP : va_P (dC, dI) vwCl (mdW m0 aN aR aX aO aP aH aL aW cI cJ vn cn (upd (dnF nm (7 * j) i) i ((dnF nm (7 * j) i) (i + 7))) tp bt an rw nx og no rc nc hgh lws dh dl fT fB wd) H := hP
            have hD : va_D A (mdW m0 aN aR aX aO aP aH aL aW cI cJ vn cn (upd (dnF nm (7 * j) i) i ((dnF nm (7 * j) i) (i + 7))) tp bt an rw nx og no rc nc hgh lws dh dl fT fB wd) := hD
            rw [dnF_s hji] at hP hD
            have hP : va_P (dC, dI) vwCl (mdW m0 aN aR aX aO aP aH aL aW cI cJ vn cn (dnF nm (7 * j) (i + 1)) tp bt an rw nx og no rc nc hgh lws dh dl fT fB wd) H := hP
            have hD : va_D A (mdW m0 aN aR aX aO aP aH aL aW cI cJ vn cn (dnF nm (7 * j) (i + 1)) tp bt an rw nx og no rc nc hgh lws dh dl fT fB wd) := hD
            refine lv_iinc (v := nI (i + 1)) (lv' := [(2, .int (nI (i + 1))), (0, .ref m0), (1, .int (nI j))]) hx hb dX2_drop_55 hl (k := 0) rfl (nI_1 _) (by decide) rfl (fun ls hl => ?_)
            refine lv_goto (tgt := 29) hx hb dX2_drop_58 (by decide) ?_
            exact ih (i + 1) H _ ls (by omega) (by omega) hP hK hD hS (lv_sub hl [0, 1, 2] rfl)
      exact loop (7 * cn - 7 * j) (7 * j) H _ ls (by omega) (Nat.le_refl _) (by rw [dnF_0]; exact hP) hK (by rw [dnF_0]; exact hD) hS (lv_sub hl [0, 1, 2] rfl)
    · refine lv_iconst (v := nI 0) hx hb dX2_drop_12 (by decide) ?_
      exact W.zret (v := (nI 0)) hx hb hr (by rfl) (fun t ht hW => ⟨⟨(nI 0), (ct, nm), rfl, Or.inr ⟨rfl, fun j hj q => by rw [q] at c2; exact c2 (nI_lt hj (by omega)), rfl⟩, by rw [ht]; exact hP, va_K.moved hW.alike hK, hD⟩, hS.F ht⟩) hS.2.2 dX2_drop_13
