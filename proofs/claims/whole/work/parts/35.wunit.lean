/-! ===== static methods over numbers; differenceByUnit, takeUnit ===== -/
theorem va_nilP {D : va_G} {cl : List vw_C} {H : Heap} : va_P D cl [] H := fun k q h => by simp at h
theorem va_nilD {A : Nat → Prop} : va_D A [] := ⟨fun i j p q h => by simp at h, fun k q h => by simp at h⟩
theorem va_nilA {A : Nat → Prop} {H0 H : Heap} {locs : List Loc} (hS : va_S A H0 H locs) (hA : ∀ q, H0.size ≤ q → A q) : ∀ q, va_A ([] : va_W) H.size q → A q := fun q h => by
  rcases h with ⟨k, e, h⟩ | h
  · simp at h
  · exact hA q (Nat.le_trans hS.1 h)
theorem va_keep {D : va_G} {cl : List vw_C} {ws : va_W} {H H1 : Heap} (hP : va_P D cl ws H) (hk : ∀ q : Nat, q < H.size → ¬ va_A ([] : va_W) H.size q → H1[q]? = H[q]?) : va_P D cl ws H1 := fun k q h => (hP k q h).kept (hk q.1 (hP k q h).lt (fun q9 => by
  rcases q9 with ⟨k, e, h9⟩ | h9
  · simp at h9
  · have := (hP k q h).lt; omega))
def sr (x : Int64) (k : Int32) : Int64 := x >>> (k.toInt64 &&& 63)
def sl (x : Int64) (k : Int32) : Int64 := x <<< (k.toInt64 &&& 63)
def ur (x : Int64) (k : Int32) : Int64 := (x.toUInt64 >>> (k.toInt64.toUInt64 &&& Int64.toUInt64 63)).toInt64
/-- highProduct -/
def hpM (a b : Int64) : Int64 := sr a (nI 32) * (b &&& 4294967295) + ur ((a &&& 4294967295) * (b &&& 4294967295)) (nI 32)
def hpF (a b : Int64) : Int64 := sr a (nI 32) * sr b (nI 32) + sr (hpM a b) (nI 32) + sr ((a &&& 4294967295) * sr b (nI 32) + (hpM a b &&& 4294967295)) (nI 32)
/-- differenceByUnit -/
def dbH (a b c d : Int64) : Int64 := if a * b + (-9223372036854775808) < c * d + (-9223372036854775808) then hpF a b - hpF c d - 1 else hpF a b - hpF c d
def dbF (tw : Int32) (iv a b c d : Int64) : Int64 := (ur (a * b - c * d) tw ||| sl (sl (dbH a b c d) (nI 1)) (nI 63 - tw)) * iv
/-- Long.bitCount -/
def bc1 (x : Int64) : Int64 := x - (ur x (nI 1) &&& 6148914691236517205)
def bc2 (x : Int64) : Int64 := (x &&& 3689348814741910323) + (ur x (nI 2) &&& 3689348814741910323)
def bc3 (x : Int64) : Int64 := (x + ur x (nI 4)) &&& 1085102592571150095
def bc4 (k : Nat) (x : Int64) : Int64 := x + ur x (nI k)
def bcF (x : Int64) : Int32 := (bc4 32 (bc4 16 (bc4 8 (bc3 (bc2 (bc1 x)))))).toInt32 &&& nI 127
/-- the inverse, round by round -/
def nwF (o : Int64) : Nat → Int64
  | 0 => o
  | k + 1 => nwF o k * (2 - o * nwF o k)
set_option maxHeartbeats 4000000 in
set_option maxRecDepth 100000 in
/-- highProduct(a, b) -/
theorem c_X0_highProduct (l : Launch) (dC : Nat → ClassId) (dI : Nat → Nat → Nat) (sz : Nat) (a b : Int64) : Met l yX0_highProduct wsX0_highProduct ({ frames := 0, cells := 0, slots := 0, locals := 0 }) (va_Pc [.long a, .long b] (fun U => U.heap.size = sz ∧ va_P (dC, dI) vwCl ([] : va_W) U.heap ∧ va_K (dC, dI) vwCl [] U ∧ va_D (fun _ => True) ([] : va_W))) (va_Ql (fun (x : Int64) (v : Unit) => x = hpF a b) (fun v t => va_P (dC, dI) vwCl ([] : va_W) t.heap ∧ va_K (dC, dI) vwCl [] t ∧ va_D (va_A ([] : va_W) sz) ([] : va_W)) (va_A ([] : va_W) sz)) 0 0 (va_A ([] : va_W) sz) := by
  refine Met.ofW (cc := cX0_highProduct) (maxL := 16) (ret := (some .long)) (by decide) rfl ?_
  intro p e s m args below meth c s₁ B hml hv
  obtain ⟨rfl, hsz, hP, hK, hD0⟩ := hv
  have hx := B.exec
  have hb := B.bytes
  have hr := B.returns
  have hts := atoms_spec (ws := wsX0_highProduct) B.pre
  have hown : s.vm.findClass RX0 = some m.cls := findClass_of_methodNamed B.named
  subst hsz
  have hD := hD0.self (sz := s.heap.size)
  clear hD0
  generalize hAe : va_A ([] : va_W) s.heap.size = A at hD ⊢
  have hA : ∀ q : Nat, s.heap.size ≤ q → A q := fun q h => by rw [← hAe]; exact Or.inr h
  have hl := lv_entry ([.long a, .long b]) (n := 16) (Nat.le_of_ble_eq_true rfl)
  rw [lg_entry_eq]
  generalize (lg_sl ([.long a, .long b]) ++ List.replicate (16 - (lg_sl ([.long a, .long b])).length) Slot.unset).toArray = ls at hl ⊢
  have hl : lv_has ls 16 [(0, .long a), (2, .long b)] := hl
  have hP : va_P (dC, dI) vwCl ([] : va_W) s.heap := hP
  obtain ⟨H, hH⟩ : ∃ H, H = s.heap := ⟨_, rfl⟩
  have hS : va_S A s.heap H [] := by rw [hH]; exact va_S.rf
  rw [← hH] at hP ⊢
  refine lv_lload_n hx hb dX0_highProduct_0 rfl (lv_at hl 0 rfl) ?_
  refine lv_bipush (v := nI 32) hx hb dX0_highProduct_1 (by decide) ?_
  refine lv_lshr hx hb dX0_highProduct_3 rfl ?_
  refine lv_lstore (lv' := [(4, .long (a >>> (Int32.toInt64 (nI 32) &&& 63))), (0, .long a), (2, .long b)]) hx hb dX0_highProduct_4 hl (by decide) rfl (fun ls hl => ?_)
  refine lv_lload_n hx hb dX0_highProduct_6 rfl (lv_at hl 1 rfl) ?_
  refine lv_ldc2 (v := 4294967295) hx hb hown (hts (.constantLong RX0 115 (4294967295)) (List.mem_of_getElem? (i := 1) rfl)) dX0_highProduct_7 ?_
  refine lv_land hx hb dX0_highProduct_10 ?_
  refine lv_lstore (lv' := [(6, .long (a &&& 4294967295)), (4, .long (a >>> (Int32.toInt64 (nI 32) &&& 63))), (0, .long a), (2, .long b)]) hx hb dX0_highProduct_11 hl (by decide) rfl (fun ls hl => ?_)
  refine lv_lload_n hx hb dX0_highProduct_13 rfl (lv_at hl 3 rfl) ?_
  refine lv_bipush (v := nI 32) hx hb dX0_highProduct_14 (by decide) ?_
  refine lv_lshr hx hb dX0_highProduct_16 rfl ?_
  refine lv_lstore (lv' := [(8, .long (b >>> (Int32.toInt64 (nI 32) &&& 63))), (6, .long (a &&& 4294967295)), (4, .long (a >>> (Int32.toInt64 (nI 32) &&& 63))), (0, .long a), (2, .long b)]) hx hb dX0_highProduct_17 hl (by decide) rfl (fun ls hl => ?_)
  refine lv_lload_n hx hb dX0_highProduct_19 rfl (lv_at hl 4 rfl) ?_
  refine lv_ldc2 (v := 4294967295) hx hb hown (hts (.constantLong RX0 115 (4294967295)) (List.mem_of_getElem? (i := 1) rfl)) dX0_highProduct_20 ?_
  refine lv_land hx hb dX0_highProduct_23 ?_
  refine lv_lstore (lv' := [(10, .long (b &&& 4294967295)), (8, .long (b >>> (Int32.toInt64 (nI 32) &&& 63))), (6, .long (a &&& 4294967295)), (4, .long (a >>> (Int32.toInt64 (nI 32) &&& 63))), (0, .long a), (2, .long b)]) hx hb dX0_highProduct_24 hl (by decide) rfl (fun ls hl => ?_)
  refine lv_lload hx hb dX0_highProduct_26 (lv_at hl 3 rfl) ?_
  refine lv_lload hx hb dX0_highProduct_28 (lv_at hl 0 rfl) ?_
  refine lv_lmul hx hb dX0_highProduct_30 ?_
  refine lv_lload hx hb dX0_highProduct_31 (lv_at hl 2 rfl) ?_
  refine lv_lload hx hb dX0_highProduct_33 (lv_at hl 0 rfl) ?_
  refine lv_lmul hx hb dX0_highProduct_35 ?_
  refine lv_bipush (v := nI 32) hx hb dX0_highProduct_36 (by decide) ?_
  refine lv_lushr hx hb dX0_highProduct_38 rfl ?_
  refine lv_ladd hx hb dX0_highProduct_39 ?_
  refine lv_lstore (lv' := [(12, .long (((a >>> (Int32.toInt64 (nI 32) &&& 63)) * (b &&& 4294967295)) + ((Int64.toUInt64 ((a &&& 4294967295) * (b &&& 4294967295)) >>> ((Int32.toInt64 (nI 32)).toUInt64 &&& Int64.toUInt64 63)).toInt64))), (10, .long (b &&& 4294967295)), (8, .long (b >>> (Int32.toInt64 (nI 32) &&& 63))), (6, .long (a &&& 4294967295)), (4, .long (a >>> (Int32.toInt64 (nI 32) &&& 63))), (0, .long a), (2, .long b)]) hx hb dX0_highProduct_40 hl (by decide) rfl (fun ls hl => ?_)
  refine lv_lload hx hb dX0_highProduct_42 (lv_at hl 3 rfl) ?_
  refine lv_lload hx hb dX0_highProduct_44 (lv_at hl 2 rfl) ?_
  refine lv_lmul hx hb dX0_highProduct_46 ?_
  refine lv_lload hx hb dX0_highProduct_47 (lv_at hl 0 rfl) ?_
  refine lv_ldc2 (v := 4294967295) hx hb hown (hts (.constantLong RX0 115 (4294967295)) (List.mem_of_getElem? (i := 1) rfl)) dX0_highProduct_49 ?_
  refine lv_land hx hb dX0_highProduct_52 ?_
  refine lv_ladd hx hb dX0_highProduct_53 ?_
  refine lv_lstore (lv' := [(14, .long (((a &&& 4294967295) * (b >>> (Int32.toInt64 (nI 32) &&& 63))) + ((((a >>> (Int32.toInt64 (nI 32) &&& 63)) * (b &&& 4294967295)) + ((Int64.toUInt64 ((a &&& 4294967295) * (b &&& 4294967295)) >>> ((Int32.toInt64 (nI 32)).toUInt64 &&& Int64.toUInt64 63)).toInt64)) &&& 4294967295))), (12, .long (((a >>> (Int32.toInt64 (nI 32) &&& 63)) * (b &&& 4294967295)) + ((Int64.toUInt64 ((a &&& 4294967295) * (b &&& 4294967295)) >>> ((Int32.toInt64 (nI 32)).toUInt64 &&& Int64.toUInt64 63)).toInt64))), (10, .long (b &&& 4294967295)), (8, .long (b >>> (Int32.toInt64 (nI 32) &&& 63))), (6, .long (a &&& 4294967295)), (4, .long (a >>> (Int32.toInt64 (nI 32) &&& 63))), (0, .long a), (2, .long b)]) hx hb dX0_highProduct_54 hl (by decide) rfl (fun ls hl => ?_)
  refine lv_lload hx hb dX0_highProduct_56 (lv_at hl 5 rfl) ?_
  refine lv_lload hx hb dX0_highProduct_58 (lv_at hl 3 rfl) ?_
  refine lv_lmul hx hb dX0_highProduct_60 ?_
  refine lv_lload hx hb dX0_highProduct_61 (lv_at hl 1 rfl) ?_
  refine lv_bipush (v := nI 32) hx hb dX0_highProduct_63 (by decide) ?_
  refine lv_lshr hx hb dX0_highProduct_65 rfl ?_
  refine lv_ladd hx hb dX0_highProduct_66 ?_
  refine lv_lload hx hb dX0_highProduct_67 (lv_at hl 0 rfl) ?_
  refine lv_bipush (v := nI 32) hx hb dX0_highProduct_69 (by decide) ?_
  refine lv_lshr hx hb dX0_highProduct_71 rfl ?_
  refine lv_ladd hx hb dX0_highProduct_72 ?_
  exact W.lret (v := ((((a >>> (Int32.toInt64 (nI 32) &&& 63)) * (b >>> (Int32.toInt64 (nI 32) &&& 63))) + ((((a >>> (Int32.toInt64 (nI 32) &&& 63)) * (b &&& 4294967295)) + ((Int64.toUInt64 ((a &&& 4294967295) * (b &&& 4294967295)) >>> ((Int32.toInt64 (nI 32)).toUInt64 &&& Int64.toUInt64 63)).toInt64)) >>> (Int32.toInt64 (nI 32) &&& 63))) + ((((a &&& 4294967295) * (b >>> (Int32.toInt64 (nI 32) &&& 63))) + ((((a >>> (Int32.toInt64 (nI 32) &&& 63)) * (b &&& 4294967295)) + ((Int64.toUInt64 ((a &&& 4294967295) * (b &&& 4294967295)) >>> ((Int32.toInt64 (nI 32)).toUInt64 &&& Int64.toUInt64 63)).toInt64)) &&& 4294967295)) >>> (Int32.toInt64 (nI 32) &&& 63)))) hx hb hr (fun t ht hW => ⟨⟨((((a >>> (Int32.toInt64 (nI 32) &&& 63)) * (b >>> (Int32.toInt64 (nI 32) &&& 63))) + ((((a >>> (Int32.toInt64 (nI 32) &&& 63)) * (b &&& 4294967295)) + ((Int64.toUInt64 ((a &&& 4294967295) * (b &&& 4294967295)) >>> ((Int32.toInt64 (nI 32)).toUInt64 &&& Int64.toUInt64 63)).toInt64)) >>> (Int32.toInt64 (nI 32) &&& 63))) + ((((a &&& 4294967295) * (b >>> (Int32.toInt64 (nI 32) &&& 63))) + ((((a >>> (Int32.toInt64 (nI 32) &&& 63)) * (b &&& 4294967295)) + ((Int64.toUInt64 ((a &&& 4294967295) * (b &&& 4294967295)) >>> ((Int32.toInt64 (nI 32)).toUInt64 &&& Int64.toUInt64 63)).toInt64)) &&& 4294967295)) >>> (Int32.toInt64 (nI 32) &&& 63))), (), rfl, rfl, by rw [ht]; exact hP, va_K.moved hW.alike hK, hD⟩, hS.F ht⟩) hS.2.2 dX0_highProduct_73
set_option maxHeartbeats 4000000 in
set_option maxRecDepth 100000 in
/-- Long.bitCount(a) -/
theorem c_J13_bitCount (l : Launch) (dC : Nat → ClassId) (dI : Nat → Nat → Nat) (sz : Nat) (a : Int64) : Met l yJ13_bitCount_95d88 wsJ13_bitCount_95d88 ({ frames := 0, cells := 0, slots := 0, locals := 0 }) (va_Pc [.long a] (fun U => U.heap.size = sz ∧ va_P (dC, dI) vwCl ([] : va_W) U.heap ∧ va_K (dC, dI) vwCl [] U ∧ va_D (fun _ => True) ([] : va_W))) (va_Qi (fun (x : Int32) (v : Unit) => x = bcF a) (fun v t => va_P (dC, dI) vwCl ([] : va_W) t.heap ∧ va_K (dC, dI) vwCl [] t ∧ va_D (va_A ([] : va_W) sz) ([] : va_W)) (va_A ([] : va_W) sz)) 0 0 (va_A ([] : va_W) sz) := by
  refine Met.ofW (cc := cJ13_bitCount_95d88) (maxL := 2) (ret := (some .int)) (by decide) rfl ?_
  intro p e s m args below meth c s₁ B hml hv
  obtain ⟨rfl, hsz, hP, hK, hD0⟩ := hv
  have hx := B.exec
  have hb := B.bytes
  have hr := B.returns
  have hts := atoms_spec (ws := wsJ13_bitCount_95d88) B.pre
  have hown : s.vm.findClass RJ13 = some m.cls := findClass_of_methodNamed B.named
  subst hsz
  have hD := hD0.self (sz := s.heap.size)
  clear hD0
  generalize hAe : va_A ([] : va_W) s.heap.size = A at hD ⊢
  have hA : ∀ q : Nat, s.heap.size ≤ q → A q := fun q h => by rw [← hAe]; exact Or.inr h
  have hl := lv_entry ([.long a]) (n := 2) (Nat.le_of_ble_eq_true rfl)
  rw [lg_entry_eq]
  generalize (lg_sl ([.long a]) ++ List.replicate (2 - (lg_sl ([.long a])).length) Slot.unset).toArray = ls at hl ⊢
  have hl : lv_has ls 2 [(0, .long a)] := hl
  have hP : va_P (dC, dI) vwCl ([] : va_W) s.heap := hP
  obtain ⟨H, hH⟩ : ∃ H, H = s.heap := ⟨_, rfl⟩
  have hS : va_S A s.heap H [] := by rw [hH]; exact va_S.rf
  rw [← hH] at hP ⊢
  refine lv_lload_n hx hb dJ13_bitCount_95d88_0 rfl (lv_at hl 0 rfl) ?_
  refine lv_lload_n hx hb dJ13_bitCount_95d88_1 rfl (lv_at hl 0 rfl) ?_
  refine lv_iconst (v := nI 1) hx hb dJ13_bitCount_95d88_2 (by decide) ?_
  refine lv_lushr hx hb dJ13_bitCount_95d88_3 rfl ?_
  refine lv_ldc2 (v := 6148914691236517205) hx hb hown (hts (.constantLong RJ13 314 (6148914691236517205)) (List.mem_of_getElem? (i := 1) rfl)) dJ13_bitCount_95d88_4 ?_
  refine lv_land hx hb dJ13_bitCount_95d88_7 ?_
  refine lv_lsub hx hb dJ13_bitCount_95d88_8 ?_
  refine lv_topl (fun y_1 ey_1 => ?_)
  refine lv_lstore_n (lv' := [(0, .long y_1)]) hx hb dJ13_bitCount_95d88_9 rfl hl (by decide) rfl (fun ls hl => ?_)
  refine lv_lload_n hx hb dJ13_bitCount_95d88_10 rfl (lv_at hl 0 rfl) ?_
  refine lv_ldc2 (v := 3689348814741910323) hx hb hown (hts (.constantLong RJ13 316 (3689348814741910323)) (List.mem_of_getElem? (i := 2) rfl)) dJ13_bitCount_95d88_11 ?_
  refine lv_land hx hb dJ13_bitCount_95d88_14 ?_
  refine lv_lload_n hx hb dJ13_bitCount_95d88_15 rfl (lv_at hl 0 rfl) ?_
  refine lv_iconst (v := nI 2) hx hb dJ13_bitCount_95d88_16 (by decide) ?_
  refine lv_lushr hx hb dJ13_bitCount_95d88_17 rfl ?_
  refine lv_ldc2 (v := 3689348814741910323) hx hb hown (hts (.constantLong RJ13 316 (3689348814741910323)) (List.mem_of_getElem? (i := 2) rfl)) dJ13_bitCount_95d88_18 ?_
  refine lv_land hx hb dJ13_bitCount_95d88_21 ?_
  refine lv_ladd hx hb dJ13_bitCount_95d88_22 ?_
  refine lv_topl (fun y_2 ey_2 => ?_)
  refine lv_lstore_n (lv' := [(0, .long y_2)]) hx hb dJ13_bitCount_95d88_23 rfl hl (by decide) rfl (fun ls hl => ?_)
  refine lv_lload_n hx hb dJ13_bitCount_95d88_24 rfl (lv_at hl 0 rfl) ?_
  refine lv_lload_n hx hb dJ13_bitCount_95d88_25 rfl (lv_at hl 0 rfl) ?_
  refine lv_iconst (v := nI 4) hx hb dJ13_bitCount_95d88_26 (by decide) ?_
  refine lv_lushr hx hb dJ13_bitCount_95d88_27 rfl ?_
  refine lv_ladd hx hb dJ13_bitCount_95d88_28 ?_
  refine lv_ldc2 (v := 1085102592571150095) hx hb hown (hts (.constantLong RJ13 318 (1085102592571150095)) (List.mem_of_getElem? (i := 3) rfl)) dJ13_bitCount_95d88_29 ?_
  refine lv_land hx hb dJ13_bitCount_95d88_32 ?_
  refine lv_topl (fun y_3 ey_3 => ?_)
  refine lv_lstore_n (lv' := [(0, .long y_3)]) hx hb dJ13_bitCount_95d88_33 rfl hl (by decide) rfl (fun ls hl => ?_)
  refine lv_lload_n hx hb dJ13_bitCount_95d88_34 rfl (lv_at hl 0 rfl) ?_
  refine lv_lload_n hx hb dJ13_bitCount_95d88_35 rfl (lv_at hl 0 rfl) ?_
  refine lv_bipush (v := nI 8) hx hb dJ13_bitCount_95d88_36 (by decide) ?_
  refine lv_lushr hx hb dJ13_bitCount_95d88_38 rfl ?_
  refine lv_ladd hx hb dJ13_bitCount_95d88_39 ?_
  refine lv_topl (fun y_4 ey_4 => ?_)
  refine lv_lstore_n (lv' := [(0, .long y_4)]) hx hb dJ13_bitCount_95d88_40 rfl hl (by decide) rfl (fun ls hl => ?_)
  refine lv_lload_n hx hb dJ13_bitCount_95d88_41 rfl (lv_at hl 0 rfl) ?_
  refine lv_lload_n hx hb dJ13_bitCount_95d88_42 rfl (lv_at hl 0 rfl) ?_
  refine lv_bipush (v := nI 16) hx hb dJ13_bitCount_95d88_43 (by decide) ?_
  refine lv_lushr hx hb dJ13_bitCount_95d88_45 rfl ?_
  refine lv_ladd hx hb dJ13_bitCount_95d88_46 ?_
  refine lv_topl (fun y_5 ey_5 => ?_)
  refine lv_lstore_n (lv' := [(0, .long y_5)]) hx hb dJ13_bitCount_95d88_47 rfl hl (by decide) rfl (fun ls hl => ?_)
  refine lv_lload_n hx hb dJ13_bitCount_95d88_48 rfl (lv_at hl 0 rfl) ?_
  refine lv_lload_n hx hb dJ13_bitCount_95d88_49 rfl (lv_at hl 0 rfl) ?_
  refine lv_bipush (v := nI 32) hx hb dJ13_bitCount_95d88_50 (by decide) ?_
  refine lv_lushr hx hb dJ13_bitCount_95d88_52 rfl ?_
  refine lv_ladd hx hb dJ13_bitCount_95d88_53 ?_
  refine lv_topl (fun y_6 ey_6 => ?_)
  refine lv_lstore_n (lv' := [(0, .long y_6)]) hx hb dJ13_bitCount_95d88_54 rfl hl (by decide) rfl (fun ls hl => ?_)
  refine lv_lload_n hx hb dJ13_bitCount_95d88_55 rfl (lv_at hl 0 rfl) ?_
  refine lv_l2i hx hb dJ13_bitCount_95d88_56 rfl ?_
  refine lv_bipush (v := nI 127) hx hb dJ13_bitCount_95d88_57 (by decide) ?_
  refine lv_iand hx hb dJ13_bitCount_95d88_59 ?_
  exact W.iret (v := ((Int64.toInt32 y_6) &&& (nI 127))) hx hb hr (fun t ht hW => ⟨⟨((Int64.toInt32 y_6) &&& (nI 127)), (), rfl, by rw [ey_6, ey_5, ey_4, ey_3, ey_2, ey_1]; rfl, by rw [ht]; exact hP, va_K.moved hW.alike hK, hD⟩, hS.F ht⟩) hS.2.2 dJ13_bitCount_95d88_60
set_option maxHeartbeats 4000000 in
set_option maxRecDepth 100000 in
/-- differenceByUnit(a, b, c, d) -/
theorem c_X0_differenceByUnit (l : Launch) (dC : Nat → ClassId) (dI : Nat → Nat → Nat) (h0 qc qh : Nat) (r : Nat → Nat) (cA cI cJ : ClassId) (sz : Nat) (me nw : Nat) (u : Int64) (tw : Int32) (iv : Int64) (hd : Nat → Int32) (M : Nat → Nat → Int64) (a b c d : Int64) : Met l yX0_differenceByUnit wsX0_differenceByUnit ({ frames := 1, cells := 0, slots := 0, locals := 35 }) (va_Pc [.ref h0, .long a, .long b, .long c, .long d] (fun U => U.heap.size = sz ∧ va_P (dC, dI) vwCl (wgW h0 qc qh r cA cI cJ me nw u tw iv hd M) U.heap ∧ va_K (dC, dI) vwCl (wgT cA cI cJ) U ∧ va_D (fun _ => True) (wgW h0 qc qh r cA cI cJ me nw u tw iv hd M))) (va_Ql (fun (x : Int64) (v : Unit) => x = dbF tw iv a b c d) (fun v t => va_P (dC, dI) vwCl (wgW h0 qc qh r cA cI cJ me nw u tw iv hd M) t.heap ∧ va_K (dC, dI) vwCl (wgT cA cI cJ) t ∧ va_D (va_A (wgW h0 qc qh r cA cI cJ me nw u tw iv hd M) sz) (wgW h0 qc qh r cA cI cJ me nw u tw iv hd M)) (va_A (wgW h0 qc qh r cA cI cJ me nw u tw iv hd M) sz)) 0 0 (va_A (wgW h0 qc qh r cA cI cJ me nw u tw iv hd M) sz) := by
  refine Met.ofW (cc := cX0_differenceByUnit) (maxL := 19) (ret := (some .long)) (by decide) rfl ?_
  intro p e s m args below meth cx s₁ B hml hv
  obtain ⟨rfl, hsz, hP, hK, hD0⟩ := hv
  have hx := B.exec
  have hb := B.bytes
  have hr := B.returns
  have hts := atoms_spec (ws := wsX0_differenceByUnit) B.pre
  have hown : s.vm.findClass RX0 = some m.cls := findClass_of_methodNamed B.named
  subst hsz
  have hD := hD0.self (sz := s.heap.size)
  clear hD0
  generalize hAe : va_A (wgW h0 qc qh r cA cI cJ me nw u tw iv hd M) s.heap.size = A at hD ⊢
  have hA : ∀ q : Nat, s.heap.size ≤ q → A q := fun q h => by rw [← hAe]; exact Or.inr h
  have hl := lv_entry ([.ref h0, .long a, .long b, .long c, .long d]) (n := 19) (Nat.le_of_ble_eq_true rfl)
  rw [lg_entry_eq]
  generalize (lg_sl ([.ref h0, .long a, .long b, .long c, .long d]) ++ List.replicate (19 - (lg_sl ([.ref h0, .long a, .long b, .long c, .long d])).length) Slot.unset).toArray = ls at hl ⊢
  have hl : lv_has ls 19 [(0, .ref h0), (1, .long a), (3, .long b), (5, .long c), (7, .long d)] := hl
  have hP : va_P (dC, dI) vwCl (wgW h0 qc qh r cA cI cJ me nw u tw iv hd M) s.heap := hP
  obtain ⟨H, hH⟩ : ∃ H, H = s.heap := ⟨_, rfl⟩
  have hS : va_S A s.heap H [] := by rw [hH]; exact va_S.rf
  rw [← hH] at hP ⊢
  refine lv_lload_n hx hb dX0_differenceByUnit_0 rfl (lv_at hl 1 rfl) ?_
  refine lv_lload_n hx hb dX0_differenceByUnit_1 rfl (lv_at hl 2 rfl) ?_
  refine lv_lmul hx hb dX0_differenceByUnit_2 ?_
  refine lv_lstore (lv' := [(9, .long (a * b)), (0, .ref h0), (1, .long a), (3, .long b), (5, .long c), (7, .long d)]) hx hb dX0_differenceByUnit_3 hl (by decide) rfl (fun ls hl => ?_)
  refine lv_lload hx hb dX0_differenceByUnit_5 (lv_at hl 4 rfl) ?_
  refine lv_lload hx hb dX0_differenceByUnit_7 (lv_at hl 5 rfl) ?_
  refine lv_lmul hx hb dX0_differenceByUnit_9 ?_
  refine lv_lstore (lv' := [(11, .long (c * d)), (9, .long (a * b)), (0, .ref h0), (1, .long a), (3, .long b), (5, .long c), (7, .long d)]) hx hb dX0_differenceByUnit_10 hl (by decide) rfl (fun ls hl => ?_)
  refine lv_lload hx hb dX0_differenceByUnit_12 (lv_at hl 1 rfl) ?_
  refine lv_lload hx hb dX0_differenceByUnit_14 (lv_at hl 0 rfl) ?_
  refine lv_lsub hx hb dX0_differenceByUnit_16 ?_
  refine lv_lstore (lv' := [(13, .long ((a * b) - (c * d))), (11, .long (c * d)), (9, .long (a * b)), (0, .ref h0), (1, .long a), (3, .long b), (5, .long c), (7, .long d)]) hx hb dX0_differenceByUnit_17 hl (by decide) rfl (fun ls hl => ?_)
  refine lv_lload_n hx hb dX0_differenceByUnit_19 rfl (lv_at hl 4 rfl) ?_
  refine lv_lload_n hx hb dX0_differenceByUnit_20 rfl (lv_at hl 5 rfl) ?_
  have hFc : ∀ q, va_A ([] : va_W) H.size q → A q := fun q h => va_nilA hS hA q h
  refine va_calll (va_runS (As := [.long a, .long b]) (rest := []) ⟨hx, hb, hml, hown, hts⟩ (c_X0_highProduct l dC dI H.size a b) (va_cwS 2 hts gX0_differenceByUnit_X0_highProduct rfl rfl rfl (by decide +kernel) ⟨Nat.le_of_ble_eq_true rfl, Nat.le_of_ble_eq_true rfl⟩) ⟨fun a U g mk q => by obtain ⟨q0, q1, qP, qK, qD⟩ := q; exact ⟨q0, q1, qP, va_K.moved (u := U) (U := U.calling g mk a) (Vm.Alike.refl U.vm) qK, qD⟩, fun U hU hW => ⟨rfl, by rw [hU], va_nilP, va_K.moved hW.alike (hK.sub (tys' := []) [] rfl), va_nilD⟩⟩ rfl rfl hl.1 rfl (lv_room (Nat.le_of_ble_eq_true rfl)) dX0_differenceByUnit_21 ⟨(Nat.zero_le _), (Nat.zero_le _)⟩) hS (fun q _ h => hFc q h) hFc (fun r_21 v9 t H1 locs ht hvm hw hB hz1 hk1 hS => ?_)
  have hP := va_keep hP hk1
  clear hB hk1 hz1 ht hvm hFc
  generalize H1 = H at hP hS ⊢
  subst hw
  refine lv_lload hx hb dX0_differenceByUnit_24 (lv_at hl 6 rfl) ?_
  refine lv_lload hx hb dX0_differenceByUnit_26 (lv_at hl 7 rfl) ?_
  have hFc : ∀ q, va_A ([] : va_W) H.size q → A q := fun q h => va_nilA hS hA q h
  refine va_calll (va_runS (As := [.long c, .long d]) (rest := [.long (hpF a b)]) ⟨hx, hb, hml, hown, hts⟩ (c_X0_highProduct l dC dI H.size c d) (va_cwS 2 hts gX0_differenceByUnit_X0_highProduct rfl rfl rfl (by decide +kernel) ⟨Nat.le_of_ble_eq_true rfl, Nat.le_of_ble_eq_true rfl⟩) ⟨fun a U g mk q => by obtain ⟨q0, q1, qP, qK, qD⟩ := q; exact ⟨q0, q1, qP, va_K.moved (u := U) (U := U.calling g mk a) (Vm.Alike.refl U.vm) qK, qD⟩, fun U hU hW => ⟨rfl, by rw [hU], va_nilP, va_K.moved hW.alike (hK.sub (tys' := []) [] rfl), va_nilD⟩⟩ rfl rfl hl.1 rfl (lv_room (Nat.le_of_ble_eq_true rfl)) dX0_differenceByUnit_28 ⟨(Nat.zero_le _), (Nat.zero_le _)⟩) hS (fun q _ h => hFc q h) hFc (fun r_28 v9 t H1 locs ht hvm hw hB hz1 hk1 hS => ?_)
  have hP := va_keep hP hk1
  clear hB hk1 hz1 ht hvm hFc
  generalize H1 = H at hP hS ⊢
  subst hw
  refine lv_lsub hx hb dX0_differenceByUnit_31 ?_
  refine lv_lstore (lv' := [(15, .long ((hpF a b) - (hpF c d))), (13, .long ((a * b) - (c * d))), (11, .long (c * d)), (9, .long (a * b)), (0, .ref h0), (1, .long a), (3, .long b), (5, .long c), (7, .long d)]) hx hb dX0_differenceByUnit_32 hl (by decide) rfl (fun ls hl => ?_)
  refine lv_lload hx hb dX0_differenceByUnit_34 (lv_at hl 3 rfl) ?_
  refine lv_ldc2 (v := (-9223372036854775808)) hx hb hown (hts (.constantLong RX0 113 (-9223372036854775808)) (List.mem_of_getElem? (i := 1) rfl)) dX0_differenceByUnit_36 ?_
  refine lv_ladd hx hb dX0_differenceByUnit_39 ?_
  refine lv_lload hx hb dX0_differenceByUnit_40 (lv_at hl 2 rfl) ?_
  refine lv_ldc2 (v := (-9223372036854775808)) hx hb hown (hts (.constantLong RX0 113 (-9223372036854775808)) (List.mem_of_getElem? (i := 1) rfl)) dX0_differenceByUnit_42 ?_
  refine lv_ladd hx hb dX0_differenceByUnit_45 ?_
  refine W.lcmp hx hb dX0_differenceByUnit_46 ?_
  refine lv_if_ge (tgt := 56) hx hb dX0_differenceByUnit_47 (by decide) (fun c1 => ?_) (fun c1 => ?_)
  · rw [lg_cmp_ge] at c1
    refine lv_lload hx hb dX0_differenceByUnit_56 (lv_at hl 1 rfl) ?_
    refine lv_aload_n hx hb dX0_differenceByUnit_58 rfl (lv_at hl 4 rfl) ?_
    refine va_get (D := (dC, dI)) (ci := 0) (v := .int tw) (C := RX0) (T := TX0) (N := 7) hx hb hts (fun _ h => List.mem_cons_of_mem _ (List.mem_append_right _ h)) hown hK hP 0 rfl rfl 5 (by decide) (hts (.fieldLink RX0 31 "RankFinder$Weighing" "unitTwos" "I") (List.mem_of_getElem? (i := 2) rfl)) (fun _ h9 => h9) rfl dX0_differenceByUnit_59 ?_
    refine lv_lushr hx hb dX0_differenceByUnit_62 rfl ?_
    refine lv_lload hx hb dX0_differenceByUnit_63 (lv_at hl 0 rfl) ?_
    refine lv_iconst (v := nI 1) hx hb dX0_differenceByUnit_65 (by decide) ?_
    refine lv_lshl hx hb dX0_differenceByUnit_66 rfl ?_
    refine lv_bipush (v := nI 63) hx hb dX0_differenceByUnit_67 (by decide) ?_
    refine lv_aload_n hx hb dX0_differenceByUnit_69 rfl (lv_at hl 4 rfl) ?_
    refine va_get (D := (dC, dI)) (ci := 0) (v := .int tw) (C := RX0) (T := TX0) (N := 7) hx hb hts (fun _ h => List.mem_cons_of_mem _ (List.mem_append_right _ h)) hown hK hP 0 rfl rfl 5 (by decide) (hts (.fieldLink RX0 31 "RankFinder$Weighing" "unitTwos" "I") (List.mem_of_getElem? (i := 2) rfl)) (fun _ h9 => h9) rfl dX0_differenceByUnit_70 ?_
    refine lv_isub hx hb dX0_differenceByUnit_73 ?_
    refine lv_lshl hx hb dX0_differenceByUnit_74 rfl ?_
    refine lv_lor hx hb dX0_differenceByUnit_75 ?_
    refine lv_lstore (lv' := [(17, .long (((Int64.toUInt64 ((a * b) - (c * d)) >>> ((Int32.toInt64 tw).toUInt64 &&& Int64.toUInt64 63)).toInt64) ||| ((((hpF a b) - (hpF c d)) <<< (Int32.toInt64 (nI 1) &&& 63)) <<< (Int32.toInt64 ((nI 63) - tw) &&& 63)))), (15, .long ((hpF a b) - (hpF c d))), (13, .long ((a * b) - (c * d))), (11, .long (c * d)), (9, .long (a * b)), (0, .ref h0), (1, .long a), (3, .long b), (5, .long c), (7, .long d)]) hx hb dX0_differenceByUnit_76 hl (by decide) rfl (fun ls hl => ?_)
    refine lv_lload hx hb dX0_differenceByUnit_78 (lv_at hl 0 rfl) ?_
    refine lv_aload_n hx hb dX0_differenceByUnit_80 rfl (lv_at hl 5 rfl) ?_
    refine va_get (D := (dC, dI)) (ci := 0) (v := .long iv) (C := RX0) (T := TX0) (N := 7) hx hb hts (fun _ h => List.mem_cons_of_mem _ (List.mem_append_right _ h)) hown hK hP 0 rfl rfl 6 (by decide) (hts (.fieldLink RX0 34 "RankFinder$Weighing" "unitInverse" "J") (List.mem_of_getElem? (i := 3) rfl)) (fun _ h9 => h9) rfl dX0_differenceByUnit_81 ?_
    refine lv_lmul hx hb dX0_differenceByUnit_84 ?_
    exact W.lret (v := ((((Int64.toUInt64 ((a * b) - (c * d)) >>> ((Int32.toInt64 tw).toUInt64 &&& Int64.toUInt64 63)).toInt64) ||| ((((hpF a b) - (hpF c d)) <<< (Int32.toInt64 (nI 1) &&& 63)) <<< (Int32.toInt64 ((nI 63) - tw) &&& 63))) * iv)) hx hb hr (fun t ht hW => ⟨⟨((((Int64.toUInt64 ((a * b) - (c * d)) >>> ((Int32.toInt64 tw).toUInt64 &&& Int64.toUInt64 63)).toInt64) ||| ((((hpF a b) - (hpF c d)) <<< (Int32.toInt64 (nI 1) &&& 63)) <<< (Int32.toInt64 ((nI 63) - tw) &&& 63))) * iv), (), rfl, by unfold dbF dbH; rw [if_neg (Int64.not_lt.mpr c1)]; rfl, by rw [ht]; exact hP, va_K.moved hW.alike hK, hD⟩, hS.F ht⟩) hS.2.2 dX0_differenceByUnit_85
  · rw [lg_cmp_ge] at c1
    refine lv_lload hx hb dX0_differenceByUnit_50 (lv_at hl 0 rfl) ?_
    refine lv_lconst (v := 1) hx hb dX0_differenceByUnit_52 (by decide) ?_
    refine lv_lsub hx hb dX0_differenceByUnit_53 ?_
    refine lv_lstore (lv' := [(15, .long (((hpF a b) - (hpF c d)) - 1)), (13, .long ((a * b) - (c * d))), (11, .long (c * d)), (9, .long (a * b)), (0, .ref h0), (1, .long a), (3, .long b), (5, .long c), (7, .long d)]) hx hb dX0_differenceByUnit_54 hl (by decide) rfl (fun ls hl => ?_)
    refine lv_lload hx hb dX0_differenceByUnit_56 (lv_at hl 1 rfl) ?_
    refine lv_aload_n hx hb dX0_differenceByUnit_58 rfl (lv_at hl 4 rfl) ?_
    refine va_get (D := (dC, dI)) (ci := 0) (v := .int tw) (C := RX0) (T := TX0) (N := 7) hx hb hts (fun _ h => List.mem_cons_of_mem _ (List.mem_append_right _ h)) hown hK hP 0 rfl rfl 5 (by decide) (hts (.fieldLink RX0 31 "RankFinder$Weighing" "unitTwos" "I") (List.mem_of_getElem? (i := 2) rfl)) (fun _ h9 => h9) rfl dX0_differenceByUnit_59 ?_
    refine lv_lushr hx hb dX0_differenceByUnit_62 rfl ?_
    refine lv_lload hx hb dX0_differenceByUnit_63 (lv_at hl 0 rfl) ?_
    refine lv_iconst (v := nI 1) hx hb dX0_differenceByUnit_65 (by decide) ?_
    refine lv_lshl hx hb dX0_differenceByUnit_66 rfl ?_
    refine lv_bipush (v := nI 63) hx hb dX0_differenceByUnit_67 (by decide) ?_
    refine lv_aload_n hx hb dX0_differenceByUnit_69 rfl (lv_at hl 4 rfl) ?_
    refine va_get (D := (dC, dI)) (ci := 0) (v := .int tw) (C := RX0) (T := TX0) (N := 7) hx hb hts (fun _ h => List.mem_cons_of_mem _ (List.mem_append_right _ h)) hown hK hP 0 rfl rfl 5 (by decide) (hts (.fieldLink RX0 31 "RankFinder$Weighing" "unitTwos" "I") (List.mem_of_getElem? (i := 2) rfl)) (fun _ h9 => h9) rfl dX0_differenceByUnit_70 ?_
    refine lv_isub hx hb dX0_differenceByUnit_73 ?_
    refine lv_lshl hx hb dX0_differenceByUnit_74 rfl ?_
    refine lv_lor hx hb dX0_differenceByUnit_75 ?_
    refine lv_lstore (lv' := [(17, .long (((Int64.toUInt64 ((a * b) - (c * d)) >>> ((Int32.toInt64 tw).toUInt64 &&& Int64.toUInt64 63)).toInt64) ||| (((((hpF a b) - (hpF c d)) - 1) <<< (Int32.toInt64 (nI 1) &&& 63)) <<< (Int32.toInt64 ((nI 63) - tw) &&& 63)))), (15, .long (((hpF a b) - (hpF c d)) - 1)), (13, .long ((a * b) - (c * d))), (11, .long (c * d)), (9, .long (a * b)), (0, .ref h0), (1, .long a), (3, .long b), (5, .long c), (7, .long d)]) hx hb dX0_differenceByUnit_76 hl (by decide) rfl (fun ls hl => ?_)
    refine lv_lload hx hb dX0_differenceByUnit_78 (lv_at hl 0 rfl) ?_
    refine lv_aload_n hx hb dX0_differenceByUnit_80 rfl (lv_at hl 5 rfl) ?_
    refine va_get (D := (dC, dI)) (ci := 0) (v := .long iv) (C := RX0) (T := TX0) (N := 7) hx hb hts (fun _ h => List.mem_cons_of_mem _ (List.mem_append_right _ h)) hown hK hP 0 rfl rfl 6 (by decide) (hts (.fieldLink RX0 34 "RankFinder$Weighing" "unitInverse" "J") (List.mem_of_getElem? (i := 3) rfl)) (fun _ h9 => h9) rfl dX0_differenceByUnit_81 ?_
    refine lv_lmul hx hb dX0_differenceByUnit_84 ?_
    exact W.lret (v := ((((Int64.toUInt64 ((a * b) - (c * d)) >>> ((Int32.toInt64 tw).toUInt64 &&& Int64.toUInt64 63)).toInt64) ||| (((((hpF a b) - (hpF c d)) - 1) <<< (Int32.toInt64 (nI 1) &&& 63)) <<< (Int32.toInt64 ((nI 63) - tw) &&& 63))) * iv)) hx hb hr (fun t ht hW => ⟨⟨((((Int64.toUInt64 ((a * b) - (c * d)) >>> ((Int32.toInt64 tw).toUInt64 &&& Int64.toUInt64 63)).toInt64) ||| (((((hpF a b) - (hpF c d)) - 1) <<< (Int32.toInt64 (nI 1) &&& 63)) <<< (Int32.toInt64 ((nI 63) - tw) &&& 63))) * iv), (), rfl, by unfold dbF dbH; rw [if_pos (Int64.not_le.mp c1)]; rfl, by rw [ht]; exact hP, va_K.moved hW.alike hK, hD⟩, hS.F ht⟩) hS.2.2 dX0_differenceByUnit_85
set_option maxHeartbeats 4000000 in
set_option maxRecDepth 100000 in
/-- takeUnit(y) -/
theorem c_X0_takeUnit (l : Launch) (dC : Nat → ClassId) (dI : Nat → Nat → Nat) (h0 qc qh : Nat) (r : Nat → Nat) (cA cI cJ : ClassId) (sz : Nat) (me nw : Nat) (u : Int64) (tw : Int32) (iv : Int64) (hd : Nat → Int32) (M : Nat → Nat → Int64) (y : Int64) : Met l yX0_takeUnit wsX0_takeUnit ({ frames := 1, cells := 0, slots := 0, locals := 21 }) (va_Pc [.ref h0, .long y] (fun U => U.heap.size = sz ∧ va_P (dC, dI) vwCl (wgW h0 qc qh r cA cI cJ me nw u tw iv hd M) U.heap ∧ va_K (dC, dI) vwCl (wgT cA cI cJ) U ∧ va_D (fun _ => True) (wgW h0 qc qh r cA cI cJ me nw u tw iv hd M))) (va_Qv (fun v : Unit => True) (fun v t => va_P (dC, dI) vwCl (wgW h0 qc qh r cA cI cJ me nw y (bcF ((y &&& -y) - 1)) (nwF (sr y (bcF ((y &&& -y) - 1))) 5) hd M) t.heap ∧ va_K (dC, dI) vwCl (wgT cA cI cJ) t ∧ va_D (va_A (wgW h0 qc qh r cA cI cJ me nw u tw iv hd M) sz) (wgW h0 qc qh r cA cI cJ me nw y (bcF ((y &&& -y) - 1)) (nwF (sr y (bcF ((y &&& -y) - 1))) 5) hd M)) (va_A (wgW h0 qc qh r cA cI cJ me nw u tw iv hd M) sz)) 0 0 (va_A (wgW h0 qc qh r cA cI cJ me nw u tw iv hd M) sz) := by
  refine Met.ofW (cc := cX0_takeUnit) (maxL := 8) (ret := none) (by decide) rfl ?_
  intro p e s m args below meth c s₁ B hml hv
  obtain ⟨rfl, hsz, hP, hK, hD0⟩ := hv
  have hx := B.exec
  have hb := B.bytes
  have hr := B.returns
  have hts := atoms_spec (ws := wsX0_takeUnit) B.pre
  have hown : s.vm.findClass RX0 = some m.cls := findClass_of_methodNamed B.named
  subst hsz
  have hD := hD0.self (sz := s.heap.size)
  clear hD0
  generalize hAe : va_A (wgW h0 qc qh r cA cI cJ me nw u tw iv hd M) s.heap.size = A at hD ⊢
  have hA : ∀ q : Nat, s.heap.size ≤ q → A q := fun q h => by rw [← hAe]; exact Or.inr h
  have hl := lv_entry ([.ref h0, .long y]) (n := 8) (Nat.le_of_ble_eq_true rfl)
  rw [lg_entry_eq]
  generalize (lg_sl ([.ref h0, .long y]) ++ List.replicate (8 - (lg_sl ([.ref h0, .long y])).length) Slot.unset).toArray = ls at hl ⊢
  have hl : lv_has ls 8 [(0, .ref h0), (1, .long y)] := hl
  have hP : va_P (dC, dI) vwCl (wgW h0 qc qh r cA cI cJ me nw u tw iv hd M) s.heap := hP
  obtain ⟨H, hH⟩ : ∃ H, H = s.heap := ⟨_, rfl⟩
  have hS : va_S A s.heap H [] := by rw [hH]; exact va_S.rf
  rw [← hH] at hP ⊢
  refine lv_aload_n hx hb dX0_takeUnit_0 rfl (lv_at hl 0 rfl) ?_
  refine lv_lload_n hx hb dX0_takeUnit_1 rfl (lv_at hl 1 rfl) ?_
  refine va_put (D := (dC, dI)) (ci := 0) (v := .long y) (ty := .long) (C := RX0) (T := TX0) (N := 7) hx hb hts (fun _ h => List.mem_cons_of_mem _ (List.mem_append_right _ h)) tyX0 tyX0_ok nmX0 hown hK hP hD hS 0 rfl rfl 4 (by decide) (hts (.fieldLink RX0 27 "RankFinder$Weighing" "unit" "J") (List.mem_of_getElem? (i := 1) rfl)) (fun _ h9 => h9) rfl (by decide +kernel) rfl rfl (Nat.le_of_ble_eq_true rfl) dX0_takeUnit_2 (fun H locs hP hD hS => ?_)
  have hP : va_P (dC, dI) vwCl (wgW h0 qc qh r cA cI cJ me nw y tw iv hd M) H := hP
  have hD : va_D A (wgW h0 qc qh r cA cI cJ me nw y tw iv hd M) := hD
  refine lv_aload_n hx hb dX0_takeUnit_5 rfl (lv_at hl 0 rfl) ?_
  refine lv_lload_n hx hb dX0_takeUnit_6 rfl (lv_at hl 1 rfl) ?_
  refine lv_lload_n hx hb dX0_takeUnit_7 rfl (lv_at hl 1 rfl) ?_
  refine lv_lneg hx hb dX0_takeUnit_8 ?_
  refine lv_land hx hb dX0_takeUnit_9 ?_
  refine lv_lconst (v := 1) hx hb dX0_takeUnit_10 (by decide) ?_
  refine lv_lsub hx hb dX0_takeUnit_11 ?_
  have hFc : ∀ q, va_A ([] : va_W) H.size q → A q := fun q h => va_nilA hS hA q h
  refine va_calli (va_runS (As := [.long ((y &&& (-y)) - 1)]) (rest := [.ref h0]) ⟨hx, hb, hml, hown, hts⟩ (c_J13_bitCount l dC dI H.size ((y &&& -y) - 1)) (va_cwS 1 hts gX0_takeUnit_J13_bitCount_95d88 rfl rfl rfl (by decide +kernel) ⟨Nat.le_of_ble_eq_true rfl, Nat.le_of_ble_eq_true rfl⟩) ⟨fun a U g mk q => by obtain ⟨q0, q1, qP, qK, qD⟩ := q; exact ⟨q0, q1, qP, va_K.moved (u := U) (U := U.calling g mk a) (Vm.Alike.refl U.vm) qK, qD⟩, fun U hU hW => ⟨rfl, by rw [hU], va_nilP, va_K.moved hW.alike (hK.sub (tys' := []) [] rfl), va_nilD⟩⟩ rfl rfl hl.1 rfl (lv_room (Nat.le_of_ble_eq_true rfl)) dX0_takeUnit_12 ⟨(Nat.zero_le _), (Nat.zero_le _)⟩) hS (fun q _ h => hFc q h) hFc (fun r_12 v9 t H1 locs ht hvm hw hB hz1 hk1 hS => ?_)
  have hP := va_keep hP hk1
  clear hB hk1 hz1 ht hvm hFc
  generalize H1 = H at hP hS ⊢
  subst hw
  refine va_put (D := (dC, dI)) (ci := 0) (v := .int (bcF ((y &&& -y) - 1))) (ty := .int) (C := RX0) (T := TX0) (N := 7) hx hb hts (fun _ h => List.mem_cons_of_mem _ (List.mem_append_right _ h)) tyX0 tyX0_ok nmX0 hown hK hP hD hS 0 rfl rfl 5 (by decide) (hts (.fieldLink RX0 31 "RankFinder$Weighing" "unitTwos" "I") (List.mem_of_getElem? (i := 2) rfl)) (fun _ h9 => h9) rfl (by decide +kernel) rfl rfl (Nat.le_of_ble_eq_true rfl) dX0_takeUnit_15 (fun H locs hP hD hS => ?_)
  have hP : va_P (dC, dI) vwCl (wgW h0 qc qh r cA cI cJ me nw y (bcF ((y &&& -y) - 1)) iv hd M) H := hP
  have hD : va_D A (wgW h0 qc qh r cA cI cJ me nw y (bcF ((y &&& -y) - 1)) iv hd M) := hD
  refine lv_lload_n hx hb dX0_takeUnit_18 rfl (lv_at hl 1 rfl) ?_
  refine lv_aload_n hx hb dX0_takeUnit_19 rfl (lv_at hl 0 rfl) ?_
  refine va_get (D := (dC, dI)) (ci := 0) (v := .int (bcF ((y &&& -y) - 1))) (C := RX0) (T := TX0) (N := 7) hx hb hts (fun _ h => List.mem_cons_of_mem _ (List.mem_append_right _ h)) hown hK hP 0 rfl rfl 5 (by decide) (hts (.fieldLink RX0 31 "RankFinder$Weighing" "unitTwos" "I") (List.mem_of_getElem? (i := 2) rfl)) (fun _ h9 => h9) rfl dX0_takeUnit_20 ?_
  refine lv_lshr hx hb dX0_takeUnit_23 rfl ?_
  refine lv_lstore_n (lv' := [(3, .long (y >>> (Int32.toInt64 (bcF ((y &&& -y) - 1)) &&& 63))), (0, .ref h0), (1, .long y)]) hx hb dX0_takeUnit_24 rfl hl (by decide) rfl (fun ls hl => ?_)
  refine lv_lload_n hx hb dX0_takeUnit_25 rfl (lv_at hl 0 rfl) ?_
  refine lv_lstore (lv' := [(5, .long (y >>> (Int32.toInt64 (bcF ((y &&& -y) - 1)) &&& 63))), (3, .long (y >>> (Int32.toInt64 (bcF ((y &&& -y) - 1)) &&& 63))), (0, .ref h0), (1, .long y)]) hx hb dX0_takeUnit_26 hl (by decide) rfl (fun ls hl => ?_)
  refine lv_iconst (v := nI 0) hx hb dX0_takeUnit_28 (by decide) ?_
  refine lv_istore (lv' := [(7, .int (nI 0)), (5, .long (y >>> (Int32.toInt64 (bcF ((y &&& -y) - 1)) &&& 63))), (3, .long (y >>> (Int32.toInt64 (bcF ((y &&& -y) - 1)) &&& 63))), (0, .ref h0), (1, .long y)]) hx hb dX0_takeUnit_29 hl (by decide) rfl (fun ls hl => ?_)
  have loop : ∀ (d k : Nat) (ls : Array Slot), k + d = 5 → lv_has ls 8 [(7, .int (nI k)), (5, .long (nwF (sr y (bcF ((y &&& -y) - 1))) k)), (3, .long (sr y (bcF ((y &&& -y) - 1)))), (0, .ref h0), (1, .long y)] → W p l e (headSpec wsX0_takeUnit ({ frames := 1, cells := 0, slots := 0, locals := 21 })).room s m #[.ref h0, .long y] below meth c H locs 0 0 (MQ below (va_Qv (fun v : Unit => True) (fun v t => va_P (dC, dI) vwCl (wgW h0 qc qh r cA cI cJ me nw y (bcF ((y &&& -y) - 1)) (nwF (sr y (bcF ((y &&& -y) - 1))) 5) hd M) t.heap ∧ va_K (dC, dI) vwCl (wgT cA cI cJ) t ∧ va_D A (wgW h0 qc qh r cA cI cJ me nw y (bcF ((y &&& -y) - 1)) (nwF (sr y (bcF ((y &&& -y) - 1))) 5) hd M)) A) #[.ref h0, .long y] s 0 0 A) (F0 m 31 ls []) := by
    intro d
    induction d with
    | zero =>
      intro k ls hk hl
      refine lv_iload hx hb dX0_takeUnit_31 (lv_at hl 0 rfl) ?_
      refine lv_iconst (v := nI 5) hx hb dX0_takeUnit_33 (by decide) ?_
      refine lv_icmp_ge (tgt := 56) hx hb dX0_takeUnit_34 (by decide) (fun c1 => ?_) (fun c1 => ?_)
      · obtain rfl : k = 5 := by omega
        refine lv_aload_n hx hb dX0_takeUnit_56 rfl (lv_at hl 3 rfl) ?_
        refine lv_lload hx hb dX0_takeUnit_57 (lv_at hl 1 rfl) ?_
        refine va_put (D := (dC, dI)) (ci := 0) (v := .long (nwF (sr y (bcF ((y &&& -y) - 1))) 5)) (ty := .long) (C := RX0) (T := TX0) (N := 7) hx hb hts (fun _ h => List.mem_cons_of_mem _ (List.mem_append_right _ h)) tyX0 tyX0_ok nmX0 hown hK hP hD hS 0 rfl rfl 6 (by decide) (hts (.fieldLink RX0 34 "RankFinder$Weighing" "unitInverse" "J") (List.mem_of_getElem? (i := 4) rfl)) (fun _ h9 => h9) rfl (by decide +kernel) rfl rfl (Nat.le_of_ble_eq_true rfl) dX0_takeUnit_59 (fun H locs hP hD hS => ?_)
        have hP : va_P (dC, dI) vwCl (wgW h0 qc qh r cA cI cJ me nw y (bcF ((y &&& -y) - 1)) (nwF (sr y (bcF ((y &&& -y) - 1))) 5) hd M) H := hP
        have hD : va_D A (wgW h0 qc qh r cA cI cJ me nw y (bcF ((y &&& -y) - 1)) (nwF (sr y (bcF ((y &&& -y) - 1))) 5) hd M) := hD
        exact W.vret hx hb hr (fun t ht hW => ⟨⟨(), rfl, trivial, by rw [ht]; exact hP, va_K.moved hW.alike hK, hD⟩, hS.F ht⟩) hS.2.2 dX0_takeUnit_62
      · exact absurd (nI_le (by omega) (by omega)) c1
    | succ d ih =>
      intro k ls hk hl
      refine lv_iload hx hb dX0_takeUnit_31 (lv_at hl 0 rfl) ?_
      refine lv_iconst (v := nI 5) hx hb dX0_takeUnit_33 (by decide) ?_
      refine lv_icmp_ge (tgt := 56) hx hb dX0_takeUnit_34 (by decide) (fun c1 => ?_) (fun c1 => ?_)
      · exact absurd c1 (nI_ge (by omega) (by omega))
      · refine lv_lload hx hb dX0_takeUnit_37 (lv_at hl 1 rfl) ?_
        refine lv_ldc2 (v := 2) hx hb hown (hts (.constantLong RX0 107 (2)) (List.mem_of_getElem? (i := 3) rfl)) dX0_takeUnit_39 ?_
        refine lv_lload_n hx hb dX0_takeUnit_42 rfl (lv_at hl 2 rfl) ?_
        refine lv_lload hx hb dX0_takeUnit_43 (lv_at hl 1 rfl) ?_
        refine lv_lmul hx hb dX0_takeUnit_45 ?_
        refine lv_lsub hx hb dX0_takeUnit_46 ?_
        refine lv_lmul hx hb dX0_takeUnit_47 ?_
        refine lv_lstore (lv' := [(5, .long ((nwF (sr y (bcF ((y &&& -y) - 1))) k) * (2 - ((sr y (bcF ((y &&& -y) - 1))) * (nwF (sr y (bcF ((y &&& -y) - 1))) k))))), (7, .int (nI k)), (3, .long (sr y (bcF ((y &&& -y) - 1)))), (0, .ref h0), (1, .long y)]) hx hb dX0_takeUnit_48 hl (by decide) rfl (fun ls hl => ?_)
        refine lv_iinc (v := nI (k + 1)) (lv' := [(7, .int (nI (k + 1))), (5, .long ((nwF (sr y (bcF ((y &&& -y) - 1))) k) * (2 - ((sr y (bcF ((y &&& -y) - 1))) * (nwF (sr y (bcF ((y &&& -y) - 1))) k))))), (3, .long (sr y (bcF ((y &&& -y) - 1)))), (0, .ref h0), (1, .long y)]) hx hb dX0_takeUnit_50 hl (k := 1) rfl (nI_1 _) (by decide) rfl (fun ls hl => ?_)
        refine lv_goto (tgt := 31) hx hb dX0_takeUnit_53 (by decide) ?_
        exact ih (k + 1) ls (by omega) (lv_sub hl [0, 1, 2, 3, 4] rfl)
  exact loop 5 0 ls (by omega) (lv_sub hl [0, 1, 2, 3, 4] rfl)
