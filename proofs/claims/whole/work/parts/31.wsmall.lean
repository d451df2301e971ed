/-! ===== Weighing: the small methods ===== -/
theorem va_fall {A0 : Nat → Prop} {ws : va_W} {H0 H : Heap} {locs : List Loc} (hD : va_D A0 ws) (hS : va_S A0 H0 H locs) (hA : ∀ q, H0.size ≤ q → A0 q) : ∀ q, va_A ws H.size q → A0 q := fun q h => by
  rcases h with ⟨k, e, h⟩ | h
  · exact hD.2 k (q, e) h
  · exact hA q (Nat.le_trans hS.1 h)
set_option maxHeartbeats 4000000 in
set_option maxRecDepth 100000 in
/-- put(i, j, x) -/
theorem c_X0_put (l : Launch) (dC : Nat → ClassId) (dI : Nat → Nat → Nat) (h0 qc qh : Nat) (r : Nat → Nat) (cA cI cJ : ClassId) (sz : Nat) (me nw : Nat) (u : Int64) (tw : Int32) (iv : Int64) (hd : Nat → Int32) (M : Nat → Nat → Int64) (i j : Nat) (x : Int32) (hi : i < 10) (hj : j < 17) : Met l yX0_put wsX0_put ({ frames := 0, cells := 0, slots := 0, locals := 0 }) (va_Pc [.ref h0, .int (nI i), .int (nI j), .int x] (fun U => U.heap.size = sz ∧ va_P (dC, dI) vwCl (wgW h0 qc qh r cA cI cJ me nw u tw iv hd M) U.heap ∧ va_K (dC, dI) vwCl (wgT cA cI cJ) U ∧ va_D (fun _ => True) (wgW h0 qc qh r cA cI cJ me nw u tw iv hd M))) (va_Qv (fun v : Unit => True) (fun v t => va_P (dC, dI) vwCl (wgW h0 qc qh r cA cI cJ me nw u tw iv hd (mup M i j x.toInt64)) t.heap ∧ va_K (dC, dI) vwCl (wgT cA cI cJ) t ∧ va_D (va_A (wgW h0 qc qh r cA cI cJ me nw u tw iv hd M) sz) (wgW h0 qc qh r cA cI cJ me nw u tw iv hd (mup M i j x.toInt64))) (va_A (wgW h0 qc qh r cA cI cJ me nw u tw iv hd M) sz)) 0 0 (va_A (wgW h0 qc qh r cA cI cJ me nw u tw iv hd M) sz) := by
  refine Met.ofW (cc := cX0_put) (maxL := 4) (ret := none) (by decide) rfl ?_
  intro p e s m args below meth c s₁ B hml hv
  obtain ⟨rfl, hsz, hP, hK, hD0⟩ := hv
  have hx := B.exec
  have hb := B.bytes
  have hr := B.returns
  have hts := atoms_spec (ws := wsX0_put) B.pre
  have hown : s.vm.findClass RX0 = some m.cls := findClass_of_methodNamed B.named
  subst hsz
  have hD := hD0.self (sz := s.heap.size)
  clear hD0
  generalize hAe : va_A (wgW h0 qc qh r cA cI cJ me nw u tw iv hd M) s.heap.size = A at hD ⊢
  have hA : ∀ q : Nat, s.heap.size ≤ q → A q := fun q h => by rw [← hAe]; exact Or.inr h
  have hl := lv_entry ([.ref h0, .int (nI i), .int (nI j), .int x]) (n := 4) (Nat.le_of_ble_eq_true rfl)
  rw [lg_entry_eq]
  generalize (lg_sl ([.ref h0, .int (nI i), .int (nI j), .int x]) ++ List.replicate (4 - (lg_sl ([.ref h0, .int (nI i), .int (nI j), .int x])).length) Slot.unset).toArray = ls at hl ⊢
  have hl : lv_has ls 4 [(0, .ref h0), (1, .int (nI i)), (2, .int (nI j)), (3, .int x)] := hl
  have hP : va_P (dC, dI) vwCl (wgW h0 qc qh r cA cI cJ me nw u tw iv hd M) s.heap := hP
  obtain ⟨H, hH⟩ : ∃ H, H = s.heap := ⟨_, rfl⟩
  have hS : va_S A s.heap H [] := by rw [hH]; exact va_S.rf
  rw [← hH] at hP ⊢
  refine lv_aload_n hx hb dX0_put_0 rfl (lv_at hl 0 rfl) ?_
  refine va_get (D := (dC, dI)) (ci := 0) (v := .ref qc) (C := RX0) (T := TX0) (N := 7) hx hb hts (fun _ h => List.mem_cons_of_mem _ (List.mem_append_right _ h)) hown hK hP 0 rfl rfl 0 (by decide) (hts (.fieldLink RX0 13 "RankFinder$Weighing" "cell" "[[J") (List.mem_of_getElem? (i := 1) rfl)) (fun _ h9 => h9) rfl dX0_put_1 ?_
  refine lv_iload_n hx hb dX0_put_4 rfl (lv_at hl 1 rfl) ?_
  refine na_aald (y := r i) hx hb hK hP 1 0 rfl rfl hi (by decide) (if_pos hi) dX0_put_5 ?_
  refine lv_iload_n hx hb dX0_put_6 rfl (lv_at hl 2 rfl) ?_
  refine lv_iload_n hx hb dX0_put_7 rfl (lv_at hl 3 rfl) ?_
  refine lv_i2l hx hb dX0_put_8 rfl ?_
  refine na_last hx hb hK hP hD hS (3 + i) 2 (gG_get hi rfl) rfl hj (by decide) dX0_put_9 (fun H locs hP hD hS => ?_)
  rw [wgW_set hi] at hP hD
  have hP : va_P (dC, dI) vwCl (wgW h0 qc qh r cA cI cJ me nw u tw iv hd (mup M i j (Int32.toInt64 x))) H := hP
  have hD : va_D A (wgW h0 qc qh r cA cI cJ me nw u tw iv hd (mup M i j (Int32.toInt64 x))) := hD
  exact W.vret hx hb hr (fun t ht hW => ⟨⟨(), rfl, trivial, by rw [ht]; exact hP, va_K.moved hW.alike hK, hD⟩, hS.F ht⟩) hS.2.2 dX0_put_10
set_option maxHeartbeats 4000000 in
set_option maxRecDepth 100000 in
/-- putRightSide(i, x) -/
theorem c_X0_putRightSide (l : Launch) (dC : Nat → ClassId) (dI : Nat → Nat → Nat) (h0 qc qh : Nat) (r : Nat → Nat) (cA cI cJ : ClassId) (sz : Nat) (me nw : Nat) (u : Int64) (tw : Int32) (iv : Int64) (hd : Nat → Int32) (M : Nat → Nat → Int64) (i : Nat) (x : Int32) (hi : i < 10) (hn : nw < 17) : Met l yX0_putRightSide wsX0_putRightSide ({ frames := 0, cells := 0, slots := 0, locals := 0 }) (va_Pc [.ref h0, .int (nI i), .int x] (fun U => U.heap.size = sz ∧ va_P (dC, dI) vwCl (wgW h0 qc qh r cA cI cJ me nw u tw iv hd M) U.heap ∧ va_K (dC, dI) vwCl (wgT cA cI cJ) U ∧ va_D (fun _ => True) (wgW h0 qc qh r cA cI cJ me nw u tw iv hd M))) (va_Qv (fun v : Unit => True) (fun v t => va_P (dC, dI) vwCl (wgW h0 qc qh r cA cI cJ me nw u tw iv hd (mup M i nw x.toInt64)) t.heap ∧ va_K (dC, dI) vwCl (wgT cA cI cJ) t ∧ va_D (va_A (wgW h0 qc qh r cA cI cJ me nw u tw iv hd M) sz) (wgW h0 qc qh r cA cI cJ me nw u tw iv hd (mup M i nw x.toInt64))) (va_A (wgW h0 qc qh r cA cI cJ me nw u tw iv hd M) sz)) 0 0 (va_A (wgW h0 qc qh r cA cI cJ me nw u tw iv hd M) sz) := by
  refine Met.ofW (cc := cX0_putRightSide) (maxL := 3) (ret := none) (by decide) rfl ?_
  intro p e s m args below meth c s₁ B hml hv
  obtain ⟨rfl, hsz, hP, hK, hD0⟩ := hv
  have hx := B.exec
  have hb := B.bytes
  have hr := B.returns
  have hts := atoms_spec (ws := wsX0_putRightSide) B.pre
  have hown : s.vm.findClass RX0 = some m.cls := findClass_of_methodNamed B.named
  subst hsz
  have hD := hD0.self (sz := s.heap.size)
  clear hD0
  generalize hAe : va_A (wgW h0 qc qh r cA cI cJ me nw u tw iv hd M) s.heap.size = A at hD ⊢
  have hA : ∀ q : Nat, s.heap.size ≤ q → A q := fun q h => by rw [← hAe]; exact Or.inr h
  have hl := lv_entry ([.ref h0, .int (nI i), .int x]) (n := 3) (Nat.le_of_ble_eq_true rfl)
  rw [lg_entry_eq]
  generalize (lg_sl ([.ref h0, .int (nI i), .int x]) ++ List.replicate (3 - (lg_sl ([.ref h0, .int (nI i), .int x])).length) Slot.unset).toArray = ls at hl ⊢
  have hl : lv_has ls 3 [(0, .ref h0), (1, .int (nI i)), (2, .int x)] := hl
  have hP : va_P (dC, dI) vwCl (wgW h0 qc qh r cA cI cJ me nw u tw iv hd M) s.heap := hP
  obtain ⟨H, hH⟩ : ∃ H, H = s.heap := ⟨_, rfl⟩
  have hS : va_S A s.heap H [] := by rw [hH]; exact va_S.rf
  rw [← hH] at hP ⊢
  refine lv_aload_n hx hb dX0_putRightSide_0 rfl (lv_at hl 0 rfl) ?_
  refine va_get (D := (dC, dI)) (ci := 0) (v := .ref qc) (C := RX0) (T := TX0) (N := 7) hx hb hts (fun _ h => List.mem_cons_of_mem _ (List.mem_append_right _ h)) hown hK hP 0 rfl rfl 0 (by decide) (hts (.fieldLink RX0 13 "RankFinder$Weighing" "cell" "[[J") (List.mem_of_getElem? (i := 1) rfl)) (fun _ h9 => h9) rfl dX0_putRightSide_1 ?_
  refine lv_iload_n hx hb dX0_putRightSide_4 rfl (lv_at hl 1 rfl) ?_
  refine na_aald (y := r i) hx hb hK hP 1 0 rfl rfl hi (by decide) (if_pos hi) dX0_putRightSide_5 ?_
  refine lv_aload_n hx hb dX0_putRightSide_6 rfl (lv_at hl 0 rfl) ?_
  refine va_get (D := (dC, dI)) (ci := 0) (v := .int (nI nw)) (C := RX0) (T := TX0) (N := 7) hx hb hts (fun _ h => List.mem_cons_of_mem _ (List.mem_append_right _ h)) hown hK hP 0 rfl rfl 3 (by decide) (hts (.fieldLink RX0 24 "RankFinder$Weighing" "weights" "I") (List.mem_of_getElem? (i := 2) rfl)) (fun _ h9 => h9) rfl dX0_putRightSide_7 ?_
  refine lv_iload_n hx hb dX0_putRightSide_10 rfl (lv_at hl 2 rfl) ?_
  refine lv_i2l hx hb dX0_putRightSide_11 rfl ?_
  refine na_last hx hb hK hP hD hS (3 + i) 2 (gG_get hi rfl) rfl hn (by decide) dX0_putRightSide_12 (fun H locs hP hD hS => ?_)
  rw [wgW_set hi] at hP hD
  have hP : va_P (dC, dI) vwCl (wgW h0 qc qh r cA cI cJ me nw u tw iv hd (mup M i nw (Int32.toInt64 x))) H := hP
  have hD : va_D A (wgW h0 qc qh r cA cI cJ me nw u tw iv hd (mup M i nw (Int32.toInt64 x))) := hD
  exact W.vret hx hb hr (fun t ht hW => ⟨⟨(), rfl, trivial, by rw [ht]; exact hP, va_K.moved hW.alike hK, hD⟩, hS.F ht⟩) hS.2.2 dX0_putRightSide_13
set_option maxHeartbeats 4000000 in
set_option maxRecDepth 100000 in
/-- putCost(j, x) -/
theorem c_X0_putCost (l : Launch) (dC : Nat → ClassId) (dI : Nat → Nat → Nat) (h0 qc qh : Nat) (r : Nat → Nat) (cA cI cJ : ClassId) (sz : Nat) (me nw : Nat) (u : Int64) (tw : Int32) (iv : Int64) (hd : Nat → Int32) (M : Nat → Nat → Int64) (j : Nat) (x : Int32) (hm : me < 10) (hj : j < 17) : Met l yX0_putCost wsX0_putCost ({ frames := 0, cells := 0, slots := 0, locals := 0 }) (va_Pc [.ref h0, .int (nI j), .int x] (fun U => U.heap.size = sz ∧ va_P (dC, dI) vwCl (wgW h0 qc qh r cA cI cJ me nw u tw iv hd M) U.heap ∧ va_K (dC, dI) vwCl (wgT cA cI cJ) U ∧ va_D (fun _ => True) (wgW h0 qc qh r cA cI cJ me nw u tw iv hd M))) (va_Qv (fun v : Unit => True) (fun v t => va_P (dC, dI) vwCl (wgW h0 qc qh r cA cI cJ me nw u tw iv hd (mup M me j x.toInt64)) t.heap ∧ va_K (dC, dI) vwCl (wgT cA cI cJ) t ∧ va_D (va_A (wgW h0 qc qh r cA cI cJ me nw u tw iv hd M) sz) (wgW h0 qc qh r cA cI cJ me nw u tw iv hd (mup M me j x.toInt64))) (va_A (wgW h0 qc qh r cA cI cJ me nw u tw iv hd M) sz)) 0 0 (va_A (wgW h0 qc qh r cA cI cJ me nw u tw iv hd M) sz) := by
  refine Met.ofW (cc := cX0_putCost) (maxL := 3) (ret := none) (by decide) rfl ?_
  intro p e s m args below meth c s₁ B hml hv
  obtain ⟨rfl, hsz, hP, hK, hD0⟩ := hv
  have hx := B.exec
  have hb := B.bytes
  have hr := B.returns
  have hts := atoms_spec (ws := wsX0_putCost) B.pre
  have hown : s.vm.findClass RX0 = some m.cls := findClass_of_methodNamed B.named
  subst hsz
  have hD := hD0.self (sz := s.heap.size)
  clear hD0
  generalize hAe : va_A (wgW h0 qc qh r cA cI cJ me nw u tw iv hd M) s.heap.size = A at hD ⊢
  have hA : ∀ q : Nat, s.heap.size ≤ q → A q := fun q h => by rw [← hAe]; exact Or.inr h
  have hl := lv_entry ([.ref h0, .int (nI j), .int x]) (n := 3) (Nat.le_of_ble_eq_true rfl)
  rw [lg_entry_eq]
  generalize (lg_sl ([.ref h0, .int (nI j), .int x]) ++ List.replicate (3 - (lg_sl ([.ref h0, .int (nI j), .int x])).length) Slot.unset).toArray = ls at hl ⊢
  have hl : lv_has ls 3 [(0, .ref h0), (1, .int (nI j)), (2, .int x)] := hl
  have hP : va_P (dC, dI) vwCl (wgW h0 qc qh r cA cI cJ me nw u tw iv hd M) s.heap := hP
  obtain ⟨H, hH⟩ : ∃ H, H = s.heap := ⟨_, rfl⟩
  have hS : va_S A s.heap H [] := by rw [hH]; exact va_S.rf
  rw [← hH] at hP ⊢
  refine lv_aload_n hx hb dX0_putCost_0 rfl (lv_at hl 0 rfl) ?_
  refine va_get (D := (dC, dI)) (ci := 0) (v := .ref qc) (C := RX0) (T := TX0) (N := 7) hx hb hts (fun _ h => List.mem_cons_of_mem _ (List.mem_append_right _ h)) hown hK hP 0 rfl rfl 0 (by decide) (hts (.fieldLink RX0 13 "RankFinder$Weighing" "cell" "[[J") (List.mem_of_getElem? (i := 1) rfl)) (fun _ h9 => h9) rfl dX0_putCost_1 ?_
  refine lv_aload_n hx hb dX0_putCost_4 rfl (lv_at hl 0 rfl) ?_
  refine va_get (D := (dC, dI)) (ci := 0) (v := .int (nI me)) (C := RX0) (T := TX0) (N := 7) hx hb hts (fun _ h => List.mem_cons_of_mem _ (List.mem_append_right _ h)) hown hK hP 0 rfl rfl 2 (by decide) (hts (.fieldLink RX0 20 "RankFinder$Weighing" "equations" "I") (List.mem_of_getElem? (i := 2) rfl)) (fun _ h9 => h9) rfl dX0_putCost_5 ?_
  refine na_aald (y := r me) hx hb hK hP 1 0 rfl rfl hm (by decide) (if_pos hm) dX0_putCost_8 ?_
  refine lv_iload_n hx hb dX0_putCost_9 rfl (lv_at hl 1 rfl) ?_
  refine lv_iload_n hx hb dX0_putCost_10 rfl (lv_at hl 2 rfl) ?_
  refine lv_i2l hx hb dX0_putCost_11 rfl ?_
  refine na_last hx hb hK hP hD hS (3 + me) 2 (gG_get hm rfl) rfl hj (by decide) dX0_putCost_12 (fun H locs hP hD hS => ?_)
  rw [wgW_set hm] at hP hD
  have hP : va_P (dC, dI) vwCl (wgW h0 qc qh r cA cI cJ me nw u tw iv hd (mup M me j (Int32.toInt64 x))) H := hP
  have hD : va_D A (wgW h0 qc qh r cA cI cJ me nw u tw iv hd (mup M me j (Int32.toInt64 x))) := hD
  exact W.vret hx hb hr (fun t ht hW => ⟨⟨(), rfl, trivial, by rw [ht]; exact hP, va_K.moved hW.alike hK, hD⟩, hS.F ht⟩) hS.2.2 dX0_putCost_13
set_option maxHeartbeats 4000000 in
set_option maxRecDepth 100000 in
/-- leastTop() -/
theorem c_X0_leastTop (l : Launch) (dC : Nat → ClassId) (dI : Nat → Nat → Nat) (h0 qc qh : Nat) (r : Nat → Nat) (cA cI cJ : ClassId) (sz : Nat) (me nw : Nat) (u : Int64) (tw : Int32) (iv : Int64) (hd : Nat → Int32) (M : Nat → Nat → Int64) (hm : me < 10) (hn : nw < 17) : Met l yX0_leastTop wsX0_leastTop ({ frames := 0, cells := 0, slots := 0, locals := 0 }) (va_Pc [.ref h0] (fun U => U.heap.size = sz ∧ va_P (dC, dI) vwCl (wgW h0 qc qh r cA cI cJ me nw u tw iv hd M) U.heap ∧ va_K (dC, dI) vwCl (wgT cA cI cJ) U ∧ va_D (fun _ => True) (wgW h0 qc qh r cA cI cJ me nw u tw iv hd M))) (va_Ql (fun (x : Int64) (v : Unit) => x = M me nw) (fun v t => va_P (dC, dI) vwCl (wgW h0 qc qh r cA cI cJ me nw u tw iv hd M) t.heap ∧ va_K (dC, dI) vwCl (wgT cA cI cJ) t ∧ va_D (va_A (wgW h0 qc qh r cA cI cJ me nw u tw iv hd M) sz) (wgW h0 qc qh r cA cI cJ me nw u tw iv hd M)) (va_A (wgW h0 qc qh r cA cI cJ me nw u tw iv hd M) sz)) 0 0 (va_A (wgW h0 qc qh r cA cI cJ me nw u tw iv hd M) sz) := by
  refine Met.ofW (cc := cX0_leastTop) (maxL := 1) (ret := (some .long)) (by decide) rfl ?_
  intro p e s m args below meth c s₁ B hml hv
  obtain ⟨rfl, hsz, hP, hK, hD0⟩ := hv
  have hx := B.exec
  have hb := B.bytes
  have hr := B.returns
  have hts := atoms_spec (ws := wsX0_leastTop) B.pre
  have hown : s.vm.findClass RX0 = some m.cls := findClass_of_methodNamed B.named
  subst hsz
  have hD := hD0.self (sz := s.heap.size)
  clear hD0
  generalize hAe : va_A (wgW h0 qc qh r cA cI cJ me nw u tw iv hd M) s.heap.size = A at hD ⊢
  have hA : ∀ q : Nat, s.heap.size ≤ q → A q := fun q h => by rw [← hAe]; exact Or.inr h
  have hl := lv_entry ([.ref h0]) (n := 1) (Nat.le_of_ble_eq_true rfl)
  rw [lg_entry_eq]
  generalize (lg_sl ([.ref h0]) ++ List.replicate (1 - (lg_sl ([.ref h0])).length) Slot.unset).toArray = ls at hl ⊢
  have hl : lv_has ls 1 [(0, .ref h0)] := hl
  have hP : va_P (dC, dI) vwCl (wgW h0 qc qh r cA cI cJ me nw u tw iv hd M) s.heap := hP
  obtain ⟨H, hH⟩ : ∃ H, H = s.heap := ⟨_, rfl⟩
  have hS : va_S A s.heap H [] := by rw [hH]; exact va_S.rf
  rw [← hH] at hP ⊢
  refine lv_aload_n hx hb dX0_leastTop_0 rfl (lv_at hl 0 rfl) ?_
  refine va_get (D := (dC, dI)) (ci := 0) (v := .ref qc) (C := RX0) (T := TX0) (N := 7) hx hb hts (fun _ h => List.mem_cons_of_mem _ (List.mem_append_right _ h)) hown hK hP 0 rfl rfl 0 (by decide) (hts (.fieldLink RX0 13 "RankFinder$Weighing" "cell" "[[J") (List.mem_of_getElem? (i := 1) rfl)) (fun _ h9 => h9) rfl dX0_leastTop_1 ?_
  refine lv_aload_n hx hb dX0_leastTop_4 rfl (lv_at hl 0 rfl) ?_
  refine va_get (D := (dC, dI)) (ci := 0) (v := .int (nI me)) (C := RX0) (T := TX0) (N := 7) hx hb hts (fun _ h => List.mem_cons_of_mem _ (List.mem_append_right _ h)) hown hK hP 0 rfl rfl 2 (by decide) (hts (.fieldLink RX0 20 "RankFinder$Weighing" "equations" "I") (List.mem_of_getElem? (i := 2) rfl)) (fun _ h9 => h9) rfl dX0_leastTop_5 ?_
  refine na_aald (y := r me) hx hb hK hP 1 0 rfl rfl hm (by decide) (if_pos hm) dX0_leastTop_8 ?_
  refine lv_aload_n hx hb dX0_leastTop_9 rfl (lv_at hl 0 rfl) ?_
  refine va_get (D := (dC, dI)) (ci := 0) (v := .int (nI nw)) (C := RX0) (T := TX0) (N := 7) hx hb hts (fun _ h => List.mem_cons_of_mem _ (List.mem_append_right _ h)) hown hK hP 0 rfl rfl 3 (by decide) (hts (.fieldLink RX0 24 "RankFinder$Weighing" "weights" "I") (List.mem_of_getElem? (i := 3) rfl)) (fun _ h9 => h9) rfl dX0_leastTop_10 ?_
  refine na_lald hx hb hK hP (3 + me) 2 (gG_get hm rfl) rfl hn (by decide) dX0_leastTop_13 ?_
  exact W.lret (v := (M me nw)) hx hb hr (fun t ht hW => ⟨⟨(M me nw), (), rfl, rfl, by rw [ht]; exact hP, va_K.moved hW.alike hK, hD⟩, hS.F ht⟩) hS.2.2 dX0_leastTop_14
set_option maxHeartbeats 4000000 in
set_option maxRecDepth 100000 in
/-- leastBottom() -/
theorem c_X0_leastBottom (l : Launch) (dC : Nat → ClassId) (dI : Nat → Nat → Nat) (h0 qc qh : Nat) (r : Nat → Nat) (cA cI cJ : ClassId) (sz : Nat) (me nw : Nat) (u : Int64) (tw : Int32) (iv : Int64) (hd : Nat → Int32) (M : Nat → Nat → Int64) : Met l yX0_leastBottom wsX0_leastBottom ({ frames := 0, cells := 0, slots := 0, locals := 0 }) (va_Pc [.ref h0] (fun U => U.heap.size = sz ∧ va_P (dC, dI) vwCl (wgW h0 qc qh r cA cI cJ me nw u tw iv hd M) U.heap ∧ va_K (dC, dI) vwCl (wgT cA cI cJ) U ∧ va_D (fun _ => True) (wgW h0 qc qh r cA cI cJ me nw u tw iv hd M))) (va_Ql (fun (x : Int64) (v : Unit) => x = u) (fun v t => va_P (dC, dI) vwCl (wgW h0 qc qh r cA cI cJ me nw u tw iv hd M) t.heap ∧ va_K (dC, dI) vwCl (wgT cA cI cJ) t ∧ va_D (va_A (wgW h0 qc qh r cA cI cJ me nw u tw iv hd M) sz) (wgW h0 qc qh r cA cI cJ me nw u tw iv hd M)) (va_A (wgW h0 qc qh r cA cI cJ me nw u tw iv hd M) sz)) 0 0 (va_A (wgW h0 qc qh r cA cI cJ me nw u tw iv hd M) sz) := by
  refine Met.ofW (cc := cX0_leastBottom) (maxL := 1) (ret := (some .long)) (by decide) rfl ?_
  intro p e s m args below meth c s₁ B hml hv
  obtain ⟨rfl, hsz, hP, hK, hD0⟩ := hv
  have hx := B.exec
  have hb := B.bytes
  have hr := B.returns
  have hts := atoms_spec (ws := wsX0_leastBottom) B.pre
  have hown : s.vm.findClass RX0 = some m.cls := findClass_of_methodNamed B.named
  subst hsz
  have hD := hD0.self (sz := s.heap.size)
  clear hD0
  generalize hAe : va_A (wgW h0 qc qh r cA cI cJ me nw u tw iv hd M) s.heap.size = A at hD ⊢
  have hA : ∀ q : Nat, s.heap.size ≤ q → A q := fun q h => by rw [← hAe]; exact Or.inr h
  have hl := lv_entry ([.ref h0]) (n := 1) (Nat.le_of_ble_eq_true rfl)
  rw [lg_entry_eq]
  generalize (lg_sl ([.ref h0]) ++ List.replicate (1 - (lg_sl ([.ref h0])).length) Slot.unset).toArray = ls at hl ⊢
  have hl : lv_has ls 1 [(0, .ref h0)] := hl
  have hP : va_P (dC, dI) vwCl (wgW h0 qc qh r cA cI cJ me nw u tw iv hd M) s.heap := hP
  obtain ⟨H, hH⟩ : ∃ H, H = s.heap := ⟨_, rfl⟩
  have hS : va_S A s.heap H [] := by rw [hH]; exact va_S.rf
  rw [← hH] at hP ⊢
  refine lv_aload_n hx hb dX0_leastBottom_0 rfl (lv_at hl 0 rfl) ?_
  refine va_get (D := (dC, dI)) (ci := 0) (v := .long u) (C := RX0) (T := TX0) (N := 7) hx hb hts (fun _ h => List.mem_cons_of_mem _ (List.mem_append_right _ h)) hown hK hP 0 rfl rfl 4 (by decide) (hts (.fieldLink RX0 27 "RankFinder$Weighing" "unit" "J") (List.mem_of_getElem? (i := 1) rfl)) (fun _ h9 => h9) rfl dX0_leastBottom_1 ?_
  exact W.lret (v := u) hx hb hr (fun t ht hW => ⟨⟨u, (), rfl, rfl, by rw [ht]; exact hP, va_K.moved hW.alike hK, hD⟩, hS.F ht⟩) hS.2.2 dX0_leastBottom_4
