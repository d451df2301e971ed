/-! ===== Weighing: rows and columns that are looked for, further ===== -/
theorem i32_lt_tr {a b c : Int32} (h : ¬ a < b) (h2 : c < b) : ¬ a < c := fun q => by
  rw [Int32.lt_iff_toInt_lt] at *; omega
theorem i32_irr {a : Int32} : ¬ a < a := fun q => by
  rw [Int32.lt_iff_toInt_lt] at q; omega
theorem nI_m1 {k : Nat} (h : k < 2 ^ 31) : nI k ≠ -1 := fun q => by
  have := nI_pos h
  rw [q] at this
  exact this (by decide)
theorem nI_inj {a b : Nat} (ha : a < 2 ^ 31) (hb : b < 2 ^ 31) (h : nI a = nI b) : a = b := (nI_eq ha hb).mp h
set_option maxHeartbeats 4000000 in
set_option maxRecDepth 100000 in
/-- columnThatSaves(): the first column whose cost is below 0, or -1 -/
theorem c_X0_columnThatSaves (l : Launch) (dC : Nat → ClassId) (dI : Nat → Nat → Nat) (h0 qc qh : Nat) (r : Nat → Nat) (cA cI cJ : ClassId) (sz : Nat) (me nw : Nat) (u : Int64) (tw : Int32) (iv : Int64) (hd : Nat → Int32) (M : Nat → Nat → Int64) (hm : me < 10) (hn : nw < 17) : Met l yX0_columnThatSaves wsX0_columnThatSaves ({ frames := 0, cells := 0, slots := 0, locals := 0 }) (va_Pc [.ref h0] (fun U => U.heap.size = sz ∧ va_P (dC, dI) vwCl (wgW h0 qc qh r cA cI cJ me nw u tw iv hd M) U.heap ∧ va_K (dC, dI) vwCl (wgT cA cI cJ) U ∧ va_D (fun _ => True) (wgW h0 qc qh r cA cI cJ me nw u tw iv hd M))) (va_Qi (fun (x : Int32) (v : Unit) => (∃ k, k < nw ∧ x = nI k ∧ M me k < 0 ∧ ∀ j, j < k → ¬ M me j < 0) ∨ (x = -1 ∧ ∀ j, j < nw → ¬ M me j < 0)) (fun v t => va_P (dC, dI) vwCl (wgW h0 qc qh r cA cI cJ me nw u tw iv hd M) t.heap ∧ va_K (dC, dI) vwCl (wgT cA cI cJ) t ∧ va_D (va_A (wgW h0 qc qh r cA cI cJ me nw u tw iv hd M) sz) (wgW h0 qc qh r cA cI cJ me nw u tw iv hd M)) (va_A (wgW h0 qc qh r cA cI cJ me nw u tw iv hd M) sz)) 0 0 (va_A (wgW h0 qc qh r cA cI cJ me nw u tw iv hd M) sz) := by
  refine Met.ofW (cc := cX0_columnThatSaves) (maxL := 2) (ret := (some .int)) (by decide) rfl ?_
  intro p e s m args below meth c s₁ B hml hv
  obtain ⟨rfl, hsz, hP, hK, hD0⟩ := hv
  have hx := B.exec
  have hb := B.bytes
  have hr := B.returns
  have hts := atoms_spec (ws := wsX0_columnThatSaves) B.pre
  have hown : s.vm.findClass RX0 = some m.cls := findClass_of_methodNamed B.named
  subst hsz
  have hD := hD0.self (sz := s.heap.size)
  clear hD0
  generalize hAe : va_A (wgW h0 qc qh r cA cI cJ me nw u tw iv hd M) s.heap.size = A at hD ⊢
  have hA : ∀ q : Nat, s.heap.size ≤ q → A q := fun q h => by rw [← hAe]; exact Or.inr h
  have hl := lv_entry ([.ref h0]) (n := 2) (Nat.le_of_ble_eq_true rfl)
  rw [lg_entry_eq]
  generalize (lg_sl ([.ref h0]) ++ List.replicate (2 - (lg_sl ([.ref h0])).length) Slot.unset).toArray = ls at hl ⊢
  have hl : lv_has ls 2 [(0, .ref h0)] := hl
  have hP : va_P (dC, dI) vwCl (wgW h0 qc qh r cA cI cJ me nw u tw iv hd M) s.heap := hP
  obtain ⟨H, hH⟩ : ∃ H, H = s.heap := ⟨_, rfl⟩
  have hS : va_S A s.heap H [] := by rw [hH]; exact va_S.rf
  rw [← hH] at hP ⊢
  refine lv_iconst (v := nI 0) hx hb dX0_columnThatSaves_0 (by decide) ?_
  refine lv_istore_n (lv' := [(1, .int (nI 0)), (0, .ref h0)]) hx hb dX0_columnThatSaves_1 rfl hl (by decide) rfl (fun ls hl => ?_)
  have loop : ∀ (d k : Nat) (ls : Array Slot), k + d = nw → (∀ j, j < k → ¬ M me j < 0) → lv_has ls 2 [(1, .int (nI k)), (0, .ref h0)] → W p l e (headSpec wsX0_columnThatSaves ({ frames := 0, cells := 0, slots := 0, locals := 0 })).room s m #[.ref h0] below meth c H [] 0 0 (MQ below (va_Qi (fun (x : Int32) (v : Unit) => (∃ k, k < nw ∧ x = nI k ∧ M me k < 0 ∧ ∀ j, j < k → ¬ M me j < 0) ∨ (x = -1 ∧ ∀ j, j < nw → ¬ M me j < 0)) (fun v t => va_P (dC, dI) vwCl (wgW h0 qc qh r cA cI cJ me nw u tw iv hd M) t.heap ∧ va_K (dC, dI) vwCl (wgT cA cI cJ) t ∧ va_D A (wgW h0 qc qh r cA cI cJ me nw u tw iv hd M)) A) #[.ref h0] s 0 0 A) (F0 m 2 ls []) := by
    intro d
    induction d with
    | zero =>
      intro k ls hk hz hl
      refine lv_iload_n hx hb dX0_columnThatSaves_2 rfl (lv_at hl 0 rfl) ?_
      refine lv_aload_n hx hb dX0_columnThatSaves_3 rfl (lv_at hl 1 rfl) ?_
      refine va_get (D := (dC, dI)) (ci := 0) (v := .int (nI nw)) (C := RX0) (T := TX0) (N := 7) hx hb hts (fun _ h => List.mem_cons_of_mem _ (List.mem_append_right _ h)) hown hK hP 0 rfl rfl 3 (by decide) (hts (.fieldLink RX0 24 "RankFinder$Weighing" "weights" "I") (List.mem_of_getElem? (i := 1) rfl)) (fun _ h9 => h9) rfl dX0_columnThatSaves_4 ?_
      refine lv_icmp_ge (tgt := 34) hx hb dX0_columnThatSaves_7 (by decide) (fun c1 => ?_) (fun c1 => ?_)
      · refine lv_iconst (v := (-1)) hx hb dX0_columnThatSaves_34 (by decide) ?_
        exact W.iret (v := (-1)) hx hb hr (fun t ht hW => ⟨⟨(-1), (), rfl, Or.inr ⟨rfl, fun j hj => hz j (by omega)⟩, by rw [ht]; exact hP, va_K.moved hW.alike hK, hD⟩, hS.F ht⟩) hS.2.2 dX0_columnThatSaves_35
      · exact absurd (nI_le (by omega) (by omega)) c1
    | succ d ih =>
      intro k ls hk hz hl
      refine lv_iload_n hx hb dX0_columnThatSaves_2 rfl (lv_at hl 0 rfl) ?_
      refine lv_aload_n hx hb dX0_columnThatSaves_3 rfl (lv_at hl 1 rfl) ?_
      refine va_get (D := (dC, dI)) (ci := 0) (v := .int (nI nw)) (C := RX0) (T := TX0) (N := 7) hx hb hts (fun _ h => List.mem_cons_of_mem _ (List.mem_append_right _ h)) hown hK hP 0 rfl rfl 3 (by decide) (hts (.fieldLink RX0 24 "RankFinder$Weighing" "weights" "I") (List.mem_of_getElem? (i := 1) rfl)) (fun _ h9 => h9) rfl dX0_columnThatSaves_4 ?_
      refine lv_icmp_ge (tgt := 34) hx hb dX0_columnThatSaves_7 (by decide) (fun c1 => ?_) (fun c1 => ?_)
      · exact absurd c1 (nI_ge (by omega) (by omega))
      · refine lv_aload_n hx hb dX0_columnThatSaves_10 rfl (lv_at hl 1 rfl) ?_
        refine va_get (D := (dC, dI)) (ci := 0) (v := .ref qc) (C := RX0) (T := TX0) (N := 7) hx hb hts (fun _ h => List.mem_cons_of_mem _ (List.mem_append_right _ h)) hown hK hP 0 rfl rfl 0 (by decide) (hts (.fieldLink RX0 13 "RankFinder$Weighing" "cell" "[[J") (List.mem_of_getElem? (i := 2) rfl)) (fun _ h9 => h9) rfl dX0_columnThatSaves_11 ?_
        refine lv_aload_n hx hb dX0_columnThatSaves_14 rfl (lv_at hl 1 rfl) ?_
        refine va_get (D := (dC, dI)) (ci := 0) (v := .int (nI me)) (C := RX0) (T := TX0) (N := 7) hx hb hts (fun _ h => List.mem_cons_of_mem _ (List.mem_append_right _ h)) hown hK hP 0 rfl rfl 2 (by decide) (hts (.fieldLink RX0 20 "RankFinder$Weighing" "equations" "I") (List.mem_of_getElem? (i := 3) rfl)) (fun _ h9 => h9) rfl dX0_columnThatSaves_15 ?_
        refine na_aald (y := r me) hx hb hK hP 1 0 rfl rfl hm (by decide) (if_pos hm) dX0_columnThatSaves_18 ?_
        refine lv_iload_n hx hb dX0_columnThatSaves_19 rfl (lv_at hl 0 rfl) ?_
        refine na_lald hx hb hK hP (3 + me) 2 (gG_get hm rfl) rfl (show k < 17 by omega) (by decide) dX0_columnThatSaves_20 ?_
        refine lv_lconst (v := 0) hx hb dX0_columnThatSaves_21 (by decide) ?_
        refine W.lcmp hx hb dX0_columnThatSaves_22 ?_
        refine lv_if_ge (tgt := 28) hx hb dX0_columnThatSaves_23 (by decide) (fun c2 => ?_) (fun c2 => ?_)
        · rw [lg_cmp_ge] at c2
          refine lv_iinc (v := nI (k + 1)) (lv' := [(1, .int (nI (k + 1))), (0, .ref h0)]) hx hb dX0_columnThatSaves_28 hl (k := 0) rfl (nI_1 _) (by decide) rfl (fun ls hl => ?_)
          refine lv_goto (tgt := 2) hx hb dX0_columnThatSaves_31 (by decide) ?_
          exact ih (k + 1) ls (by omega) (fun j hj => by
            by_cases e9 : j = k
            · subst e9; exact Int64.not_lt.mpr c2
            · exact hz j (by omega)) (lv_sub hl [0, 1] rfl)
        · rw [lg_cmp_ge] at c2
          refine lv_iload_n hx hb dX0_columnThatSaves_26 rfl (lv_at hl 0 rfl) ?_
          exact W.iret (v := (nI k)) hx hb hr (fun t ht hW => ⟨⟨(nI k), (), rfl, Or.inl ⟨k, by omega, rfl, Int64.not_le.mp c2, hz⟩, by rw [ht]; exact hP, va_K.moved hW.alike hK, hD⟩, hS.F ht⟩) hS.2.2 dX0_columnThatSaves_27
  exact loop nw 0 ls (by omega) (fun j hj => by omega) hl
set_option maxHeartbeats 4000000 in
set_option maxRecDepth 100000 in
/-- holdsLess(i, best) -/
theorem c_X0_holdsLess (l : Launch) (dC : Nat → ClassId) (dI : Nat → Nat → Nat) (h0 qc qh : Nat) (r : Nat → Nat) (cA cI cJ : ClassId) (sz : Nat) (me nw : Nat) (u : Int64) (tw : Int32) (iv : Int64) (hd : Nat → Int32) (M : Nat → Nat → Int64) (i : Nat) (bst : Int32) (hi : i < 9) (hbs : bst = -1 ∨ ∃ b, b < 9 ∧ bst = nI b) : Met l yX0_holdsLess wsX0_holdsLess ({ frames := 0, cells := 0, slots := 0, locals := 0 }) (va_Pc [.ref h0, .int (nI i), .int bst] (fun U => U.heap.size = sz ∧ va_P (dC, dI) vwCl (wgW h0 qc qh r cA cI cJ me nw u tw iv hd M) U.heap ∧ va_K (dC, dI) vwCl (wgT cA cI cJ) U ∧ va_D (fun _ => True) (wgW h0 qc qh r cA cI cJ me nw u tw iv hd M))) (va_Qi (fun (x : Int32) (v : Unit) => (x = 1 ∧ hd i ≠ -1 ∧ (bst = -1 ∨ ∃ b, b < 9 ∧ bst = nI b ∧ hd i < hd b)) ∨ (x = 0 ∧ (hd i = -1 ∨ ∃ b, b < 9 ∧ bst = nI b ∧ ¬ hd i < hd b))) (fun v t => va_P (dC, dI) vwCl (wgW h0 qc qh r cA cI cJ me nw u tw iv hd M) t.heap ∧ va_K (dC, dI) vwCl (wgT cA cI cJ) t ∧ va_D (va_A (wgW h0 qc qh r cA cI cJ me nw u tw iv hd M) sz) (wgW h0 qc qh r cA cI cJ me nw u tw iv hd M)) (va_A (wgW h0 qc qh r cA cI cJ me nw u tw iv hd M) sz)) 0 0 (va_A (wgW h0 qc qh r cA cI cJ me nw u tw iv hd M) sz) := by
  refine Met.ofW (cc := cX0_holdsLess) (maxL := 3) (ret := (some .boolean)) (by decide) rfl ?_
  intro p e s m args below meth c s₁ B hml hv
  obtain ⟨rfl, hsz, hP, hK, hD0⟩ := hv
  have hx := B.exec
  have hb := B.bytes
  have hr := B.returns
  have hts := atoms_spec (ws := wsX0_holdsLess) B.pre
  have hown : s.vm.findClass RX0 = some m.cls := findClass_of_methodNamed B.named
  subst hsz
  have hD := hD0.self (sz := s.heap.size)
  clear hD0
  generalize hAe : va_A (wgW h0 qc qh r cA cI cJ me nw u tw iv hd M) s.heap.size = A at hD ⊢
  have hA : ∀ q : Nat, s.heap.size ≤ q → A q := fun q h => by rw [← hAe]; exact Or.inr h
  have hl := lv_entry ([.ref h0, .int (nI i), .int bst]) (n := 3) (Nat.le_of_ble_eq_true rfl)
  rw [lg_entry_eq]
  generalize (lg_sl ([.ref h0, .int (nI i), .int bst]) ++ List.replicate (3 - (lg_sl ([.ref h0, .int (nI i), .int bst])).length) Slot.unset).toArray = ls at hl ⊢
  have hl : lv_has ls 3 [(0, .ref h0), (1, .int (nI i)), (2, .int bst)] := hl
  have hP : va_P (dC, dI) vwCl (wgW h0 qc qh r cA cI cJ me nw u tw iv hd M) s.heap := hP
  obtain ⟨H, hH⟩ : ∃ H, H = s.heap := ⟨_, rfl⟩
  have hS : va_S A s.heap H [] := by rw [hH]; exact va_S.rf
  rw [← hH] at hP ⊢
  refine lv_aload_n hx hb dX0_holdsLess_0 rfl (lv_at hl 0 rfl) ?_
  refine va_get (D := (dC, dI)) (ci := 0) (v := .ref qh) (C := RX0) (T := TX0) (N := 7) hx hb hts (fun _ h => List.mem_cons_of_mem _ (List.mem_append_right _ h)) hown hK hP 0 rfl rfl 1 (by decide) (hts (.fieldLink RX0 16 "RankFinder$Weighing" "held" "[I") (List.mem_of_getElem? (i := 1) rfl)) (fun _ h9 => h9) rfl dX0_holdsLess_1 ?_
  refine lv_iload_n hx hb dX0_holdsLess_4 rfl (lv_at hl 1 rfl) ?_
  refine na_iald hx hb hK hP 2 1 rfl rfl hi (by decide) dX0_holdsLess_5 ?_
  refine lv_iconst (v := (-1)) hx hb dX0_holdsLess_6 (by decide) ?_
  refine lv_icmp_eq (tgt := 34) hx hb dX0_holdsLess_7 (by decide) (fun c1 => ?_) (fun c1 => ?_)
  · refine lv_iconst (v := nI 0) hx hb dX0_holdsLess_34 (by decide) ?_
    exact W.zret (v := (nI 0)) hx hb hr (by rfl) (fun t ht hW => ⟨⟨(nI 0), (), rfl, Or.inr ⟨rfl, Or.inl c1⟩, by rw [ht]; exact hP, va_K.moved hW.alike hK, hD⟩, hS.F ht⟩) hS.2.2 dX0_holdsLess_35
  · refine lv_iload_n hx hb dX0_holdsLess_10 rfl (lv_at hl 2 rfl) ?_
    refine lv_iconst (v := (-1)) hx hb dX0_holdsLess_11 (by decide) ?_
    refine lv_icmp_eq (tgt := 30) hx hb dX0_holdsLess_12 (by decide) (fun c2 => ?_) (fun c2 => ?_)
    · refine lv_iconst (v := nI 1) hx hb dX0_holdsLess_30 (by decide) ?_
      refine lv_goto (tgt := 35) hx hb dX0_holdsLess_31 (by decide) ?_
      exact W.zret (v := (nI 1)) hx hb hr (by rfl) (fun t ht hW => ⟨⟨(nI 1), (), rfl, Or.inl ⟨rfl, c1, Or.inl c2⟩, by rw [ht]; exact hP, va_K.moved hW.alike hK, hD⟩, hS.F ht⟩) hS.2.2 dX0_holdsLess_35
    · obtain ⟨b, hb9, rfl⟩ : ∃ b, b < 9 ∧ bst = nI b := hbs.resolve_left c2
      refine lv_aload_n hx hb dX0_holdsLess_15 rfl (lv_at hl 0 rfl) ?_
      refine va_get (D := (dC, dI)) (ci := 0) (v := .ref qh) (C := RX0) (T := TX0) (N := 7) hx hb hts (fun _ h => List.mem_cons_of_mem _ (List.mem_append_right _ h)) hown hK hP 0 rfl rfl 1 (by decide) (hts (.fieldLink RX0 16 "RankFinder$Weighing" "held" "[I") (List.mem_of_getElem? (i := 1) rfl)) (fun _ h9 => h9) rfl dX0_holdsLess_16 ?_
      refine lv_iload_n hx hb dX0_holdsLess_19 rfl (lv_at hl 1 rfl) ?_
      refine na_iald hx hb hK hP 2 1 rfl rfl hi (by decide) dX0_holdsLess_20 ?_
      refine lv_aload_n hx hb dX0_holdsLess_21 rfl (lv_at hl 0 rfl) ?_
      refine va_get (D := (dC, dI)) (ci := 0) (v := .ref qh) (C := RX0) (T := TX0) (N := 7) hx hb hts (fun _ h => List.mem_cons_of_mem _ (List.mem_append_right _ h)) hown hK hP 0 rfl rfl 1 (by decide) (hts (.fieldLink RX0 16 "RankFinder$Weighing" "held" "[I") (List.mem_of_getElem? (i := 1) rfl)) (fun _ h9 => h9) rfl dX0_holdsLess_22 ?_
      refine lv_iload_n hx hb dX0_holdsLess_25 rfl (lv_at hl 2 rfl) ?_
      refine na_iald hx hb hK hP 2 1 rfl rfl hb9 (by decide) dX0_holdsLess_26 ?_
      refine lv_icmp_ge (tgt := 34) hx hb dX0_holdsLess_27 (by decide) (fun c3 => ?_) (fun c3 => ?_)
      · refine lv_iconst (v := nI 0) hx hb dX0_holdsLess_34 (by decide) ?_
        exact W.zret (v := (nI 0)) hx hb hr (by rfl) (fun t ht hW => ⟨⟨(nI 0), (), rfl, Or.inr ⟨rfl, Or.inr ⟨b, hb9, rfl, Int32.not_lt.mpr c3⟩⟩, by rw [ht]; exact hP, va_K.moved hW.alike hK, hD⟩, hS.F ht⟩) hS.2.2 dX0_holdsLess_35
      · refine lv_iconst (v := nI 1) hx hb dX0_holdsLess_30 (by decide) ?_
        refine lv_goto (tgt := 35) hx hb dX0_holdsLess_31 (by decide) ?_
        exact W.zret (v := (nI 1)) hx hb hr (by rfl) (fun t ht hW => ⟨⟨(nI 1), (), rfl, Or.inl ⟨rfl, c1, Or.inr ⟨b, hb9, rfl, Int32.not_le.mp c3⟩⟩, by rw [ht]; exact hP, va_K.moved hW.alike hK, hD⟩, hS.F ht⟩) hS.2.2 dX0_holdsLess_35
set_option maxHeartbeats 4000000 in
set_option maxRecDepth 100000 in
/-- rowThatLimits(cl) -/
theorem c_X0_rowThatLimits (l : Launch) (dC : Nat → ClassId) (dI : Nat → Nat → Nat) (h0 qc qh : Nat) (r : Nat → Nat) (cA cI cJ : ClassId) (sz : Nat) (me nw : Nat) (u : Int64) (tw : Int32) (iv : Int64) (hd : Nat → Int32) (M : Nat → Nat → Int64) (cl : Nat) (hm : me < 10) (hn : nw < 17) (hc : cl < nw) : Met l yX0_rowThatLimits wsX0_rowThatLimits ({ frames := 1, cells := 0, slots := 0, locals := 22 }) (va_Pc [.ref h0, .int (nI cl)] (fun U => U.heap.size = sz ∧ va_P (dC, dI) vwCl (wgW h0 qc qh r cA cI cJ me nw u tw iv hd M) U.heap ∧ va_K (dC, dI) vwCl (wgT cA cI cJ) U ∧ va_D (fun _ => True) (wgW h0 qc qh r cA cI cJ me nw u tw iv hd M))) (va_Qi (fun (x : Int32) (v : Unit) => (x = -1 ∧ ∀ i, i < me → 0 < M i cl → hd i = -1) ∨ (∃ b, b < me ∧ x = nI b ∧ 0 < M b cl ∧ hd b ≠ -1 ∧ ∀ i, i < me → 0 < M i cl → hd i ≠ -1 → ¬ hd i < hd b)) (fun v t => va_P (dC, dI) vwCl (wgW h0 qc qh r cA cI cJ me nw u tw iv hd M) t.heap ∧ va_K (dC, dI) vwCl (wgT cA cI cJ) t ∧ va_D (va_A (wgW h0 qc qh r cA cI cJ me nw u tw iv hd M) sz) (wgW h0 qc qh r cA cI cJ me nw u tw iv hd M)) (va_A (wgW h0 qc qh r cA cI cJ me nw u tw iv hd M) sz)) 0 0 (va_A (wgW h0 qc qh r cA cI cJ me nw u tw iv hd M) sz) := by
  refine Met.ofW (cc := cX0_rowThatLimits) (maxL := 4) (ret := (some .int)) (by decide) rfl ?_
  intro p e s m args below meth c s₁ B hml hv
  obtain ⟨rfl, hsz, hP, hK, hD0⟩ := hv
  have hx := B.exec
  have hb := B.bytes
  have hr := B.returns
  have hts := atoms_spec (ws := wsX0_rowThatLimits) B.pre
  have hown : s.vm.findClass RX0 = some m.cls := findClass_of_methodNamed B.named
  subst hsz
  have hD := hD0.self (sz := s.heap.size)
  clear hD0
  generalize hAe : va_A (wgW h0 qc qh r cA cI cJ me nw u tw iv hd M) s.heap.size = A at hD ⊢
  have hA : ∀ q : Nat, s.heap.size ≤ q → A q := fun q h => by rw [← hAe]; exact Or.inr h
  have hl := lv_entry ([.ref h0, .int (nI cl)]) (n := 4) (Nat.le_of_ble_eq_true rfl)
  rw [lg_entry_eq]
  generalize (lg_sl ([.ref h0, .int (nI cl)]) ++ List.replicate (4 - (lg_sl ([.ref h0, .int (nI cl)])).length) Slot.unset).toArray = ls at hl ⊢
  have hl : lv_has ls 4 [(0, .ref h0), (1, .int (nI cl))] := hl
  have hP : va_P (dC, dI) vwCl (wgW h0 qc qh r cA cI cJ me nw u tw iv hd M) s.heap := hP
  obtain ⟨H, hH⟩ : ∃ H, H = s.heap := ⟨_, rfl⟩
  have hS : va_S A s.heap H [] := by rw [hH]; exact va_S.rf
  rw [← hH] at hP ⊢
  refine lv_iconst (v := (-1)) hx hb dX0_rowThatLimits_0 (by decide) ?_
  refine lv_istore_n (lv' := [(2, .int (-1)), (0, .ref h0), (1, .int (nI cl))]) hx hb dX0_rowThatLimits_1 rfl hl (by decide) rfl (fun ls hl => ?_)
  refine lv_iconst (v := nI 0) hx hb dX0_rowThatLimits_2 (by decide) ?_
  refine lv_istore_n (lv' := [(3, .int (nI 0)), (2, .int (-1)), (0, .ref h0), (1, .int (nI cl))]) hx hb dX0_rowThatLimits_3 rfl hl (by decide) rfl (fun ls hl => ?_)
  have loop : ∀ (d k : Nat) (bst : Int32) (H : Heap) (locs : List Loc) (ls : Array Slot), k + d = me → ((bst = -1 ∧ ∀ i, i < k → 0 < M i cl → hd i = -1) ∨ (∃ b, b < k ∧ bst = nI b ∧ 0 < M b cl ∧ hd b ≠ -1 ∧ ∀ i, i < k → 0 < M i cl → hd i ≠ -1 → ¬ hd i < hd b)) → va_P (dC, dI) vwCl (wgW h0 qc qh r cA cI cJ me nw u tw iv hd M) H → va_K (dC, dI) vwCl (wgT cA cI cJ) s → va_D A (wgW h0 qc qh r cA cI cJ me nw u tw iv hd M) → va_S A s.heap H locs → lv_has ls 4 [(3, .int (nI k)), (2, .int bst), (0, .ref h0), (1, .int (nI cl))] → W p l e (headSpec wsX0_rowThatLimits ({ frames := 1, cells := 0, slots := 0, locals := 22 })).room s m #[.ref h0, .int (nI cl)] below meth c H locs 0 0 (MQ below (va_Qi (fun (x : Int32) (v : Unit) => (x = -1 ∧ ∀ i, i < me → 0 < M i cl → hd i = -1) ∨ (∃ b, b < me ∧ x = nI b ∧ 0 < M b cl ∧ hd b ≠ -1 ∧ ∀ i, i < me → 0 < M i cl → hd i ≠ -1 → ¬ hd i < hd b)) (fun v t => va_P (dC, dI) vwCl (wgW h0 qc qh r cA cI cJ me nw u tw iv hd M) t.heap ∧ va_K (dC, dI) vwCl (wgT cA cI cJ) t ∧ va_D A (wgW h0 qc qh r cA cI cJ me nw u tw iv hd M)) A) #[.ref h0, .int (nI cl)] s 0 0 A) (F0 m 4 ls []) := by
    intro d
    induction d with
    | zero =>
      intro k bst H locs ls hk hz hP hK hD hS hl
      refine lv_iload_n hx hb dX0_rowThatLimits_4 rfl (lv_at hl 0 rfl) ?_
      refine lv_aload_n hx hb dX0_rowThatLimits_5 rfl (lv_at hl 2 rfl) ?_
      refine va_get (D := (dC, dI)) (ci := 0) (v := .int (nI me)) (C := RX0) (T := TX0) (N := 7) hx hb hts (fun _ h => List.mem_cons_of_mem _ (List.mem_append_right _ h)) hown hK hP 0 rfl rfl 2 (by decide) (hts (.fieldLink RX0 20 "RankFinder$Weighing" "equations" "I") (List.mem_of_getElem? (i := 1) rfl)) (fun _ h9 => h9) rfl dX0_rowThatLimits_6 ?_
      refine lv_icmp_ge (tgt := 42) hx hb dX0_rowThatLimits_9 (by decide) (fun c1 => ?_) (fun c1 => ?_)
      · refine lv_iload_n hx hb dX0_rowThatLimits_42 rfl (lv_at hl 1 rfl) ?_
        obtain rfl : k = me := by omega
        exact W.iret (v := bst) hx hb hr (fun t ht hW => ⟨⟨bst, (), rfl, hz, by rw [ht]; exact hP, va_K.moved hW.alike hK, hD⟩, hS.F ht⟩) hS.2.2 dX0_rowThatLimits_43
      · exact absurd (nI_le (by omega) (by omega)) c1
    | succ d ih =>
      intro k bst H locs ls hk hz hP hK hD hS hl
      refine lv_iload_n hx hb dX0_rowThatLimits_4 rfl (lv_at hl 0 rfl) ?_
      refine lv_aload_n hx hb dX0_rowThatLimits_5 rfl (lv_at hl 2 rfl) ?_
      refine va_get (D := (dC, dI)) (ci := 0) (v := .int (nI me)) (C := RX0) (T := TX0) (N := 7) hx hb hts (fun _ h => List.mem_cons_of_mem _ (List.mem_append_right _ h)) hown hK hP 0 rfl rfl 2 (by decide) (hts (.fieldLink RX0 20 "RankFinder$Weighing" "equations" "I") (List.mem_of_getElem? (i := 1) rfl)) (fun _ h9 => h9) rfl dX0_rowThatLimits_6 ?_
      refine lv_icmp_ge (tgt := 42) hx hb dX0_rowThatLimits_9 (by decide) (fun c1 => ?_) (fun c1 => ?_)
      · exact absurd c1 (nI_ge (by omega) (by omega))
      · refine lv_aload_n hx hb dX0_rowThatLimits_12 rfl (lv_at hl 2 rfl) ?_
        refine va_get (D := (dC, dI)) (ci := 0) (v := .ref qc) (C := RX0) (T := TX0) (N := 7) hx hb hts (fun _ h => List.mem_cons_of_mem _ (List.mem_append_right _ h)) hown hK hP 0 rfl rfl 0 (by decide) (hts (.fieldLink RX0 13 "RankFinder$Weighing" "cell" "[[J") (List.mem_of_getElem? (i := 2) rfl)) (fun _ h9 => h9) rfl dX0_rowThatLimits_13 ?_
        refine lv_iload_n hx hb dX0_rowThatLimits_16 rfl (lv_at hl 0 rfl) ?_
        refine na_aald (y := r k) hx hb hK hP 1 0 rfl rfl (show k < 10 by omega) (by decide) (if_pos (show k < 10 by omega)) dX0_rowThatLimits_17 ?_
        refine lv_iload_n hx hb dX0_rowThatLimits_18 rfl (lv_at hl 3 rfl) ?_
        refine na_lald hx hb hK hP (3 + k) 2 (gG_get (show k < 10 by omega) rfl) rfl (show cl < 17 by omega) (by decide) dX0_rowThatLimits_19 ?_
        refine lv_lconst (v := 0) hx hb dX0_rowThatLimits_20 (by decide) ?_
        refine W.lcmp hx hb dX0_rowThatLimits_21 ?_
        refine lv_if_le (tgt := 36) hx hb dX0_rowThatLimits_22 (by decide) (fun c2 => ?_) (fun c2 => ?_)
        · rw [lg_cmp_le] at c2
          replace c2 := Int64.not_lt.mpr c2
          refine lv_iinc (v := nI (k + 1)) (lv' := [(3, .int (nI (k + 1))), (2, .int bst), (0, .ref h0), (1, .int (nI cl))]) hx hb dX0_rowThatLimits_36 hl (k := 0) rfl (nI_1 _) (by decide) rfl (fun ls hl => ?_)
          refine lv_goto (tgt := 4) hx hb dX0_rowThatLimits_39 (by decide) ?_
          exact ih (k + 1) bst H _ ls (by omega) (by
            rcases hz with ⟨h1, h2⟩ | ⟨b, h1, h2, h3, h4, h5⟩
            · exact Or.inl ⟨h1, fun i hi q => by
                by_cases e9 : i = k
                · subst e9; exact absurd q c2
                · exact h2 i (by omega) q⟩
            · exact Or.inr ⟨b, by omega, h2, h3, h4, fun i hi q q2 => by
                by_cases e9 : i = k
                · subst e9; exact absurd q c2
                · exact h5 i (by omega) q q2⟩) hP hK hD hS (lv_sub hl [0, 1, 2, 3] rfl)
        · rw [lg_cmp_le] at c2
          replace c2 := Int64.not_le.mp c2
          have hbs : bst = -1 ∨ ∃ b, b < 9 ∧ bst = nI b := by
            rcases hz with ⟨h1, _⟩ | ⟨b, h1, h2, _⟩
            · exact Or.inl h1
            · exact Or.inr ⟨b, by omega, h2⟩
          refine lv_aload_n hx hb dX0_rowThatLimits_25 rfl (lv_at hl 2 rfl) ?_
          refine lv_iload_n hx hb dX0_rowThatLimits_26 rfl (lv_at hl 0 rfl) ?_
          refine lv_iload_n hx hb dX0_rowThatLimits_27 rfl (lv_at hl 1 rfl) ?_
          have hFc : ∀ q, va_A (wgW h0 qc qh r cA cI cJ me nw u tw iv hd M) H.size q → A q := va_fall hD hS hA
          refine va_calli (va_runV (As := [.int (nI k), .int bst]) (rest := []) ⟨hx, hb, hml, hown, hts⟩ (c_X0_holdsLess l dC dI h0 qc qh r cA cI cJ H.size me nw u tw iv hd M k bst (by omega) hbs) (cwV 2 hts gX0_rowThatLimits_X0_holdsLess rfl rfl rfl (by decide +kernel) ⟨Nat.le_of_ble_eq_true rfl, Nat.le_of_ble_eq_true rfl⟩) ⟨fun a U g mk q => by obtain ⟨q0, q1, qP, qK, qD⟩ := q; exact ⟨q0, q1, qP, va_K.moved (u := U) (U := U.calling g mk a) (Vm.Alike.refl U.vm) qK, qD⟩, va_recv hK hP (ci := 0) (q0 := 0) rfl rfl, fun U hU hW => ⟨rfl, by rw [hU], by rw [hU]; exact hP, va_K.moved hW.alike hK, hD.weaken (fun _ _ _ _ => trivial)⟩⟩ rfl rfl hl.1 rfl (lv_room (Nat.le_of_ble_eq_true rfl)) dX0_rowThatLimits_28 ⟨(Nat.zero_le _), (Nat.zero_le _)⟩) hS (fun q _ h => hFc q h) hFc (fun r_28 u t H1 locs ht hvm hw hB hz1 hk1 hS => ?_)
          obtain ⟨hP1, hK1, hD1⟩ := hB
          rw [ht] at hP1
          clear hP hD hK
          have hK := va_K.moved hvm.symm hK1
          have hP := hP1
          have hD := hD1.weaken (B := A) (fun _ q _ h => hFc q.1 h)
          clear hP1 hD1 hK1 hFc hk1 hz1 ht hvm
          generalize H1 = H at hP hS ⊢
          refine lv_if_eq (tgt := 36) hx hb dX0_rowThatLimits_31 (by decide) (fun c3 => ?_) (fun c3 => ?_)
          · rcases hw with ⟨q, _⟩ | ⟨q, hq⟩
            · rw [q] at c3; exact absurd c3 (by decide)
            · refine lv_iinc (v := nI (k + 1)) (lv' := [(3, .int (nI (k + 1))), (2, .int bst), (0, .ref h0), (1, .int (nI cl))]) hx hb dX0_rowThatLimits_36 hl (k := 0) rfl (nI_1 _) (by decide) rfl (fun ls hl => ?_)
              refine lv_goto (tgt := 4) hx hb dX0_rowThatLimits_39 (by decide) ?_
              exact ih (k + 1) bst H _ ls (by omega) (by
                rcases hz with ⟨h1, h2⟩ | ⟨b, h1, h2, h3, h4, h5⟩
                · exact Or.inl ⟨h1, fun i hi q => by
                    by_cases e9 : i = k
                    · subst e9; rcases hq with q5 | ⟨b, q5, q6, q7⟩
                      · exact q5
                      · rw [h1] at q6; exact absurd q6.symm (nI_m1 (by omega))
                    · exact h2 i (by omega) q⟩
                · exact Or.inr ⟨b, by omega, h2, h3, h4, fun i hi q q2 => by
                    by_cases e9 : i = k
                    · subst e9; rcases hq with q5 | ⟨b', q5, q6, q7⟩
                      · exact absurd q5 q2
                      · rw [h2] at q6
                        rw [nI_inj (by omega) (by omega) q6]; exact q7
                    · exact h5 i (by omega) q q2⟩) hP hK hD hS (lv_sub hl [0, 1, 2, 3] rfl)
          · rcases hw with ⟨q, hq1, hq2⟩ | ⟨q, hq⟩
            rotate_left
            · rw [q] at c3; exact absurd rfl c3
            refine lv_iload_n hx hb dX0_rowThatLimits_34 rfl (lv_at hl 0 rfl) ?_
            refine lv_istore_n (lv' := [(2, .int (nI k)), (3, .int (nI k)), (0, .ref h0), (1, .int (nI cl))]) hx hb dX0_rowThatLimits_35 rfl hl (by decide) rfl (fun ls hl => ?_)
            refine lv_iinc (v := nI (k + 1)) (lv' := [(3, .int (nI (k + 1))), (2, .int (nI k)), (0, .ref h0), (1, .int (nI cl))]) hx hb dX0_rowThatLimits_36 hl (k := 1) rfl (nI_1 _) (by decide) rfl (fun ls hl => ?_)
            refine lv_goto (tgt := 4) hx hb dX0_rowThatLimits_39 (by decide) ?_
            exact ih (k + 1) (nI k) H _ ls (by omega) (by
              refine Or.inr ⟨k, by omega, rfl, c2, hq1, fun i hi q5 q6 => ?_⟩
              by_cases e9 : i = k
              · subst e9; exact i32_irr
              · rcases hz with ⟨h1, h2⟩ | ⟨b, h1, h2, h3, h4, h5⟩
                · exact absurd (h2 i (by omega) q5) q6
                · rcases hq2 with q7 | ⟨b', q7, q8, q9⟩
                  · rw [h2] at q7; exact absurd q7 (nI_m1 (by omega))
                  · rw [h2] at q8
                    have := nI_inj (by omega) (by omega) q8
                    subst this
                    exact i32_lt_tr (h5 i (by omega) q5 q6) q9) hP hK hD hS (lv_sub hl [0, 1, 2, 3] rfl)
  exact loop me 0 (-1) H [] ls (by omega) (Or.inl ⟨rfl, fun i hi => by omega⟩) hP hK hD hS (lv_sub hl [0, 1, 2, 3] rfl)
set_option maxHeartbeats 4000000 in
set_option maxRecDepth 100000 in
/-- rowBelowZero() -/
theorem c_X0_rowBelowZero (l : Launch) (dC : Nat → ClassId) (dI : Nat → Nat → Nat) (h0 qc qh : Nat) (r : Nat → Nat) (cA cI cJ : ClassId) (sz : Nat) (me nw : Nat) (u : Int64) (tw : Int32) (iv : Int64) (hd : Nat → Int32) (M : Nat → Nat → Int64) (hm : me < 10) (hn : nw < 17) : Met l yX0_rowBelowZero wsX0_rowBelowZero ({ frames := 1, cells := 0, slots := 0, locals := 22 }) (va_Pc [.ref h0] (fun U => U.heap.size = sz ∧ va_P (dC, dI) vwCl (wgW h0 qc qh r cA cI cJ me nw u tw iv hd M) U.heap ∧ va_K (dC, dI) vwCl (wgT cA cI cJ) U ∧ va_D (fun _ => True) (wgW h0 qc qh r cA cI cJ me nw u tw iv hd M))) (va_Qi (fun (x : Int32) (v : Unit) => (x = -1 ∧ ∀ i, i < me → M i nw < 0 → hd i = -1) ∨ (∃ b, b < me ∧ x = nI b ∧ M b nw < 0 ∧ hd b ≠ -1 ∧ ∀ i, i < me → M i nw < 0 → hd i ≠ -1 → ¬ hd i < hd b)) (fun v t => va_P (dC, dI) vwCl (wgW h0 qc qh r cA cI cJ me nw u tw iv hd M) t.heap ∧ va_K (dC, dI) vwCl (wgT cA cI cJ) t ∧ va_D (va_A (wgW h0 qc qh r cA cI cJ me nw u tw iv hd M) sz) (wgW h0 qc qh r cA cI cJ me nw u tw iv hd M)) (va_A (wgW h0 qc qh r cA cI cJ me nw u tw iv hd M) sz)) 0 0 (va_A (wgW h0 qc qh r cA cI cJ me nw u tw iv hd M) sz) := by
  refine Met.ofW (cc := cX0_rowBelowZero) (maxL := 3) (ret := (some .int)) (by decide) rfl ?_
  intro p e s m args below meth c s₁ B hml hv
  obtain ⟨rfl, hsz, hP, hK, hD0⟩ := hv
  have hx := B.exec
  have hb := B.bytes
  have hr := B.returns
  have hts := atoms_spec (ws := wsX0_rowBelowZero) B.pre
  have hown : s.vm.findClass RX0 = some m.cls := findClass_of_methodNamed B.named
  subst hsz
  have hD := hD0.self (sz := s.heap.size)
  clear hD0
  generalize hAe : va_A (wgW h0 qc qh r cA cI cJ me nw u tw iv hd M) s.heap.size = A at hD ⊢
  have hA : ∀ q : Nat, s.heap.size ≤ q → A q := fun q h => by rw [← hAe]; exact Or.inr h
  have hl := lv_entry ([.ref h0]) (n := 3) (Nat.le_of_ble_eq_true rfl)
  rw [lg_entry_eq]
  generalize (lg_sl ([.ref h0]) ++ List.replicate (3 - (lg_sl ([.ref h0])).length) Slot.unset).toArray = ls at hl ⊢
  have hl : lv_has ls 3 [(0, .ref h0)] := hl
  have hP : va_P (dC, dI) vwCl (wgW h0 qc qh r cA cI cJ me nw u tw iv hd M) s.heap := hP
  obtain ⟨H, hH⟩ : ∃ H, H = s.heap := ⟨_, rfl⟩
  have hS : va_S A s.heap H [] := by rw [hH]; exact va_S.rf
  rw [← hH] at hP ⊢
  refine lv_iconst (v := (-1)) hx hb dX0_rowBelowZero_0 (by decide) ?_
  refine lv_istore_n (lv' := [(1, .int (-1)), (0, .ref h0)]) hx hb dX0_rowBelowZero_1 rfl hl (by decide) rfl (fun ls hl => ?_)
  refine lv_iconst (v := nI 0) hx hb dX0_rowBelowZero_2 (by decide) ?_
  refine lv_istore_n (lv' := [(2, .int (nI 0)), (1, .int (-1)), (0, .ref h0)]) hx hb dX0_rowBelowZero_3 rfl hl (by decide) rfl (fun ls hl => ?_)
  have loop : ∀ (d k : Nat) (bst : Int32) (H : Heap) (locs : List Loc) (ls : Array Slot), k + d = me → ((bst = -1 ∧ ∀ i, i < k → M i nw < 0 → hd i = -1) ∨ (∃ b, b < k ∧ bst = nI b ∧ M b nw < 0 ∧ hd b ≠ -1 ∧ ∀ i, i < k → M i nw < 0 → hd i ≠ -1 → ¬ hd i < hd b)) → va_P (dC, dI) vwCl (wgW h0 qc qh r cA cI cJ me nw u tw iv hd M) H → va_K (dC, dI) vwCl (wgT cA cI cJ) s → va_D A (wgW h0 qc qh r cA cI cJ me nw u tw iv hd M) → va_S A s.heap H locs → lv_has ls 3 [(2, .int (nI k)), (1, .int bst), (0, .ref h0)] → W p l e (headSpec wsX0_rowBelowZero ({ frames := 1, cells := 0, slots := 0, locals := 22 })).room s m #[.ref h0] below meth c H locs 0 0 (MQ below (va_Qi (fun (x : Int32) (v : Unit) => (x = -1 ∧ ∀ i, i < me → M i nw < 0 → hd i = -1) ∨ (∃ b, b < me ∧ x = nI b ∧ M b nw < 0 ∧ hd b ≠ -1 ∧ ∀ i, i < me → M i nw < 0 → hd i ≠ -1 → ¬ hd i < hd b)) (fun v t => va_P (dC, dI) vwCl (wgW h0 qc qh r cA cI cJ me nw u tw iv hd M) t.heap ∧ va_K (dC, dI) vwCl (wgT cA cI cJ) t ∧ va_D A (wgW h0 qc qh r cA cI cJ me nw u tw iv hd M)) A) #[.ref h0] s 0 0 A) (F0 m 4 ls []) := by
    intro d
    induction d with
    | zero =>
      intro k bst H locs ls hk hz hP hK hD hS hl
      refine lv_iload_n hx hb dX0_rowBelowZero_4 rfl (lv_at hl 0 rfl) ?_
      refine lv_aload_n hx hb dX0_rowBelowZero_5 rfl (lv_at hl 2 rfl) ?_
      refine va_get (D := (dC, dI)) (ci := 0) (v := .int (nI me)) (C := RX0) (T := TX0) (N := 7) hx hb hts (fun _ h => List.mem_cons_of_mem _ (List.mem_append_right _ h)) hown hK hP 0 rfl rfl 2 (by decide) (hts (.fieldLink RX0 20 "RankFinder$Weighing" "equations" "I") (List.mem_of_getElem? (i := 1) rfl)) (fun _ h9 => h9) rfl dX0_rowBelowZero_6 ?_
      refine lv_icmp_ge (tgt := 45) hx hb dX0_rowBelowZero_9 (by decide) (fun c1 => ?_) (fun c1 => ?_)
      · refine lv_iload_n hx hb dX0_rowBelowZero_45 rfl (lv_at hl 1 rfl) ?_
        obtain rfl : k = me := by omega
        exact W.iret (v := bst) hx hb hr (fun t ht hW => ⟨⟨bst, (), rfl, hz, by rw [ht]; exact hP, va_K.moved hW.alike hK, hD⟩, hS.F ht⟩) hS.2.2 dX0_rowBelowZero_46
      · exact absurd (nI_le (by omega) (by omega)) c1
    | succ d ih =>
      intro k bst H locs ls hk hz hP hK hD hS hl
      refine lv_iload_n hx hb dX0_rowBelowZero_4 rfl (lv_at hl 0 rfl) ?_
      refine lv_aload_n hx hb dX0_rowBelowZero_5 rfl (lv_at hl 2 rfl) ?_
      refine va_get (D := (dC, dI)) (ci := 0) (v := .int (nI me)) (C := RX0) (T := TX0) (N := 7) hx hb hts (fun _ h => List.mem_cons_of_mem _ (List.mem_append_right _ h)) hown hK hP 0 rfl rfl 2 (by decide) (hts (.fieldLink RX0 20 "RankFinder$Weighing" "equations" "I") (List.mem_of_getElem? (i := 1) rfl)) (fun _ h9 => h9) rfl dX0_rowBelowZero_6 ?_
      refine lv_icmp_ge (tgt := 45) hx hb dX0_rowBelowZero_9 (by decide) (fun c1 => ?_) (fun c1 => ?_)
      · exact absurd c1 (nI_ge (by omega) (by omega))
      · refine lv_aload_n hx hb dX0_rowBelowZero_12 rfl (lv_at hl 2 rfl) ?_
        refine va_get (D := (dC, dI)) (ci := 0) (v := .ref qc) (C := RX0) (T := TX0) (N := 7) hx hb hts (fun _ h => List.mem_cons_of_mem _ (List.mem_append_right _ h)) hown hK hP 0 rfl rfl 0 (by decide) (hts (.fieldLink RX0 13 "RankFinder$Weighing" "cell" "[[J") (List.mem_of_getElem? (i := 2) rfl)) (fun _ h9 => h9) rfl dX0_rowBelowZero_13 ?_
        refine lv_iload_n hx hb dX0_rowBelowZero_16 rfl (lv_at hl 0 rfl) ?_
        refine na_aald (y := r k) hx hb hK hP 1 0 rfl rfl (show k < 10 by omega) (by decide) (if_pos (show k < 10 by omega)) dX0_rowBelowZero_17 ?_
        refine lv_aload_n hx hb dX0_rowBelowZero_18 rfl (lv_at hl 2 rfl) ?_
        refine va_get (D := (dC, dI)) (ci := 0) (v := .int (nI nw)) (C := RX0) (T := TX0) (N := 7) hx hb hts (fun _ h => List.mem_cons_of_mem _ (List.mem_append_right _ h)) hown hK hP 0 rfl rfl 3 (by decide) (hts (.fieldLink RX0 24 "RankFinder$Weighing" "weights" "I") (List.mem_of_getElem? (i := 3) rfl)) (fun _ h9 => h9) rfl dX0_rowBelowZero_19 ?_
        refine na_lald hx hb hK hP (3 + k) 2 (gG_get (show k < 10 by omega) rfl) rfl hn (by decide) dX0_rowBelowZero_22 ?_
        refine lv_lconst (v := 0) hx hb dX0_rowBelowZero_23 (by decide) ?_
        refine W.lcmp hx hb dX0_rowBelowZero_24 ?_
        refine lv_if_ge (tgt := 39) hx hb dX0_rowBelowZero_25 (by decide) (fun c2 => ?_) (fun c2 => ?_)
        · rw [lg_cmp_ge] at c2
          replace c2 := Int64.not_lt.mpr c2
          refine lv_iinc (v := nI (k + 1)) (lv' := [(2, .int (nI (k + 1))), (1, .int bst), (0, .ref h0)]) hx hb dX0_rowBelowZero_39 hl (k := 0) rfl (nI_1 _) (by decide) rfl (fun ls hl => ?_)
          refine lv_goto (tgt := 4) hx hb dX0_rowBelowZero_42 (by decide) ?_
          exact ih (k + 1) bst H _ ls (by omega) (by
            rcases hz with ⟨h1, h2⟩ | ⟨b, h1, h2, h3, h4, h5⟩
            · exact Or.inl ⟨h1, fun i hi q => by
                by_cases e9 : i = k
                · subst e9; exact absurd q c2
                · exact h2 i (by omega) q⟩
            · exact Or.inr ⟨b, by omega, h2, h3, h4, fun i hi q q2 => by
                by_cases e9 : i = k
                · subst e9; exact absurd q c2
                · exact h5 i (by omega) q q2⟩) hP hK hD hS (lv_sub hl [0, 1, 2] rfl)
        · rw [lg_cmp_ge] at c2
          replace c2 := Int64.not_le.mp c2
          have hbs : bst = -1 ∨ ∃ b, b < 9 ∧ bst = nI b := by
            rcases hz with ⟨h1, _⟩ | ⟨b, h1, h2, _⟩
            · exact Or.inl h1
            · exact Or.inr ⟨b, by omega, h2⟩
          refine lv_aload_n hx hb dX0_rowBelowZero_28 rfl (lv_at hl 2 rfl) ?_
          refine lv_iload_n hx hb dX0_rowBelowZero_29 rfl (lv_at hl 0 rfl) ?_
          refine lv_iload_n hx hb dX0_rowBelowZero_30 rfl (lv_at hl 1 rfl) ?_
          have hFc : ∀ q, va_A (wgW h0 qc qh r cA cI cJ me nw u tw iv hd M) H.size q → A q := va_fall hD hS hA
          refine va_calli (va_runV (As := [.int (nI k), .int bst]) (rest := []) ⟨hx, hb, hml, hown, hts⟩ (c_X0_holdsLess l dC dI h0 qc qh r cA cI cJ H.size me nw u tw iv hd M k bst (by omega) hbs) (cwV 2 hts gX0_rowBelowZero_X0_holdsLess rfl rfl rfl (by decide +kernel) ⟨Nat.le_of_ble_eq_true rfl, Nat.le_of_ble_eq_true rfl⟩) ⟨fun a U g mk q => by obtain ⟨q0, q1, qP, qK, qD⟩ := q; exact ⟨q0, q1, qP, va_K.moved (u := U) (U := U.calling g mk a) (Vm.Alike.refl U.vm) qK, qD⟩, va_recv hK hP (ci := 0) (q0 := 0) rfl rfl, fun U hU hW => ⟨rfl, by rw [hU], by rw [hU]; exact hP, va_K.moved hW.alike hK, hD.weaken (fun _ _ _ _ => trivial)⟩⟩ rfl rfl hl.1 rfl (lv_room (Nat.le_of_ble_eq_true rfl)) dX0_rowBelowZero_31 ⟨(Nat.zero_le _), (Nat.zero_le _)⟩) hS (fun q _ h => hFc q h) hFc (fun r_31 u t H1 locs ht hvm hw hB hz1 hk1 hS => ?_)
          obtain ⟨hP1, hK1, hD1⟩ := hB
          rw [ht] at hP1
          clear hP hD hK
          have hK := va_K.moved hvm.symm hK1
          have hP := hP1
          have hD := hD1.weaken (B := A) (fun _ q _ h => hFc q.1 h)
          clear hP1 hD1 hK1 hFc hk1 hz1 ht hvm
          generalize H1 = H at hP hS ⊢
          refine lv_if_eq (tgt := 39) hx hb dX0_rowBelowZero_34 (by decide) (fun c3 => ?_) (fun c3 => ?_)
          · rcases hw with ⟨q, _⟩ | ⟨q, hq⟩
            · rw [q] at c3; exact absurd c3 (by decide)
            · refine lv_iinc (v := nI (k + 1)) (lv' := [(2, .int (nI (k + 1))), (1, .int bst), (0, .ref h0)]) hx hb dX0_rowBelowZero_39 hl (k := 0) rfl (nI_1 _) (by decide) rfl (fun ls hl => ?_)
              refine lv_goto (tgt := 4) hx hb dX0_rowBelowZero_42 (by decide) ?_
              exact ih (k + 1) bst H _ ls (by omega) (by
                rcases hz with ⟨h1, h2⟩ | ⟨b, h1, h2, h3, h4, h5⟩
                · exact Or.inl ⟨h1, fun i hi q => by
                    by_cases e9 : i = k
                    · subst e9; rcases hq with q5 | ⟨b, q5, q6, q7⟩
                      · exact q5
                      · rw [h1] at q6; exact absurd q6.symm (nI_m1 (by omega))
                    · exact h2 i (by omega) q⟩
                · exact Or.inr ⟨b, by omega, h2, h3, h4, fun i hi q q2 => by
                    by_cases e9 : i = k
                    · subst e9; rcases hq with q5 | ⟨b', q5, q6, q7⟩
                      · exact absurd q5 q2
                      · rw [h2] at q6
                        rw [nI_inj (by omega) (by omega) q6]; exact q7
                    · exact h5 i (by omega) q q2⟩) hP hK hD hS (lv_sub hl [0, 1, 2] rfl)
          · rcases hw with ⟨q, hq1, hq2⟩ | ⟨q, hq⟩
            rotate_left
            · rw [q] at c3; exact absurd rfl c3
            refine lv_iload_n hx hb dX0_rowBelowZero_37 rfl (lv_at hl 0 rfl) ?_
            refine lv_istore_n (lv' := [(1, .int (nI k)), (2, .int (nI k)), (0, .ref h0)]) hx hb dX0_rowBelowZero_38 rfl hl (by decide) rfl (fun ls hl => ?_)
            refine lv_iinc (v := nI (k + 1)) (lv' := [(2, .int (nI (k + 1))), (1, .int (nI k)), (0, .ref h0)]) hx hb dX0_rowBelowZero_39 hl (k := 1) rfl (nI_1 _) (by decide) rfl (fun ls hl => ?_)
            refine lv_goto (tgt := 4) hx hb dX0_rowBelowZero_42 (by decide) ?_
            exact ih (k + 1) (nI k) H _ ls (by omega) (by
              refine Or.inr ⟨k, by omega, rfl, c2, hq1, fun i hi q5 q6 => ?_⟩
              by_cases e9 : i = k
              · subst e9; exact i32_irr
              · rcases hz with ⟨h1, h2⟩ | ⟨b, h1, h2, h3, h4, h5⟩
                · exact absurd (h2 i (by omega) q5) q6
                · rcases hq2 with q7 | ⟨b', q7, q8, q9⟩
                  · rw [h2] at q7; exact absurd q7 (nI_m1 (by omega))
                  · rw [h2] at q8
                    have := nI_inj (by omega) (by omega) q8
                    subst this
                    exact i32_lt_tr (h5 i (by omega) q5 q6) q9) hP hK hD hS (lv_sub hl [0, 1, 2] rfl)
  exact loop me 0 (-1) H [] ls (by omega) (Or.inl ⟨rfl, fun i hi => by omega⟩) hP hK hD hS (lv_sub hl [0, 1, 2] rfl)
