/-! ===== Weighing: what is left of the seeks; static methods; the unit ===== -/
set_option maxHeartbeats 4000000 in
set_option maxRecDepth 100000 in
/-- hasBareContradiction() -/
theorem c_X0_hasBareContradiction (l : Launch) (dC : Nat → ClassId) (dI : Nat → Nat → Nat) (h0 qc qh : Nat) (r : Nat → Nat) (cA cI cJ : ClassId) (sz : Nat) (me nw : Nat) (u : Int64) (tw : Int32) (iv : Int64) (hd : Nat → Int32) (M : Nat → Nat → Int64) (hm : me < 10) (hn : nw < 17) : Met l yX0_hasBareContradiction wsX0_hasBareContradiction ({ frames := 0, cells := 0, slots := 0, locals := 0 }) (va_Pc [.ref h0] (fun U => U.heap.size = sz ∧ va_P (dC, dI) vwCl (wgW h0 qc qh r cA cI cJ me nw u tw iv hd M) U.heap ∧ va_K (dC, dI) vwCl (wgT cA cI cJ) U ∧ va_D (fun _ => True) (wgW h0 qc qh r cA cI cJ me nw u tw iv hd M))) (va_Qi (fun (x : Int32) (v : Unit) => (x = 1 ∧ ∃ i, i < me ∧ hd i = -1 ∧ M i nw ≠ 0) ∨ (x = 0 ∧ ∀ i, i < me → hd i = -1 → M i nw = 0)) (fun v t => va_P (dC, dI) vwCl (wgW h0 qc qh r cA cI cJ me nw u tw iv hd M) t.heap ∧ va_K (dC, dI) vwCl (wgT cA cI cJ) t ∧ va_D (va_A (wgW h0 qc qh r cA cI cJ me nw u tw iv hd M) sz) (wgW h0 qc qh r cA cI cJ me nw u tw iv hd M)) (va_A (wgW h0 qc qh r cA cI cJ me nw u tw iv hd M) sz)) 0 0 (va_A (wgW h0 qc qh r cA cI cJ me nw u tw iv hd M) sz) := by
  refine Met.ofW (cc := cX0_hasBareContradiction) (maxL := 2) (ret := (some .boolean)) (by decide) rfl ?_
  intro p e s m args below meth c s₁ B hml hv
  obtain ⟨rfl, hsz, hP, hK, hD0⟩ := hv
  have hx := B.exec
  have hb := B.bytes
  have hr := B.returns
  have hts := atoms_spec (ws := wsX0_hasBareContradiction) B.pre
  have hown : s.vm.findClass RX0 = some m.cls := findClass_of_methodNamed B.named
  subst hsz
  have hD := hD0.self (sz := s.heap.size)
  clear hD0
  generalize hAe : va_A (wgW h0 qc qh r cA cI cJ me nw u tw iv hd M) s.heap.size = A at hD ⊢
  have hA : ∀ q : Nat, s.heap.size ≤ q → A q := fun q h => by rw [← hAe]; exact Or.inr h
  have hl := lv_entry ([.ref h0]) (n := 2) (Nat.le_of_ble_eq_true rfl)
  rw [lg_entry_eq]
  generalize (lg_sl ([.ref h0]) ++ List.replicate (2 - (lg_sl ([.ref h0])).length) Slot.unset).toArray = ls at hl ⊢
  have hl : lv_has ls 2 [(0, .ref h0)] := hl
  have hP : va_P (dC, dI) vwCl (wgW h0 qc qh r cA cI cJ me nw u tw iv hd M) s.heap := hP
  obtain ⟨H, hH⟩ : ∃ H, H = s.heap := ⟨_, rfl⟩
  have hS : va_S A s.heap H [] := by rw [hH]; exact va_S.rf
  rw [← hH] at hP ⊢
  refine lv_iconst (v := nI 0) hx hb dX0_hasBareContradiction_0 (by decide) ?_
  refine lv_istore_n (lv' := [(1, .int (nI 0)), (0, .ref h0)]) hx hb dX0_hasBareContradiction_1 rfl hl (by decide) rfl (fun ls hl => ?_)
  have loop : ∀ (d k : Nat) (ls : Array Slot), k + d = me → (∀ i, i < k → hd i = -1 → M i nw = 0) → lv_has ls 2 [(1, .int (nI k)), (0, .ref h0)] → W p l e (headSpec wsX0_hasBareContradiction ({ frames := 0, cells := 0, slots := 0, locals := 0 })).room s m #[.ref h0] below meth c H [] 0 0 (MQ below (va_Qi (fun (x : Int32) (v : Unit) => (x = 1 ∧ ∃ i, i < me ∧ hd i = -1 ∧ M i nw ≠ 0) ∨ (x = 0 ∧ ∀ i, i < me → hd i = -1 → M i nw = 0)) (fun v t => va_P (dC, dI) vwCl (wgW h0 qc qh r cA cI cJ me nw u tw iv hd M) t.heap ∧ va_K (dC, dI) vwCl (wgT cA cI cJ) t ∧ va_D A (wgW h0 qc qh r cA cI cJ me nw u tw iv hd M)) A) #[.ref h0] s 0 0 A) (F0 m 2 ls []) := by
    intro d
    induction d with
    | zero =>
      intro k ls hk hz hl
      refine lv_iload_n hx hb dX0_hasBareContradiction_2 rfl (lv_at hl 0 rfl) ?_
      refine lv_aload_n hx hb dX0_hasBareContradiction_3 rfl (lv_at hl 1 rfl) ?_
      refine va_get (D := (dC, dI)) (ci := 0) (v := .int (nI me)) (C := RX0) (T := TX0) (N := 7) hx hb hts (fun _ h => List.mem_cons_of_mem _ (List.mem_append_right _ h)) hown hK hP 0 rfl rfl 2 (by decide) (hts (.fieldLink RX0 20 "RankFinder$Weighing" "equations" "I") (List.mem_of_getElem? (i := 1) rfl)) (fun _ h9 => h9) rfl dX0_hasBareContradiction_4 ?_
      refine lv_icmp_ge (tgt := 44) hx hb dX0_hasBareContradiction_7 (by decide) (fun c1 => ?_) (fun c1 => ?_)
      · refine lv_iconst (v := nI 0) hx hb dX0_hasBareContradiction_44 (by decide) ?_
        exact W.zret (v := (nI 0)) hx hb hr (by rfl) (fun t ht hW => ⟨⟨(nI 0), (), rfl, Or.inr ⟨rfl, fun j hj => hz j (by omega)⟩, by rw [ht]; exact hP, va_K.moved hW.alike hK, hD⟩, hS.F ht⟩) hS.2.2 dX0_hasBareContradiction_45
      · exact absurd (nI_le (by omega) (by omega)) c1
    | succ d ih =>
      intro k ls hk hz hl
      refine lv_iload_n hx hb dX0_hasBareContradiction_2 rfl (lv_at hl 0 rfl) ?_
      refine lv_aload_n hx hb dX0_hasBareContradiction_3 rfl (lv_at hl 1 rfl) ?_
      refine va_get (D := (dC, dI)) (ci := 0) (v := .int (nI me)) (C := RX0) (T := TX0) (N := 7) hx hb hts (fun _ h => List.mem_cons_of_mem _ (List.mem_append_right _ h)) hown hK hP 0 rfl rfl 2 (by decide) (hts (.fieldLink RX0 20 "RankFinder$Weighing" "equations" "I") (List.mem_of_getElem? (i := 1) rfl)) (fun _ h9 => h9) rfl dX0_hasBareContradiction_4 ?_
      refine lv_icmp_ge (tgt := 44) hx hb dX0_hasBareContradiction_7 (by decide) (fun c1 => ?_) (fun c1 => ?_)
      · exact absurd c1 (nI_ge (by omega) (by omega))
      · refine lv_aload_n hx hb dX0_hasBareContradiction_10 rfl (lv_at hl 1 rfl) ?_
        refine va_get (D := (dC, dI)) (ci := 0) (v := .ref qh) (C := RX0) (T := TX0) (N := 7) hx hb hts (fun _ h => List.mem_cons_of_mem _ (List.mem_append_right _ h)) hown hK hP 0 rfl rfl 1 (by decide) (hts (.fieldLink RX0 16 "RankFinder$Weighing" "held" "[I") (List.mem_of_getElem? (i := 2) rfl)) (fun _ h9 => h9) rfl dX0_hasBareContradiction_11 ?_
        refine lv_iload_n hx hb dX0_hasBareContradiction_14 rfl (lv_at hl 0 rfl) ?_
        refine na_iald hx hb hK hP 2 1 rfl rfl (show k < 9 by omega) (by decide) dX0_hasBareContradiction_15 ?_
        refine lv_iconst (v := (-1)) hx hb dX0_hasBareContradiction_16 (by decide) ?_
        refine lv_icmp_ne (tgt := 38) hx hb dX0_hasBareContradiction_17 (by decide) (fun c2 => ?_) (fun c2 => ?_)
        · refine lv_iinc (v := nI (k + 1)) (lv' := [(1, .int (nI (k + 1))), (0, .ref h0)]) hx hb dX0_hasBareContradiction_38 hl (k := 0) rfl (nI_1 _) (by decide) rfl (fun ls hl => ?_)
          refine lv_goto (tgt := 2) hx hb dX0_hasBareContradiction_41 (by decide) ?_
          exact ih (k + 1) ls (by omega) (fun i hi q => by
            by_cases e9 : i = k
            · subst e9; exact absurd q c2
            · exact hz i (by omega) q) (lv_sub hl [0, 1] rfl)
        · have c2 : hd k = -1 := c2
          refine lv_aload_n hx hb dX0_hasBareContradiction_20 rfl (lv_at hl 1 rfl) ?_
          refine va_get (D := (dC, dI)) (ci := 0) (v := .ref qc) (C := RX0) (T := TX0) (N := 7) hx hb hts (fun _ h => List.mem_cons_of_mem _ (List.mem_append_right _ h)) hown hK hP 0 rfl rfl 0 (by decide) (hts (.fieldLink RX0 13 "RankFinder$Weighing" "cell" "[[J") (List.mem_of_getElem? (i := 3) rfl)) (fun _ h9 => h9) rfl dX0_hasBareContradiction_21 ?_
          refine lv_iload_n hx hb dX0_hasBareContradiction_24 rfl (lv_at hl 0 rfl) ?_
          refine na_aald (y := r k) hx hb hK hP 1 0 rfl rfl (show k < 10 by omega) (by decide) (if_pos (show k < 10 by omega)) dX0_hasBareContradiction_25 ?_
          refine lv_aload_n hx hb dX0_hasBareContradiction_26 rfl (lv_at hl 1 rfl) ?_
          refine va_get (D := (dC, dI)) (ci := 0) (v := .int (nI nw)) (C := RX0) (T := TX0) (N := 7) hx hb hts (fun _ h => List.mem_cons_of_mem _ (List.mem_append_right _ h)) hown hK hP 0 rfl rfl 3 (by decide) (hts (.fieldLink RX0 24 "RankFinder$Weighing" "weights" "I") (List.mem_of_getElem? (i := 4) rfl)) (fun _ h9 => h9) rfl dX0_hasBareContradiction_27 ?_
          refine na_lald hx hb hK hP (3 + k) 2 (gG_get (show k < 10 by omega) rfl) rfl hn (by decide) dX0_hasBareContradiction_30 ?_
          refine lv_lconst (v := 0) hx hb dX0_hasBareContradiction_31 (by decide) ?_
          refine W.lcmp hx hb dX0_hasBareContradiction_32 ?_
          refine lv_if_eq (tgt := 38) hx hb dX0_hasBareContradiction_33 (by decide) (fun c3 => ?_) (fun c3 => ?_)
          · rw [lg_cmp_eq] at c3
            refine lv_iinc (v := nI (k + 1)) (lv' := [(1, .int (nI (k + 1))), (0, .ref h0)]) hx hb dX0_hasBareContradiction_38 hl (k := 0) rfl (nI_1 _) (by decide) rfl (fun ls hl => ?_)
            refine lv_goto (tgt := 2) hx hb dX0_hasBareContradiction_41 (by decide) ?_
            exact ih (k + 1) ls (by omega) (fun i hi q => by
              by_cases e9 : i = k
              · subst e9; exact c3
              · exact hz i (by omega) q) (lv_sub hl [0, 1] rfl)
          · rw [lg_cmp_eq] at c3
            refine lv_iconst (v := nI 1) hx hb dX0_hasBareContradiction_36 (by decide) ?_
            exact W.zret (v := (nI 1)) hx hb hr (by rfl) (fun t ht hW => ⟨⟨(nI 1), (), rfl, Or.inl ⟨rfl, k, by omega, c2, c3⟩, by rw [ht]; exact hP, va_K.moved hW.alike hK, hD⟩, hS.F ht⟩) hS.2.2 dX0_hasBareContradiction_37
  exact loop me 0 ls (by omega) (fun j hj => by omega) hl
set_option maxHeartbeats 4000000 in
set_option maxRecDepth 100000 in
/-- isCheaper(i, a, o) -/
theorem c_X0_isCheaper (l : Launch) (dC : Nat → ClassId) (dI : Nat → Nat → Nat) (h0 qc qh : Nat) (r : Nat → Nat) (cA cI cJ : ClassId) (sz : Nat) (me nw : Nat) (u : Int64) (tw : Int32) (iv : Int64) (hd : Nat → Int32) (M : Nat → Nat → Int64) (i a o : Nat) (hm : me < 10) (hi : i < 10) (ha : a < 17) (ho : o < 17) : Met l yX0_isCheaper wsX0_isCheaper ({ frames := 0, cells := 0, slots := 0, locals := 0 }) (va_Pc [.ref h0, .int (nI i), .int (nI a), .int (nI o)] (fun U => U.heap.size = sz ∧ va_P (dC, dI) vwCl (wgW h0 qc qh r cA cI cJ me nw u tw iv hd M) U.heap ∧ va_K (dC, dI) vwCl (wgT cA cI cJ) U ∧ va_D (fun _ => True) (wgW h0 qc qh r cA cI cJ me nw u tw iv hd M))) (va_Qi (fun (x : Int32) (v : Unit) => (x = 1 ∧ M me o * M i a < M me a * M i o) ∨ (x = 0 ∧ ¬ M me o * M i a < M me a * M i o)) (fun v t => va_P (dC, dI) vwCl (wgW h0 qc qh r cA cI cJ me nw u tw iv hd M) t.heap ∧ va_K (dC, dI) vwCl (wgT cA cI cJ) t ∧ va_D (va_A (wgW h0 qc qh r cA cI cJ me nw u tw iv hd M) sz) (wgW h0 qc qh r cA cI cJ me nw u tw iv hd M)) (va_A (wgW h0 qc qh r cA cI cJ me nw u tw iv hd M) sz)) 0 0 (va_A (wgW h0 qc qh r cA cI cJ me nw u tw iv hd M) sz) := by
  refine Met.ofW (cc := cX0_isCheaper) (maxL := 5) (ret := (some .boolean)) (by decide) rfl ?_
  intro p e s m args below meth c s₁ B hml hv
  obtain ⟨rfl, hsz, hP, hK, hD0⟩ := hv
  have hx := B.exec
  have hb := B.bytes
  have hr := B.returns
  have hts := atoms_spec (ws := wsX0_isCheaper) B.pre
  have hown : s.vm.findClass RX0 = some m.cls := findClass_of_methodNamed B.named
  subst hsz
  have hD := hD0.self (sz := s.heap.size)
  clear hD0
  generalize hAe : va_A (wgW h0 qc qh r cA cI cJ me nw u tw iv hd M) s.heap.size = A at hD ⊢
  have hA : ∀ q : Nat, s.heap.size ≤ q → A q := fun q h => by rw [← hAe]; exact Or.inr h
  have hl := lv_entry ([.ref h0, .int (nI i), .int (nI a), .int (nI o)]) (n := 5) (Nat.le_of_ble_eq_true rfl)
  rw [lg_entry_eq]
  generalize (lg_sl ([.ref h0, .int (nI i), .int (nI a), .int (nI o)]) ++ List.replicate (5 - (lg_sl ([.ref h0, .int (nI i), .int (nI a), .int (nI o)])).length) Slot.unset).toArray = ls at hl ⊢
  have hl : lv_has ls 5 [(0, .ref h0), (1, .int (nI i)), (2, .int (nI a)), (3, .int (nI o))] := hl
  have hP : va_P (dC, dI) vwCl (wgW h0 qc qh r cA cI cJ me nw u tw iv hd M) s.heap := hP
  obtain ⟨H, hH⟩ : ∃ H, H = s.heap := ⟨_, rfl⟩
  have hS : va_S A s.heap H [] := by rw [hH]; exact va_S.rf
  rw [← hH] at hP ⊢
  refine lv_aload_n hx hb dX0_isCheaper_0 rfl (lv_at hl 0 rfl) ?_
  refine va_get (D := (dC, dI)) (ci := 0) (v := .ref qc) (C := RX0) (T := TX0) (N := 7) hx hb hts (fun _ h => List.mem_cons_of_mem _ (List.mem_append_right _ h)) hown hK hP 0 rfl rfl 0 (by decide) (hts (.fieldLink RX0 13 "RankFinder$Weighing" "cell" "[[J") (List.mem_of_getElem? (i := 1) rfl)) (fun _ h9 => h9) rfl dX0_isCheaper_1 ?_
  refine lv_aload_n hx hb dX0_isCheaper_4 rfl (lv_at hl 0 rfl) ?_
  refine va_get (D := (dC, dI)) (ci := 0) (v := .int (nI me)) (C := RX0) (T := TX0) (N := 7) hx hb hts (fun _ h => List.mem_cons_of_mem _ (List.mem_append_right _ h)) hown hK hP 0 rfl rfl 2 (by decide) (hts (.fieldLink RX0 20 "RankFinder$Weighing" "equations" "I") (List.mem_of_getElem? (i := 2) rfl)) (fun _ h9 => h9) rfl dX0_isCheaper_5 ?_
  refine na_aald (y := r me) hx hb hK hP 1 0 rfl rfl hm (by decide) (if_pos hm) dX0_isCheaper_8 ?_
  refine lv_astore (lv' := [(4, .ref (r me)), (0, .ref h0), (1, .int (nI i)), (2, .int (nI a)), (3, .int (nI o))]) hx hb dX0_isCheaper_9 hl (by decide) rfl (fun ls hl => ?_)
  refine lv_aload hx hb dX0_isCheaper_11 (lv_at hl 0 rfl) ?_
  refine lv_iload_n hx hb dX0_isCheaper_13 rfl (lv_at hl 3 rfl) ?_
  refine na_lald hx hb hK hP (3 + me) 2 (gG_get hm rfl) rfl ha (by decide) dX0_isCheaper_14 ?_
  refine lv_aload_n hx hb dX0_isCheaper_15 rfl (lv_at hl 1 rfl) ?_
  refine va_get (D := (dC, dI)) (ci := 0) (v := .ref qc) (C := RX0) (T := TX0) (N := 7) hx hb hts (fun _ h => List.mem_cons_of_mem _ (List.mem_append_right _ h)) hown hK hP 0 rfl rfl 0 (by decide) (hts (.fieldLink RX0 13 "RankFinder$Weighing" "cell" "[[J") (List.mem_of_getElem? (i := 1) rfl)) (fun _ h9 => h9) rfl dX0_isCheaper_16 ?_
  refine lv_iload_n hx hb dX0_isCheaper_19 rfl (lv_at hl 2 rfl) ?_
  refine na_aald (y := r i) hx hb hK hP 1 0 rfl rfl hi (by decide) (if_pos hi) dX0_isCheaper_20 ?_
  refine lv_iload_n hx hb dX0_isCheaper_21 rfl (lv_at hl 4 rfl) ?_
  refine na_lald hx hb hK hP (3 + i) 2 (gG_get hi rfl) rfl ho (by decide) dX0_isCheaper_22 ?_
  refine lv_lmul hx hb dX0_isCheaper_23 ?_
  refine lv_aload hx hb dX0_isCheaper_24 (lv_at hl 0 rfl) ?_
  refine lv_iload_n hx hb dX0_isCheaper_26 rfl (lv_at hl 4 rfl) ?_
  refine na_lald hx hb hK hP (3 + me) 2 (gG_get hm rfl) rfl ho (by decide) dX0_isCheaper_27 ?_
  refine lv_aload_n hx hb dX0_isCheaper_28 rfl (lv_at hl 1 rfl) ?_
  refine va_get (D := (dC, dI)) (ci := 0) (v := .ref qc) (C := RX0) (T := TX0) (N := 7) hx hb hts (fun _ h => List.mem_cons_of_mem _ (List.mem_append_right _ h)) hown hK hP 0 rfl rfl 0 (by decide) (hts (.fieldLink RX0 13 "RankFinder$Weighing" "cell" "[[J") (List.mem_of_getElem? (i := 1) rfl)) (fun _ h9 => h9) rfl dX0_isCheaper_29 ?_
  refine lv_iload_n hx hb dX0_isCheaper_32 rfl (lv_at hl 2 rfl) ?_
  refine na_aald (y := r i) hx hb hK hP 1 0 rfl rfl hi (by decide) (if_pos hi) dX0_isCheaper_33 ?_
  refine lv_iload_n hx hb dX0_isCheaper_34 rfl (lv_at hl 3 rfl) ?_
  refine na_lald hx hb hK hP (3 + i) 2 (gG_get hi rfl) rfl ha (by decide) dX0_isCheaper_35 ?_
  refine lv_lmul hx hb dX0_isCheaper_36 ?_
  refine W.lcmp hx hb dX0_isCheaper_37 ?_
  refine lv_if_le (tgt := 45) hx hb dX0_isCheaper_38 (by decide) (fun c1 => ?_) (fun c1 => ?_)
  · rw [lg_cmp_le] at c1
    refine lv_iconst (v := nI 0) hx hb dX0_isCheaper_45 (by decide) ?_
    exact W.zret (v := (nI 0)) hx hb hr (by rfl) (fun t ht hW => ⟨⟨(nI 0), (), rfl, Or.inr ⟨rfl, Int64.not_lt.mpr c1⟩, by rw [ht]; exact hP, va_K.moved hW.alike hK, hD⟩, hS.F ht⟩) hS.2.2 dX0_isCheaper_46
  · rw [lg_cmp_le] at c1
    refine lv_iconst (v := nI 1) hx hb dX0_isCheaper_41 (by decide) ?_
    refine lv_goto (tgt := 46) hx hb dX0_isCheaper_42 (by decide) ?_
    exact W.zret (v := (nI 1)) hx hb hr (by rfl) (fun t ht hW => ⟨⟨(nI 1), (), rfl, Or.inl ⟨rfl, Int64.not_le.mp c1⟩, by rw [ht]; exact hP, va_K.moved hW.alike hK, hD⟩, hS.F ht⟩) hS.2.2 dX0_isCheaper_46
set_option maxHeartbeats 4000000 in
set_option maxRecDepth 100000 in
/-- columnThatLifts(i): by the quotients qq, the first of the least -/
theorem c_X0_columnThatLifts (l : Launch) (dC : Nat → ClassId) (dI : Nat → Nat → Nat) (h0 qc qh : Nat) (r : Nat → Nat) (cA cI cJ : ClassId) (sz : Nat) (me nw : Nat) (u : Int64) (tw : Int32) (iv : Int64) (hd : Nat → Int32) (M : Nat → Nat → Int64) (i : Nat) (qq : Nat → Rat) (hm : me < 10) (hi : i < 10) (hn : nw < 17) (hch : ∀ j o, j < nw → o < nw → M i j < 0 → M i o < 0 → (M me o * M i j < M me j * M i o ↔ qq j < qq o)) : Met l yX0_columnThatLifts wsX0_columnThatLifts ({ frames := 1, cells := 0, slots := 0, locals := 24 }) (va_Pc [.ref h0, .int (nI i)] (fun U => U.heap.size = sz ∧ va_P (dC, dI) vwCl (wgW h0 qc qh r cA cI cJ me nw u tw iv hd M) U.heap ∧ va_K (dC, dI) vwCl (wgT cA cI cJ) U ∧ va_D (fun _ => True) (wgW h0 qc qh r cA cI cJ me nw u tw iv hd M))) (va_Qi (fun (x : Int32) (v : Unit) => ((x = -1 ∧ ∀ j, j < nw → ¬ M i j < 0) ∨ (∃ b, b < nw ∧ x = nI b ∧ M i b < 0 ∧ ∀ j, j < nw → M i j < 0 → ¬ qq j < qq b ∧ (j < b → qq b < qq j)))) (fun v t => va_P (dC, dI) vwCl (wgW h0 qc qh r cA cI cJ me nw u tw iv hd M) t.heap ∧ va_K (dC, dI) vwCl (wgT cA cI cJ) t ∧ va_D (va_A (wgW h0 qc qh r cA cI cJ me nw u tw iv hd M) sz) (wgW h0 qc qh r cA cI cJ me nw u tw iv hd M)) (va_A (wgW h0 qc qh r cA cI cJ me nw u tw iv hd M) sz)) 0 0 (va_A (wgW h0 qc qh r cA cI cJ me nw u tw iv hd M) sz) := by
  refine Met.ofW (cc := cX0_columnThatLifts) (maxL := 4) (ret := (some .int)) (by decide) rfl ?_
  intro p e s m args below meth c s₁ B hml hv
  obtain ⟨rfl, hsz, hP, hK, hD0⟩ := hv
  have hx := B.exec
  have hb := B.bytes
  have hr := B.returns
  have hts := atoms_spec (ws := wsX0_columnThatLifts) B.pre
  have hown : s.vm.findClass RX0 = some m.cls := findClass_of_methodNamed B.named
  subst hsz
  have hD := hD0.self (sz := s.heap.size)
  clear hD0
  generalize hAe : va_A (wgW h0 qc qh r cA cI cJ me nw u tw iv hd M) s.heap.size = A at hD ⊢
  have hA : ∀ q : Nat, s.heap.size ≤ q → A q := fun q h => by rw [← hAe]; exact Or.inr h
  have hl := lv_entry ([.ref h0, .int (nI i)]) (n := 4) (Nat.le_of_ble_eq_true rfl)
  rw [lg_entry_eq]
  generalize (lg_sl ([.ref h0, .int (nI i)]) ++ List.replicate (4 - (lg_sl ([.ref h0, .int (nI i)])).length) Slot.unset).toArray = ls at hl ⊢
  have hl : lv_has ls 4 [(0, .ref h0), (1, .int (nI i))] := hl
  have hP : va_P (dC, dI) vwCl (wgW h0 qc qh r cA cI cJ me nw u tw iv hd M) s.heap := hP
  obtain ⟨H, hH⟩ : ∃ H, H = s.heap := ⟨_, rfl⟩
  have hS : va_S A s.heap H [] := by rw [hH]; exact va_S.rf
  rw [← hH] at hP ⊢
  refine lv_iconst (v := (-1)) hx hb dX0_columnThatLifts_0 (by decide) ?_
  refine lv_istore_n (lv' := [(2, .int (-1)), (0, .ref h0), (1, .int (nI i))]) hx hb dX0_columnThatLifts_1 rfl hl (by decide) rfl (fun ls hl => ?_)
  refine lv_iconst (v := nI 0) hx hb dX0_columnThatLifts_2 (by decide) ?_
  refine lv_istore_n (lv' := [(3, .int (nI 0)), (2, .int (-1)), (0, .ref h0), (1, .int (nI i))]) hx hb dX0_columnThatLifts_3 rfl hl (by decide) rfl (fun ls hl => ?_)
  have loop : ∀ (d k : Nat) (bst : Int32) (H : Heap) (locs : List Loc) (ls : Array Slot), k + d = nw → ((bst = -1 ∧ ∀ j, j < k → ¬ M i j < 0) ∨ (∃ b, b < k ∧ bst = nI b ∧ M i b < 0 ∧ ∀ j, j < k → M i j < 0 → ¬ qq j < qq b ∧ (j < b → qq b < qq j))) → va_P (dC, dI) vwCl (wgW h0 qc qh r cA cI cJ me nw u tw iv hd M) H → va_K (dC, dI) vwCl (wgT cA cI cJ) s → va_D A (wgW h0 qc qh r cA cI cJ me nw u tw iv hd M) → va_S A s.heap H locs → lv_has ls 4 [(3, .int (nI k)), (2, .int bst), (0, .ref h0), (1, .int (nI i))] → W p l e (headSpec wsX0_columnThatLifts ({ frames := 1, cells := 0, slots := 0, locals := 24 })).room s m #[.ref h0, .int (nI i)] below meth c H locs 0 0 (MQ below (va_Qi (fun (x : Int32) (v : Unit) => ((x = -1 ∧ ∀ j, j < nw → ¬ M i j < 0) ∨ (∃ b, b < nw ∧ x = nI b ∧ M i b < 0 ∧ ∀ j, j < nw → M i j < 0 → ¬ qq j < qq b ∧ (j < b → qq b < qq j)))) (fun v t => va_P (dC, dI) vwCl (wgW h0 qc qh r cA cI cJ me nw u tw iv hd M) t.heap ∧ va_K (dC, dI) vwCl (wgT cA cI cJ) t ∧ va_D A (wgW h0 qc qh r cA cI cJ me nw u tw iv hd M)) A) #[.ref h0, .int (nI i)] s 0 0 A) (F0 m 4 ls []) := by
    intro d
    induction d with
    | zero =>
      intro k bst H locs ls hk hz hP hK hD hS hl
      refine lv_iload_n hx hb dX0_columnThatLifts_4 rfl (lv_at hl 0 rfl) ?_
      refine lv_aload_n hx hb dX0_columnThatLifts_5 rfl (lv_at hl 2 rfl) ?_
      refine va_get (D := (dC, dI)) (ci := 0) (v := .int (nI nw)) (C := RX0) (T := TX0) (N := 7) hx hb hts (fun _ h => List.mem_cons_of_mem _ (List.mem_append_right _ h)) hown hK hP 0 rfl rfl 3 (by decide) (hts (.fieldLink RX0 24 "RankFinder$Weighing" "weights" "I") (List.mem_of_getElem? (i := 1) rfl)) (fun _ h9 => h9) rfl dX0_columnThatLifts_6 ?_
      refine lv_icmp_ge (tgt := 48) hx hb dX0_columnThatLifts_9 (by decide) (fun c1 => ?_) (fun c1 => ?_)
      · refine lv_iload_n hx hb dX0_columnThatLifts_48 rfl (lv_at hl 1 rfl) ?_
        obtain rfl : k = nw := by omega
        exact W.iret (v := bst) hx hb hr (fun t ht hW => ⟨⟨bst, (), rfl, hz, by rw [ht]; exact hP, va_K.moved hW.alike hK, hD⟩, hS.F ht⟩) hS.2.2 dX0_columnThatLifts_49
      · exact absurd (nI_le (by omega) (by omega)) c1
    | succ d ih =>
      intro k bst H locs ls hk hz hP hK hD hS hl
      refine lv_iload_n hx hb dX0_columnThatLifts_4 rfl (lv_at hl 0 rfl) ?_
      refine lv_aload_n hx hb dX0_columnThatLifts_5 rfl (lv_at hl 2 rfl) ?_
      refine va_get (D := (dC, dI)) (ci := 0) (v := .int (nI nw)) (C := RX0) (T := TX0) (N := 7) hx hb hts (fun _ h => List.mem_cons_of_mem _ (List.mem_append_right _ h)) hown hK hP 0 rfl rfl 3 (by decide) (hts (.fieldLink RX0 24 "RankFinder$Weighing" "weights" "I") (List.mem_of_getElem? (i := 1) rfl)) (fun _ h9 => h9) rfl dX0_columnThatLifts_6 ?_
      refine lv_icmp_ge (tgt := 48) hx hb dX0_columnThatLifts_9 (by decide) (fun c1 => ?_) (fun c1 => ?_)
      · exact absurd c1 (nI_ge (by omega) (by omega))
      · refine lv_aload_n hx hb dX0_columnThatLifts_12 rfl (lv_at hl 2 rfl) ?_
        refine va_get (D := (dC, dI)) (ci := 0) (v := .ref qc) (C := RX0) (T := TX0) (N := 7) hx hb hts (fun _ h => List.mem_cons_of_mem _ (List.mem_append_right _ h)) hown hK hP 0 rfl rfl 0 (by decide) (hts (.fieldLink RX0 13 "RankFinder$Weighing" "cell" "[[J") (List.mem_of_getElem? (i := 2) rfl)) (fun _ h9 => h9) rfl dX0_columnThatLifts_13 ?_
        refine lv_iload_n hx hb dX0_columnThatLifts_16 rfl (lv_at hl 3 rfl) ?_
        refine na_aald (y := r i) hx hb hK hP 1 0 rfl rfl hi (by decide) (if_pos hi) dX0_columnThatLifts_17 ?_
        refine lv_iload_n hx hb dX0_columnThatLifts_18 rfl (lv_at hl 0 rfl) ?_
        refine na_lald hx hb hK hP (3 + i) 2 (gG_get hi rfl) rfl (show k < 17 by omega) (by decide) dX0_columnThatLifts_19 ?_
        refine lv_lconst (v := 0) hx hb dX0_columnThatLifts_20 (by decide) ?_
        refine W.lcmp hx hb dX0_columnThatLifts_21 ?_
        refine lv_if_ge (tgt := 42) hx hb dX0_columnThatLifts_22 (by decide) (fun c2 => ?_) (fun c2 => ?_)
        · rw [lg_cmp_ge] at c2
          replace c2 := Int64.not_lt.mpr c2
          refine lv_iinc (v := nI (k + 1)) (lv' := [(3, .int (nI (k + 1))), (2, .int bst), (0, .ref h0), (1, .int (nI i))]) hx hb dX0_columnThatLifts_42 hl (k := 0) rfl (nI_1 _) (by decide) rfl (fun ls hl => ?_)
          refine lv_goto (tgt := 4) hx hb dX0_columnThatLifts_45 (by decide) ?_
          exact ih (k + 1) bst H _ ls (by omega) (by
            rcases hz with ⟨h1, h2⟩ | ⟨b, h1, h2, h3, h4⟩
            · exact Or.inl ⟨h1, fun j hj => by
                by_cases e9 : j = k
                · subst e9; exact c2
                · exact h2 j (by omega)⟩
            · exact Or.inr ⟨b, by omega, h2, h3, fun j hj q => by
                by_cases e9 : j = k
                · subst e9; exact absurd q c2
                · exact h4 j (by omega) q⟩) hP hK hD hS (lv_sub hl [0, 1, 2, 3] rfl)
        · rw [lg_cmp_ge] at c2
          replace c2 := Int64.not_le.mp c2
          refine lv_iload_n hx hb dX0_columnThatLifts_25 rfl (lv_at hl 1 rfl) ?_
          refine lv_iconst (v := (-1)) hx hb dX0_columnThatLifts_26 (by decide) ?_
          refine lv_icmp_eq (tgt := 40) hx hb dX0_columnThatLifts_27 (by decide) (fun c3 => ?_) (fun c3 => ?_)
          · have c3 : bst = -1 := c3
            refine lv_iload_n hx hb dX0_columnThatLifts_40 rfl (lv_at hl 0 rfl) ?_
            refine lv_istore_n (lv' := [(2, .int (nI k)), (3, .int (nI k)), (0, .ref h0), (1, .int (nI i))]) hx hb dX0_columnThatLifts_41 rfl hl (by decide) rfl (fun ls hl => ?_)
            refine lv_iinc (v := nI (k + 1)) (lv' := [(3, .int (nI (k + 1))), (2, .int (nI k)), (0, .ref h0), (1, .int (nI i))]) hx hb dX0_columnThatLifts_42 hl (k := 1) rfl (nI_1 _) (by decide) rfl (fun ls hl => ?_)
            refine lv_goto (tgt := 4) hx hb dX0_columnThatLifts_45 (by decide) ?_
            exact ih (k + 1) (nI k) H _ ls (by omega) (by
              refine Or.inr ⟨k, by omega, rfl, c2, fun j hj q5 => ?_⟩
              by_cases e9 : j = k
              · subst e9; exact ⟨by grind, fun q6 => by omega⟩
              · rcases hz with ⟨h1, h2⟩ | ⟨b, h1, h2, h3, h4⟩
                · exact absurd q5 (h2 j (by omega))
                · rw [h2] at c3; exact absurd c3 (nI_m1 (by omega))) hP hK hD hS (lv_sub hl [0, 1, 2, 3] rfl)
          · obtain ⟨b, h1, h2, h3, h4⟩ := hz.resolve_left (fun q => c3 q.1)
            subst h2
            have hz : True := trivial
            refine lv_aload_n hx hb dX0_columnThatLifts_30 rfl (lv_at hl 2 rfl) ?_
            refine lv_iload_n hx hb dX0_columnThatLifts_31 rfl (lv_at hl 3 rfl) ?_
            refine lv_iload_n hx hb dX0_columnThatLifts_32 rfl (lv_at hl 0 rfl) ?_
            refine lv_iload_n hx hb dX0_columnThatLifts_33 rfl (lv_at hl 1 rfl) ?_
            have hFc : ∀ q, va_A (wgW h0 qc qh r cA cI cJ me nw u tw iv hd M) H.size q → A q := va_fall hD hS hA
            refine va_calli (va_runV (As := [.int (nI i), .int (nI k), .int (nI b)]) (rest := []) ⟨hx, hb, hml, hown, hts⟩ (c_X0_isCheaper l dC dI h0 qc qh r cA cI cJ H.size me nw u tw iv hd M i k b hm hi (by omega) (by omega)) (cwV 3 hts gX0_columnThatLifts_X0_isCheaper rfl rfl rfl (by decide +kernel) ⟨Nat.le_of_ble_eq_true rfl, Nat.le_of_ble_eq_true rfl⟩) ⟨fun a U g mk q => by obtain ⟨q0, q1, qP, qK, qD⟩ := q; exact ⟨q0, q1, qP, va_K.moved (u := U) (U := U.calling g mk a) (Vm.Alike.refl U.vm) qK, qD⟩, va_recv hK hP (ci := 0) (q0 := 0) rfl rfl, fun U hU hW => ⟨rfl, by rw [hU], by rw [hU]; exact hP, va_K.moved hW.alike hK, hD.weaken (fun _ _ _ _ => trivial)⟩⟩ rfl rfl hl.1 rfl (lv_room (Nat.le_of_ble_eq_true rfl)) dX0_columnThatLifts_34 ⟨(Nat.zero_le _), (Nat.zero_le _)⟩) hS (fun q _ h => hFc q h) hFc (fun r_34 u t H1 locs ht hvm hw hB hz1 hk1 hS => ?_)
            obtain ⟨hP1, hK1, hD1⟩ := hB
            rw [ht] at hP1
            clear hP hD hK
            have hK := va_K.moved hvm.symm hK1
            have hP := hP1
            have hD := hD1.weaken (B := A) (fun _ q _ h => hFc q.1 h)
            clear hP1 hD1 hK1 hFc hk1 hz1 ht hvm
            generalize H1 = H at hP hS ⊢
            refine lv_if_eq (tgt := 42) hx hb dX0_columnThatLifts_37 (by decide) (fun c4 => ?_) (fun c4 => ?_)
            · rcases hw with ⟨q, _⟩ | ⟨q, hq⟩
              · rw [q] at c4; exact absurd c4 (by decide)
              rw [hch k b (by omega) (by omega) c2 h3] at hq
              refine lv_iinc (v := nI (k + 1)) (lv' := [(3, .int (nI (k + 1))), (2, .int (nI b)), (0, .ref h0), (1, .int (nI i))]) hx hb dX0_columnThatLifts_42 hl (k := 0) rfl (nI_1 _) (by decide) rfl (fun ls hl => ?_)
              refine lv_goto (tgt := 4) hx hb dX0_columnThatLifts_45 (by decide) ?_
              exact ih (k + 1) (nI b) H _ ls (by omega) (by
                refine Or.inr ⟨b, by omega, rfl, h3, fun j hj q => ?_⟩
                by_cases e9 : j = k
                · subst e9; exact ⟨hq, fun q6 => by omega⟩
                · exact h4 j (by omega) q) hP hK hD hS (lv_sub hl [0, 1, 2, 3] rfl)
            · rcases hw with ⟨q, hq⟩ | ⟨q, _⟩
              rotate_left
              · rw [q] at c4; exact absurd rfl c4
              rw [hch k b (by omega) (by omega) c2 h3] at hq
              refine lv_iload_n hx hb dX0_columnThatLifts_40 rfl (lv_at hl 0 rfl) ?_
              refine lv_istore_n (lv' := [(2, .int (nI k)), (3, .int (nI k)), (0, .ref h0), (1, .int (nI i))]) hx hb dX0_columnThatLifts_41 rfl hl (by decide) rfl (fun ls hl => ?_)
              refine lv_iinc (v := nI (k + 1)) (lv' := [(3, .int (nI (k + 1))), (2, .int (nI k)), (0, .ref h0), (1, .int (nI i))]) hx hb dX0_columnThatLifts_42 hl (k := 1) rfl (nI_1 _) (by decide) rfl (fun ls hl => ?_)
              refine lv_goto (tgt := 4) hx hb dX0_columnThatLifts_45 (by decide) ?_
              exact ih (k + 1) (nI k) H _ ls (by omega) (by
                refine Or.inr ⟨k, by omega, rfl, c2, fun j hj q5 => ?_⟩
                by_cases e9 : j = k
                · subst e9; exact ⟨by grind, fun q6 => by omega⟩
                · have q7 := (h4 j (by omega) q5).1
                  exact ⟨by grind, fun _ => by grind⟩) hP hK hD hS (lv_sub hl [0, 1, 2, 3] rfl)
  exact loop nw 0 (-1) H [] ls (by omega) (Or.inl ⟨rfl, fun i hi => by omega⟩) hP hK hD hS (lv_sub hl [0, 1, 2, 3] rfl)
/-- row i taken negatively, up to place k -/
def ngF (M : Nat → Nat → Int64) (i k : Nat) : Nat → Nat → Int64 := fup M i (fun j => if j < k then -(M i j) else M i j)
theorem ngF_0 (M : Nat → Nat → Int64) (i : Nat) : ngF M i 0 = M := by
  unfold ngF
  have : (fun j => if j < 0 then -(M i j) else M i j) = M i := funext fun j => by simp
  rw [this, fup_id]
theorem ngF_s (M : Nat → Nat → Int64) (i k : Nat) : mup (ngF M i k) i k (-(ngF M i k i k)) = ngF M i (k + 1) := by
  unfold mup ngF
  rw [fup_s, fup_2]
  congr 1
  funext j
  by_cases e : j = k
  · subst e; simp [vp_updL]
  · by_cases h : j < k
    · simp [vp_updL, e, h, show j < k + 1 by omega]
    · simp [vp_updL, e, h, show ¬ j < k + 1 by omega]
set_option maxHeartbeats 4000000 in
set_option maxRecDepth 100000 in
/-- negate(i) -/
theorem c_X0_negate (l : Launch) (dC : Nat → ClassId) (dI : Nat → Nat → Nat) (h0 qc qh : Nat) (r : Nat → Nat) (cA cI cJ : ClassId) (sz : Nat) (me nw : Nat) (u : Int64) (tw : Int32) (iv : Int64) (hd : Nat → Int32) (M : Nat → Nat → Int64) (i : Nat) (hi : i < 10) (hn : nw < 17) : Met l yX0_negate wsX0_negate ({ frames := 0, cells := 0, slots := 0, locals := 0 }) (va_Pc [.ref h0, .int (nI i)] (fun U => U.heap.size = sz ∧ va_P (dC, dI) vwCl (wgW h0 qc qh r cA cI cJ me nw u tw iv hd M) U.heap ∧ va_K (dC, dI) vwCl (wgT cA cI cJ) U ∧ va_D (fun _ => True) (wgW h0 qc qh r cA cI cJ me nw u tw iv hd M))) (va_Qv (fun v : Unit => True) (fun v t => va_P (dC, dI) vwCl (wgW h0 qc qh r cA cI cJ me nw u tw iv hd (ngF M i (nw + 1))) t.heap ∧ va_K (dC, dI) vwCl (wgT cA cI cJ) t ∧ va_D (va_A (wgW h0 qc qh r cA cI cJ me nw u tw iv hd M) sz) (wgW h0 qc qh r cA cI cJ me nw u tw iv hd (ngF M i (nw + 1)))) (va_A (wgW h0 qc qh r cA cI cJ me nw u tw iv hd M) sz)) 0 0 (va_A (wgW h0 qc qh r cA cI cJ me nw u tw iv hd M) sz) := by
  refine Met.ofW (cc := cX0_negate) (maxL := 3) (ret := none) (by decide) rfl ?_
  intro p e s m args below meth c s₁ B hml hv
  obtain ⟨rfl, hsz, hP, hK, hD0⟩ := hv
  have hx := B.exec
  have hb := B.bytes
  have hr := B.returns
  have hts := atoms_spec (ws := wsX0_negate) B.pre
  have hown : s.vm.findClass RX0 = some m.cls := findClass_of_methodNamed B.named
  subst hsz
  have hD := hD0.self (sz := s.heap.size)
  clear hD0
  generalize hAe : va_A (wgW h0 qc qh r cA cI cJ me nw u tw iv hd M) s.heap.size = A at hD ⊢
  have hA : ∀ q : Nat, s.heap.size ≤ q → A q := fun q h => by rw [← hAe]; exact Or.inr h
  have hl := lv_entry ([.ref h0, .int (nI i)]) (n := 3) (Nat.le_of_ble_eq_true rfl)
  rw [lg_entry_eq]
  generalize (lg_sl ([.ref h0, .int (nI i)]) ++ List.replicate (3 - (lg_sl ([.ref h0, .int (nI i)])).length) Slot.unset).toArray = ls at hl ⊢
  have hl : lv_has ls 3 [(0, .ref h0), (1, .int (nI i))] := hl
  have hP : va_P (dC, dI) vwCl (wgW h0 qc qh r cA cI cJ me nw u tw iv hd M) s.heap := hP
  obtain ⟨H, hH⟩ : ∃ H, H = s.heap := ⟨_, rfl⟩
  have hS : va_S A s.heap H [] := by rw [hH]; exact va_S.rf
  rw [← hH] at hP ⊢
  refine lv_iconst (v := nI 0) hx hb dX0_negate_0 (by decide) ?_
  refine lv_istore_n (lv' := [(2, .int (nI 0)), (0, .ref h0), (1, .int (nI i))]) hx hb dX0_negate_1 rfl hl (by decide) rfl (fun ls hl => ?_)
  have loop : ∀ (d k : Nat) (H : Heap) (locs : List Loc) (ls : Array Slot), k + d = nw + 1 → va_P (dC, dI) vwCl (wgW h0 qc qh r cA cI cJ me nw u tw iv hd (ngF M i k)) H → va_D A (wgW h0 qc qh r cA cI cJ me nw u tw iv hd (ngF M i k)) → va_S A s.heap H locs → lv_has ls 3 [(2, .int (nI k)), (0, .ref h0), (1, .int (nI i))] → W p l e (headSpec wsX0_negate ({ frames := 0, cells := 0, slots := 0, locals := 0 })).room s m #[.ref h0, .int (nI i)] below meth c H locs 0 0 (MQ below (va_Qv (fun v : Unit => True) (fun v t => va_P (dC, dI) vwCl (wgW h0 qc qh r cA cI cJ me nw u tw iv hd (ngF M i (nw + 1))) t.heap ∧ va_K (dC, dI) vwCl (wgT cA cI cJ) t ∧ va_D A (wgW h0 qc qh r cA cI cJ me nw u tw iv hd (ngF M i (nw + 1)))) A) #[.ref h0, .int (nI i)] s 0 0 A) (F0 m 2 ls []) := by
    intro d
    induction d with
    | zero =>
      intro k H locs ls hk hP hD hS hl
      refine lv_iload_n hx hb dX0_negate_2 rfl (lv_at hl 0 rfl) ?_
      refine lv_aload_n hx hb dX0_negate_3 rfl (lv_at hl 1 rfl) ?_
      refine va_get (D := (dC, dI)) (ci := 0) (v := .int (nI nw)) (C := RX0) (T := TX0) (N := 7) hx hb hts (fun _ h => List.mem_cons_of_mem _ (List.mem_append_right _ h)) hown hK hP 0 rfl rfl 3 (by decide) (hts (.fieldLink RX0 24 "RankFinder$Weighing" "weights" "I") (List.mem_of_getElem? (i := 1) rfl)) (fun _ h9 => h9) rfl dX0_negate_4 ?_
      refine lv_icmp_gt (tgt := 33) hx hb dX0_negate_7 (by decide) (fun c1 => ?_) (fun c1 => ?_)
      · obtain rfl : k = nw + 1 := by omega
        exact W.vret hx hb hr (fun t ht hW => ⟨⟨(), rfl, trivial, by rw [ht]; exact hP, va_K.moved hW.alike hK, hD⟩, hS.F ht⟩) hS.2.2 dX0_negate_33
      · exact absurd (nI_lt (by omega) (by omega)) c1
    | succ d ih =>
      intro k H locs ls hk hP hD hS hl
      refine lv_iload_n hx hb dX0_negate_2 rfl (lv_at hl 0 rfl) ?_
      refine lv_aload_n hx hb dX0_negate_3 rfl (lv_at hl 1 rfl) ?_
      refine va_get (D := (dC, dI)) (ci := 0) (v := .int (nI nw)) (C := RX0) (T := TX0) (N := 7) hx hb hts (fun _ h => List.mem_cons_of_mem _ (List.mem_append_right _ h)) hown hK hP 0 rfl rfl 3 (by decide) (hts (.fieldLink RX0 24 "RankFinder$Weighing" "weights" "I") (List.mem_of_getElem? (i := 1) rfl)) (fun _ h9 => h9) rfl dX0_negate_4 ?_
      refine lv_icmp_gt (tgt := 33) hx hb dX0_negate_7 (by decide) (fun c1 => ?_) (fun c1 => ?_)
      · exact absurd c1 (nI_nlt (by omega) (by omega))
      · refine lv_aload_n hx hb dX0_negate_10 rfl (lv_at hl 1 rfl) ?_
        refine va_get (D := (dC, dI)) (ci := 0) (v := .ref qc) (C := RX0) (T := TX0) (N := 7) hx hb hts (fun _ h => List.mem_cons_of_mem _ (List.mem_append_right _ h)) hown hK hP 0 rfl rfl 0 (by decide) (hts (.fieldLink RX0 13 "RankFinder$Weighing" "cell" "[[J") (List.mem_of_getElem? (i := 2) rfl)) (fun _ h9 => h9) rfl dX0_negate_11 ?_
        refine lv_iload_n hx hb dX0_negate_14 rfl (lv_at hl 2 rfl) ?_
        refine na_aald (y := r i) hx hb hK hP 1 0 rfl rfl hi (by decide) (if_pos hi) dX0_negate_15 ?_
        refine lv_iload_n hx hb dX0_negate_16 rfl (lv_at hl 0 rfl) ?_
        refine lv_aload_n hx hb dX0_negate_17 rfl (lv_at hl 1 rfl) ?_
        refine va_get (D := (dC, dI)) (ci := 0) (v := .ref qc) (C := RX0) (T := TX0) (N := 7) hx hb hts (fun _ h => List.mem_cons_of_mem _ (List.mem_append_right _ h)) hown hK hP 0 rfl rfl 0 (by decide) (hts (.fieldLink RX0 13 "RankFinder$Weighing" "cell" "[[J") (List.mem_of_getElem? (i := 2) rfl)) (fun _ h9 => h9) rfl dX0_negate_18 ?_
        refine lv_iload_n hx hb dX0_negate_21 rfl (lv_at hl 2 rfl) ?_
        refine na_aald (y := r i) hx hb hK hP 1 0 rfl rfl hi (by decide) (if_pos hi) dX0_negate_22 ?_
        refine lv_iload_n hx hb dX0_negate_23 rfl (lv_at hl 0 rfl) ?_
        refine na_lald hx hb hK hP (3 + i) 2 (gG_get hi rfl) rfl (show k < 17 by omega) (by decide) dX0_negate_24 ?_
        refine lv_lneg hx hb dX0_negate_25 ?_
        refine na_last hx hb hK hP hD hS (3 + i) 2 (gG_get hi rfl) rfl (show k < 17 by omega) (by decide) dX0_negate_26 (fun H locs hP hD hS => ?_)
        rw [wgW_set hi] at hP hD
        have hP : va_P (dC, dI) vwCl (wgW h0 qc qh r cA cI cJ me nw u tw iv hd (mup (ngF M i k) i k (-((ngF M i k) i k)))) H := hP
        have hD : va_D A (wgW h0 qc qh r cA cI cJ me nw u tw iv hd (mup (ngF M i k) i k (-((ngF M i k) i k)))) := hD
        rw [ngF_s] at hP hD
        refine lv_iinc (v := nI (k + 1)) (lv' := [(2, .int (nI (k + 1))), (0, .ref h0), (1, .int (nI i))]) hx hb dX0_negate_27 hl (k := 0) rfl (nI_1 _) (by decide) rfl (fun ls hl => ?_)
        refine lv_goto (tgt := 2) hx hb dX0_negate_30 (by decide) ?_
        exact ih (k + 1) H _ ls (by omega) hP hD hS (lv_sub hl [0, 1, 2] rfl)
  exact loop (nw + 1) 0 H [] ls (by omega) (by rw [ngF_0]; exact hP) (by rw [ngF_0]; exact hD) hS hl
