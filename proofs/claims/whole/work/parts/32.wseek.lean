/-! ===== Weighing: the methods that look for a row or a column ===== -/
set_option maxHeartbeats 4000000 in
set_option maxRecDepth 100000 in
/-- firstColumnOf(i): the first column that is not 0, or -1 -/
theorem c_X0_firstColumnOf (l : Launch) (dC : Nat → ClassId) (dI : Nat → Nat → Nat) (h0 qc qh : Nat) (r : Nat → Nat) (cA cI cJ : ClassId) (sz : Nat) (me nw : Nat) (u : Int64) (tw : Int32) (iv : Int64) (hd : Nat → Int32) (M : Nat → Nat → Int64) (i : Nat) (hi : i < 10) (hn : nw < 17) : Met l yX0_firstColumnOf wsX0_firstColumnOf ({ frames := 0, cells := 0, slots := 0, locals := 0 }) (va_Pc [.ref h0, .int (nI i)] (fun U => U.heap.size = sz ∧ va_P (dC, dI) vwCl (wgW h0 qc qh r cA cI cJ me nw u tw iv hd M) U.heap ∧ va_K (dC, dI) vwCl (wgT cA cI cJ) U ∧ va_D (fun _ => True) (wgW h0 qc qh r cA cI cJ me nw u tw iv hd M))) (va_Qi (fun (x : Int32) (v : Unit) => (∃ k, k < nw ∧ x = nI k ∧ M i k ≠ 0 ∧ ∀ j, j < k → M i j = 0) ∨ (x = -1 ∧ ∀ j, j < nw → M i j = 0)) (fun v t => va_P (dC, dI) vwCl (wgW h0 qc qh r cA cI cJ me nw u tw iv hd M) t.heap ∧ va_K (dC, dI) vwCl (wgT cA cI cJ) t ∧ va_D (va_A (wgW h0 qc qh r cA cI cJ me nw u tw iv hd M) sz) (wgW h0 qc qh r cA cI cJ me nw u tw iv hd M)) (va_A (wgW h0 qc qh r cA cI cJ me nw u tw iv hd M) sz)) 0 0 (va_A (wgW h0 qc qh r cA cI cJ me nw u tw iv hd M) sz) := by
  refine Met.ofW (cc := cX0_firstColumnOf) (maxL := 3) (ret := (some .int)) (by decide) rfl ?_
  intro p e s m args below meth c s₁ B hml hv
  obtain ⟨rfl, hsz, hP, hK, hD0⟩ := hv
  have hx := B.exec
  have hb := B.bytes
  have hr := B.returns
  have hts := atoms_spec (ws := wsX0_firstColumnOf) B.pre
  have hown : s.vm.findClass RX0 = some m.cls := findClass_of_methodNamed B.named
  subst hsz
  have hD := hD0.self (sz := s.heap.size)
  clear hD0
  generalize hAe : va_A (wgW h0 qc qh r cA cI cJ me nw u tw iv hd M) s.heap.size = A at hD ⊢
  have hA : ∀ q : Nat, s.heap.size ≤ q → A q := fun q h => by rw [← hAe]; exact Or.inr h
  have hl := lv_entry ([.ref h0, .int (nI i)]) (n := 3) (Nat.le_of_ble_eq_true rfl)
  rw [lg_entry_eq]
  generalize (lg_sl ([.ref h0, .int (nI i)]) ++ List.replicate (3 - (lg_sl ([.ref h0, .int (nI i)])).length) Slot.unset).toArray = ls at hl ⊢
  have hl : lv_has ls 3 [(0, .ref h0), (1, .int (nI i))] := hl
  have hP : va_P (dC, dI) vwCl (wgW h0 qc qh r cA cI cJ me nw u tw iv hd M) s.heap := hP
  obtain ⟨H, hH⟩ : ∃ H, H = s.heap := ⟨_, rfl⟩
  have hS : va_S A s.heap H [] := by rw [hH]; exact va_S.rf
  rw [← hH] at hP ⊢
  refine lv_iconst (v := nI 0) hx hb dX0_firstColumnOf_0 (by decide) ?_
  refine lv_istore_n (lv' := [(2, .int (nI 0)), (0, .ref h0), (1, .int (nI i))]) hx hb dX0_firstColumnOf_1 rfl hl (by decide) rfl (fun ls hl => ?_)
  have loop : ∀ (d k : Nat) (ls : Array Slot), k + d = nw → (∀ j, j < k → M i j = 0) → lv_has ls 3 [(2, .int (nI k)), (0, .ref h0), (1, .int (nI i))] → W p l e (headSpec wsX0_firstColumnOf ({ frames := 0, cells := 0, slots := 0, locals := 0 })).room s m #[.ref h0, .int (nI i)] below meth c H [] 0 0 (MQ below (va_Qi (fun (x : Int32) (v : Unit) => (∃ k, k < nw ∧ x = nI k ∧ M i k ≠ 0 ∧ ∀ j, j < k → M i j = 0) ∨ (x = -1 ∧ ∀ j, j < nw → M i j = 0)) (fun v t => va_P (dC, dI) vwCl (wgW h0 qc qh r cA cI cJ me nw u tw iv hd M) t.heap ∧ va_K (dC, dI) vwCl (wgT cA cI cJ) t ∧ va_D A (wgW h0 qc qh r cA cI cJ me nw u tw iv hd M)) A) #[.ref h0, .int (nI i)] s 0 0 A) (F0 m 2 ls []) := by
    intro d
    induction d with
    | zero =>
      intro k ls hk hz hl
      refine lv_iload_n hx hb dX0_firstColumnOf_2 rfl (lv_at hl 0 rfl) ?_
      refine lv_aload_n hx hb dX0_firstColumnOf_3 rfl (lv_at hl 1 rfl) ?_
      refine va_get (D := (dC, dI)) (ci := 0) (v := .int (nI nw)) (C := RX0) (T := TX0) (N := 7) hx hb hts (fun _ h => List.mem_cons_of_mem _ (List.mem_append_right _ h)) hown hK hP 0 rfl rfl 3 (by decide) (hts (.fieldLink RX0 24 "RankFinder$Weighing" "weights" "I") (List.mem_of_getElem? (i := 1) rfl)) (fun _ h9 => h9) rfl dX0_firstColumnOf_4 ?_
      refine lv_icmp_ge (tgt := 31) hx hb dX0_firstColumnOf_7 (by decide) (fun c1 => ?_) (fun c1 => ?_)
      · refine lv_iconst (v := (-1)) hx hb dX0_firstColumnOf_31 (by decide) ?_
        exact W.iret (v := (-1)) hx hb hr (fun t ht hW => ⟨⟨(-1), (), rfl, Or.inr ⟨rfl, fun j hj => hz j (by omega)⟩, by rw [ht]; exact hP, va_K.moved hW.alike hK, hD⟩, hS.F ht⟩) hS.2.2 dX0_firstColumnOf_32
      · exact absurd (nI_le (by omega) (by omega)) c1
    | succ d ih =>
      intro k ls hk hz hl
      refine lv_iload_n hx hb dX0_firstColumnOf_2 rfl (lv_at hl 0 rfl) ?_
      refine lv_aload_n hx hb dX0_firstColumnOf_3 rfl (lv_at hl 1 rfl) ?_
      refine va_get (D := (dC, dI)) (ci := 0) (v := .int (nI nw)) (C := RX0) (T := TX0) (N := 7) hx hb hts (fun _ h => List.mem_cons_of_mem _ (List.mem_append_right _ h)) hown hK hP 0 rfl rfl 3 (by decide) (hts (.fieldLink RX0 24 "RankFinder$Weighing" "weights" "I") (List.mem_of_getElem? (i := 1) rfl)) (fun _ h9 => h9) rfl dX0_firstColumnOf_4 ?_
      refine lv_icmp_ge (tgt := 31) hx hb dX0_firstColumnOf_7 (by decide) (fun c1 => ?_) (fun c1 => ?_)
      · exact absurd c1 (nI_ge (by omega) (by omega))
      · refine lv_aload_n hx hb dX0_firstColumnOf_10 rfl (lv_at hl 1 rfl) ?_
        refine va_get (D := (dC, dI)) (ci := 0) (v := .ref qc) (C := RX0) (T := TX0) (N := 7) hx hb hts (fun _ h => List.mem_cons_of_mem _ (List.mem_append_right _ h)) hown hK hP 0 rfl rfl 0 (by decide) (hts (.fieldLink RX0 13 "RankFinder$Weighing" "cell" "[[J") (List.mem_of_getElem? (i := 2) rfl)) (fun _ h9 => h9) rfl dX0_firstColumnOf_11 ?_
        refine lv_iload_n hx hb dX0_firstColumnOf_14 rfl (lv_at hl 2 rfl) ?_
        refine na_aald (y := r i) hx hb hK hP 1 0 rfl rfl hi (by decide) (if_pos hi) dX0_firstColumnOf_15 ?_
        refine lv_iload_n hx hb dX0_firstColumnOf_16 rfl (lv_at hl 0 rfl) ?_
        refine na_lald hx hb hK hP (3 + i) 2 (gG_get hi rfl) rfl (show k < 17 by omega) (by decide) dX0_firstColumnOf_17 ?_
        refine lv_lconst (v := 0) hx hb dX0_firstColumnOf_18 (by decide) ?_
        refine W.lcmp hx hb dX0_firstColumnOf_19 ?_
        refine lv_if_eq (tgt := 25) hx hb dX0_firstColumnOf_20 (by decide) (fun c2 => ?_) (fun c2 => ?_)
        · rw [lg_cmp_eq] at c2
          refine lv_iinc (v := nI (k + 1)) (lv' := [(2, .int (nI (k + 1))), (0, .ref h0), (1, .int (nI i))]) hx hb dX0_firstColumnOf_25 hl (k := 0) rfl (nI_1 _) (by decide) rfl (fun ls hl => ?_)
          refine lv_goto (tgt := 2) hx hb dX0_firstColumnOf_28 (by decide) ?_
          exact ih (k + 1) ls (by omega) (fun j hj => by
            by_cases e9 : j = k
            · subst e9; exact c2
            · exact hz j (by omega)) (lv_sub hl [0, 1, 2] rfl)
        · rw [lg_cmp_eq] at c2
          refine lv_iload_n hx hb dX0_firstColumnOf_23 rfl (lv_at hl 0 rfl) ?_
          exact W.iret (v := (nI k)) hx hb hr (fun t ht hW => ⟨⟨(nI k), (), rfl, Or.inl ⟨k, by omega, rfl, c2, hz⟩, by rw [ht]; exact hP, va_K.moved hW.alike hK, hD⟩, hS.F ht⟩) hS.2.2 dX0_firstColumnOf_24
  exact loop nw 0 ls (by omega) (fun j hj => by omega) hl
