/-! ===== Weighing: exchange ===== -/
/-- the cells of the rows but row r, those before row i and of row i those before place j, are new -/
def xcP (tw : Int32) (iv : Int64) (M : Nat → Nat → Int64) (r c nw i j : Nat) : Nat → Nat → Int64 := fun a b => if a ≠ r ∧ b ≤ nw ∧ (a < i ∨ (a = i ∧ b < j)) then dbF tw iv (M r c) (M a b) (M a c) (M r b) else M a b
theorem xcP_0 (tw : Int32) (iv : Int64) (M : Nat → Nat → Int64) (r c nw : Nat) : xcP tw iv M r c nw 0 0 = M := by
  funext a b; unfold xcP; rw [if_neg (by omega)]
theorem xcP_r {tw : Int32} {iv : Int64} {M : Nat → Nat → Int64} {r c nw i j b : Nat} : xcP tw iv M r c nw i j r b = M r b := by
  unfold xcP; rw [if_neg (by omega)]
theorem xcP_o {tw : Int32} {iv : Int64} {M : Nat → Nat → Int64} {r c nw i j b : Nat} (h : j ≤ b) : xcP tw iv M r c nw i j i b = M i b := by
  unfold xcP; rw [if_neg (by omega)]
theorem xcP_s {tw : Int32} {iv : Int64} {M : Nat → Nat → Int64} {r c nw i j : Nat} (hi : i ≠ r) (hj : j ≤ nw) : mup (xcP tw iv M r c nw i j) i j (dbF tw iv (M r c) (M i j) (M i c) (M r j)) = xcP tw iv M r c nw i (j + 1) := by
  funext a b
  unfold mup fup
  by_cases e : a = i
  · subst e
    simp only [if_true]
    unfold vp_updL
    by_cases e2 : b = j
    · subst e2
      simp only [if_true]
      unfold xcP
      rw [if_pos ⟨hi, hj, Or.inr ⟨rfl, by omega⟩⟩]
    · simp only [if_neg e2]
      unfold xcP
      by_cases q : a ≠ r ∧ b ≤ nw ∧ (a < a ∨ (a = a ∧ b < j))
      · rw [if_pos q, if_pos ⟨q.1, q.2.1, by omega⟩]
      · rw [if_neg q, if_neg (fun q2 => q ⟨q2.1, q2.2.1, by omega⟩)]
  · simp only [if_neg e]
    unfold xcP
    by_cases q : a ≠ r ∧ b ≤ nw ∧ (a < i ∨ (a = i ∧ b < j))
    · rw [if_pos q, if_pos ⟨q.1, q.2.1, by omega⟩]
    · rw [if_neg q, if_neg (fun q2 => q ⟨q2.1, q2.2.1, by omega⟩)]
theorem xcP_n {tw : Int32} {iv : Int64} {M : Nat → Nat → Int64} {r c nw i : Nat} : xcP tw iv M r c nw i (nw + 1) = xcP tw iv M r c nw (i + 1) 0 := by
  funext a b
  unfold xcP
  by_cases q : a ≠ r ∧ b ≤ nw ∧ (a < i ∨ (a = i ∧ b < nw + 1))
  · rw [if_pos q, if_pos ⟨q.1, q.2.1, by omega⟩]
  · rw [if_neg q, if_neg (fun q2 => q ⟨q2.1, q2.2.1, by omega⟩)]
theorem xcP_k {tw : Int32} {iv : Int64} {M : Nat → Nat → Int64} {r c nw i : Nat} (h : i = r) : xcP tw iv M r c nw i 0 = xcP tw iv M r c nw (i + 1) 0 := by
  funext a b
  unfold xcP
  by_cases q : a ≠ r ∧ b ≤ nw ∧ (a < i ∨ (a = i ∧ b < 0))
  · rw [if_pos q, if_pos ⟨q.1, q.2.1, by omega⟩]
  · rw [if_neg q, if_neg (fun q2 => q ⟨q2.1, q2.2.1, by omega⟩)]
/-- the row is made so that its cell is above 0 -/
def xcS (M : Nat → Nat → Int64) (r c nw : Nat) : Nat → Nat → Int64 := if M r c < 0 then ngF M r (nw + 1) else M
def xcM (tw : Int32) (iv : Int64) (M : Nat → Nat → Int64) (r c me nw : Nat) : Nat → Nat → Int64 := xcP tw iv (xcS M r c nw) r c nw (me + 1) 0
set_option maxHeartbeats 4000000 in
set_option maxRecDepth 100000 in
/-- exchange(rr, cc) -/
theorem c_X0_exchange (l : Launch) (dC : Nat → ClassId) (dI : Nat → Nat → Nat) (h0 qc qh : Nat) (r : Nat → Nat) (cA cI cJ : ClassId) (sz : Nat) (me nw : Nat) (u : Int64) (tw : Int32) (iv : Int64) (hd : Nat → Int32) (M : Nat → Nat → Int64) (rr cc : Nat) (hm : me < 10) (hn : nw < 17) (hr9 : rr < me) (hc9 : cc < nw) : Met l yX0_exchange wsX0_exchange ({ frames := 2, cells := 0, slots := 0, locals := 73 }) (va_Pc [.ref h0, .int (nI rr), .int (nI cc)] (fun U => U.heap.size = sz ∧ va_P (dC, dI) vwCl (wgW h0 qc qh r cA cI cJ me nw u tw iv hd M) U.heap ∧ va_K (dC, dI) vwCl (wgT cA cI cJ) U ∧ va_D (fun _ => True) (wgW h0 qc qh r cA cI cJ me nw u tw iv hd M))) (va_Qv (fun v : Unit => True) (fun v t => va_P (dC, dI) vwCl (wgW h0 qc qh r cA cI cJ me nw (xcS M rr cc nw rr cc) (bcF (((xcS M rr cc nw rr cc) &&& -(xcS M rr cc nw rr cc)) - 1)) (nwF (sr (xcS M rr cc nw rr cc) (bcF (((xcS M rr cc nw rr cc) &&& -(xcS M rr cc nw rr cc)) - 1))) 5) (upd hd rr (nI cc)) (xcM tw iv M rr cc me nw)) t.heap ∧ va_K (dC, dI) vwCl (wgT cA cI cJ) t ∧ va_D (va_A (wgW h0 qc qh r cA cI cJ me nw u tw iv hd M) sz) (wgW h0 qc qh r cA cI cJ me nw (xcS M rr cc nw rr cc) (bcF (((xcS M rr cc nw rr cc) &&& -(xcS M rr cc nw rr cc)) - 1)) (nwF (sr (xcS M rr cc nw rr cc) (bcF (((xcS M rr cc nw rr cc) &&& -(xcS M rr cc nw rr cc)) - 1))) 5) (upd hd rr (nI cc)) (xcM tw iv M rr cc me nw))) (va_A (wgW h0 qc qh r cA cI cJ me nw u tw iv hd M) sz)) 0 0 (va_A (wgW h0 qc qh r cA cI cJ me nw u tw iv hd M) sz) := by
  refine Met.ofW (cc := cX0_exchange) (maxL := 9) (ret := none) (by decide) rfl ?_
  intro p e s m args below meth c s₁ B hml hv
  obtain ⟨rfl, hsz, hP, hK, hD0⟩ := hv
  have hx := B.exec
  have hb := B.bytes
  have hr := B.returns
  have hts := atoms_spec (ws := wsX0_exchange) B.pre
  have hown : s.vm.findClass RX0 = some m.cls := findClass_of_methodNamed B.named
  subst hsz
  have hD := hD0.self (sz := s.heap.size)
  clear hD0
  generalize hAe : va_A (wgW h0 qc qh r cA cI cJ me nw u tw iv hd M) s.heap.size = A at hD ⊢
  have hA : ∀ q : Nat, s.heap.size ≤ q → A q := fun q h => by rw [← hAe]; exact Or.inr h
  have hl := lv_entry ([.ref h0, .int (nI rr), .int (nI cc)]) (n := 9) (Nat.le_of_ble_eq_true rfl)
  rw [lg_entry_eq]
  generalize (lg_sl ([.ref h0, .int (nI rr), .int (nI cc)]) ++ List.replicate (9 - (lg_sl ([.ref h0, .int (nI rr), .int (nI cc)])).length) Slot.unset).toArray = ls at hl ⊢
  have hl : lv_has ls 9 [(0, .ref h0), (1, .int (nI rr)), (2, .int (nI cc))] := hl
  have hP : va_P (dC, dI) vwCl (wgW h0 qc qh r cA cI cJ me nw u tw iv hd M) s.heap := hP
  obtain ⟨H, hH⟩ : ∃ H, H = s.heap := ⟨_, rfl⟩
  have hS : va_S A s.heap H [] := by rw [hH]; exact va_S.rf
  rw [← hH] at hP ⊢
  have behind : ∀ (H : Heap) (locs : List Loc) (ls : Array Slot), va_P (dC, dI) vwCl (wgW h0 qc qh r cA cI cJ me nw u tw iv hd (xcS M rr cc nw)) H → va_K (dC, dI) vwCl (wgT cA cI cJ) s → va_D A (wgW h0 qc qh r cA cI cJ me nw u tw iv hd (xcS M rr cc nw)) → va_S A s.heap H locs → lv_has ls 9 [(0, .ref h0), (1, .int (nI rr)), (2, .int (nI cc))] → W p l e (headSpec wsX0_exchange ({ frames := 2, cells := 0, slots := 0, locals := 73 })).room s m #[.ref h0, .int (nI rr), .int (nI cc)] below meth c H locs 0 0 (MQ below (va_Qv (fun v : Unit => True) (fun v t => va_P (dC, dI) vwCl (wgW h0 qc qh r cA cI cJ me nw (xcS M rr cc nw rr cc) (bcF (((xcS M rr cc nw rr cc) &&& -(xcS M rr cc nw rr cc)) - 1)) (nwF (sr (xcS M rr cc nw rr cc) (bcF (((xcS M rr cc nw rr cc) &&& -(xcS M rr cc nw rr cc)) - 1))) 5) (upd hd rr (nI cc)) (xcM tw iv M rr cc me nw)) t.heap ∧ va_K (dC, dI) vwCl (wgT cA cI cJ) t ∧ va_D A (wgW h0 qc qh r cA cI cJ me nw (xcS M rr cc nw rr cc) (bcF (((xcS M rr cc nw rr cc) &&& -(xcS M rr cc nw rr cc)) - 1)) (nwF (sr (xcS M rr cc nw rr cc) (bcF (((xcS M rr cc nw rr cc) &&& -(xcS M rr cc nw rr cc)) - 1))) 5) (upd hd rr (nI cc)) (xcM tw iv M rr cc me nw))) A) #[.ref h0, .int (nI rr), .int (nI cc)] s 0 0 A) (F0 m 18 ls []) := by
    clear hP hK hD hS hl
    intro H locs ls hP hK hD hS hl
    obtain ⟨M1, hMe⟩ : ∃ M1, M1 = xcS M rr cc nw := ⟨_, rfl⟩
    rw [← hMe] at hP hD
    refine lv_aload_n hx hb dX0_exchange_18 rfl (lv_at hl 0 rfl) ?_
    refine va_get (D := (dC, dI)) (ci := 0) (v := .ref qc) (C := RX0) (T := TX0) (N := 7) hx hb hts (fun _ h => List.mem_cons_of_mem _ (List.mem_append_right _ h)) hown hK hP 0 rfl rfl 0 (by decide) (hts (.fieldLink RX0 13 "RankFinder$Weighing" "cell" "[[J") (List.mem_of_getElem? (i := 1) rfl)) (fun _ h9 => h9) rfl dX0_exchange_19 ?_
    refine lv_iload_n hx hb dX0_exchange_22 rfl (lv_at hl 1 rfl) ?_
    refine na_aald (y := r rr) hx hb hK hP 1 0 rfl rfl (show rr < 10 by omega) (by decide) (if_pos (show rr < 10 by omega)) dX0_exchange_23 ?_
    refine lv_astore_n (lv' := [(3, .ref (r rr)), (0, .ref h0), (1, .int (nI rr)), (2, .int (nI cc))]) hx hb dX0_exchange_24 rfl hl (by decide) rfl (fun ls hl => ?_)
    refine lv_iconst (v := nI 0) hx hb dX0_exchange_25 (by decide) ?_
    refine lv_istore (lv' := [(4, .int (nI 0)), (3, .ref (r rr)), (0, .ref h0), (1, .int (nI rr)), (2, .int (nI cc))]) hx hb dX0_exchange_26 hl (by decide) rfl (fun ls hl => ?_)
    have outer : ∀ (d i : Nat) (H : Heap) (locs : List Loc) (ls : Array Slot), i + d = me + 1 → va_P (dC, dI) vwCl (wgW h0 qc qh r cA cI cJ me nw u tw iv hd (xcP tw iv M1 rr cc nw i 0)) H → va_K (dC, dI) vwCl (wgT cA cI cJ) s → va_D A (wgW h0 qc qh r cA cI cJ me nw u tw iv hd (xcP tw iv M1 rr cc nw i 0)) → va_S A s.heap H locs → lv_has ls 9 [(4, .int (nI i)), (3, .ref (r rr)), (0, .ref h0), (1, .int (nI rr)), (2, .int (nI cc))] → W p l e (headSpec wsX0_exchange ({ frames := 2, cells := 0, slots := 0, locals := 73 })).room s m #[.ref h0, .int (nI rr), .int (nI cc)] below meth c H locs 0 0 (MQ below (va_Qv (fun v : Unit => True) (fun v t => va_P (dC, dI) vwCl (wgW h0 qc qh r cA cI cJ me nw (xcS M rr cc nw rr cc) (bcF (((xcS M rr cc nw rr cc) &&& -(xcS M rr cc nw rr cc)) - 1)) (nwF (sr (xcS M rr cc nw rr cc) (bcF (((xcS M rr cc nw rr cc) &&& -(xcS M rr cc nw rr cc)) - 1))) 5) (upd hd rr (nI cc)) (xcM tw iv M rr cc me nw)) t.heap ∧ va_K (dC, dI) vwCl (wgT cA cI cJ) t ∧ va_D A (wgW h0 qc qh r cA cI cJ me nw (xcS M rr cc nw rr cc) (bcF (((xcS M rr cc nw rr cc) &&& -(xcS M rr cc nw rr cc)) - 1)) (nwF (sr (xcS M rr cc nw rr cc) (bcF (((xcS M rr cc nw rr cc) &&& -(xcS M rr cc nw rr cc)) - 1))) 5) (upd hd rr (nI cc)) (xcM tw iv M rr cc me nw))) A) #[.ref h0, .int (nI rr), .int (nI cc)] s 0 0 A) (F0 m 28 ls []) := by
      intro d
      induction d with
      | zero =>
        intro i H locs ls hk hP hK hD hS hl
        refine lv_iload hx hb dX0_exchange_28 (lv_at hl 0 rfl) ?_
        refine lv_aload_n hx hb dX0_exchange_30 rfl (lv_at hl 2 rfl) ?_
        refine va_get (D := (dC, dI)) (ci := 0) (v := .int (nI me)) (C := RX0) (T := TX0) (N := 7) hx hb hts (fun _ h => List.mem_cons_of_mem _ (List.mem_append_right _ h)) hown hK hP 0 rfl rfl 2 (by decide) (hts (.fieldLink RX0 20 "RankFinder$Weighing" "equations" "I") (List.mem_of_getElem? (i := 2) rfl)) (fun _ h9 => h9) rfl dX0_exchange_31 ?_
        refine lv_icmp_gt (tgt := 105) hx hb dX0_exchange_34 (by decide) (fun c1 => ?_) (fun c1 => ?_)
        · obtain rfl : i = me + 1 := by omega
          refine lv_aload_n hx hb dX0_exchange_105 rfl (lv_at hl 2 rfl) ?_
          refine va_get (D := (dC, dI)) (ci := 0) (v := .ref qh) (C := RX0) (T := TX0) (N := 7) hx hb hts (fun _ h => List.mem_cons_of_mem _ (List.mem_append_right _ h)) hown hK hP 0 rfl rfl 1 (by decide) (hts (.fieldLink RX0 16 "RankFinder$Weighing" "held" "[I") (List.mem_of_getElem? (i := 4) rfl)) (fun _ h9 => h9) rfl dX0_exchange_106 ?_
          refine lv_iload_n hx hb dX0_exchange_109 rfl (lv_at hl 3 rfl) ?_
          refine lv_iload_n hx hb dX0_exchange_110 rfl (lv_at hl 4 rfl) ?_
          refine na_iast hx hb hK hP hD hS 2 1 rfl rfl (show rr < 9 by omega) (by decide) dX0_exchange_111 (fun H locs hP hD hS => ?_)
          have hP : va_P (dC, dI) vwCl (wgW h0 qc qh r cA cI cJ me nw u tw iv (upd hd rr (nI cc)) (xcP tw iv M1 rr cc nw (me + 1) 0)) H := hP
          have hD : va_D A (wgW h0 qc qh r cA cI cJ me nw u tw iv (upd hd rr (nI cc)) (xcP tw iv M1 rr cc nw (me + 1) 0)) := hD
          refine lv_aload_n hx hb dX0_exchange_112 rfl (lv_at hl 2 rfl) ?_
          refine lv_aload_n hx hb dX0_exchange_113 rfl (lv_at hl 1 rfl) ?_
          refine lv_iload_n hx hb dX0_exchange_114 rfl (lv_at hl 4 rfl) ?_
          refine na_lald hx hb hK hP (3 + rr) 2 (gG_get (show rr < 10 by omega) rfl) rfl (show cc < 17 by omega) (by decide) dX0_exchange_115 ?_
          rw [xcP_r]
          have hFc : ∀ q, va_A (wgW h0 qc qh r cA cI cJ me nw u tw iv (upd hd rr (nI cc)) (xcP tw iv M1 rr cc nw (me + 1) 0)) H.size q → A q := va_fall hD hS hA
          refine va_callv (va_runV (As := [.long (M1 rr cc)]) (rest := []) ⟨hx, hb, hml, hown, hts⟩ (c_X0_takeUnit l dC dI h0 qc qh r cA cI cJ H.size me nw u tw iv (upd hd rr (nI cc)) (xcP tw iv M1 rr cc nw (me + 1) 0) (M1 rr cc)) (cwV 1 hts gX0_exchange_X0_takeUnit rfl rfl rfl (by decide +kernel) ⟨Nat.le_of_ble_eq_true rfl, Nat.le_of_ble_eq_true rfl⟩) ⟨fun a U g mk q => by obtain ⟨q0, q1, qP, qK, qD⟩ := q; exact ⟨q0, q1, qP, va_K.moved (u := U) (U := U.calling g mk a) (Vm.Alike.refl U.vm) qK, qD⟩, va_recv hK hP (ci := 0) (q0 := 0) rfl rfl, fun U hU hW => ⟨rfl, by rw [hU], by rw [hU]; exact hP, va_K.moved hW.alike hK, hD.weaken (fun _ _ _ _ => trivial)⟩⟩ rfl rfl hl.1 rfl (lv_room (Nat.le_of_ble_eq_true rfl)) dX0_exchange_116 ⟨(Nat.zero_le _), (Nat.zero_le _)⟩) hS (fun q _ h => hFc q h) hFc (fun v9 t H1 locs ht hvm hw hB hz1 hk1 hS => ?_)
          obtain ⟨hP1, hK1, hD1⟩ := hB
          rw [ht] at hP1
          clear hP hD hK
          have hK := va_K.moved hvm.symm hK1
          have hP := hP1
          have hD := hD1.weaken (B := A) (fun _ q _ h => hFc q.1 h)
          clear hP1 hD1 hK1 hFc hk1 hz1 ht hvm
          generalize H1 = H at hP hS ⊢
          subst hMe
          exact W.vret hx hb hr (fun t ht hW => ⟨⟨(), rfl, trivial, by rw [ht]; exact hP, va_K.moved hW.alike hK, hD⟩, hS.F ht⟩) hS.2.2 dX0_exchange_119
        · exact absurd (nI_lt (by omega) (by omega)) c1
      | succ d ih =>
        intro i H locs ls hk hP hK hD hS hl
        refine lv_iload hx hb dX0_exchange_28 (lv_at hl 0 rfl) ?_
        refine lv_aload_n hx hb dX0_exchange_30 rfl (lv_at hl 2 rfl) ?_
        refine va_get (D := (dC, dI)) (ci := 0) (v := .int (nI me)) (C := RX0) (T := TX0) (N := 7) hx hb hts (fun _ h => List.mem_cons_of_mem _ (List.mem_append_right _ h)) hown hK hP 0 rfl rfl 2 (by decide) (hts (.fieldLink RX0 20 "RankFinder$Weighing" "equations" "I") (List.mem_of_getElem? (i := 2) rfl)) (fun _ h9 => h9) rfl dX0_exchange_31 ?_
        refine lv_icmp_gt (tgt := 105) hx hb dX0_exchange_34 (by decide) (fun c1 => ?_) (fun c1 => ?_)
        · exact absurd c1 (nI_nlt (by omega) (by omega))
        · refine lv_iload hx hb dX0_exchange_37 (lv_at hl 0 rfl) ?_
          refine lv_iload_n hx hb dX0_exchange_39 rfl (lv_at hl 3 rfl) ?_
          refine lv_icmp_eq (tgt := 99) hx hb dX0_exchange_40 (by decide) (fun c2 => ?_) (fun c2 => ?_)
          · rw [xcP_k (nI_inj (by omega) (by omega) c2)] at hP hD
            refine lv_iinc (v := nI (i + 1)) (lv' := [(4, .int (nI (i + 1))), (3, .ref (r rr)), (0, .ref h0), (1, .int (nI rr)), (2, .int (nI cc))]) hx hb dX0_exchange_99 hl (k := 0) rfl (nI_1 _) (by decide) rfl (fun ls hl => ?_)
            refine lv_goto (tgt := 28) hx hb dX0_exchange_102 (by decide) ?_
            exact ih (i + 1) H _ ls (by omega) hP hK hD hS (lv_sub hl [0, 1, 2, 3, 4] rfl)
          · have hne : i ≠ rr := fun q => c2 (by rw [q])
            refine lv_aload_n hx hb dX0_exchange_43 rfl (lv_at hl 2 rfl) ?_
            refine va_get (D := (dC, dI)) (ci := 0) (v := .ref qc) (C := RX0) (T := TX0) (N := 7) hx hb hts (fun _ h => List.mem_cons_of_mem _ (List.mem_append_right _ h)) hown hK hP 0 rfl rfl 0 (by decide) (hts (.fieldLink RX0 13 "RankFinder$Weighing" "cell" "[[J") (List.mem_of_getElem? (i := 1) rfl)) (fun _ h9 => h9) rfl dX0_exchange_44 ?_
            refine lv_iload hx hb dX0_exchange_47 (lv_at hl 0 rfl) ?_
            refine na_aald (y := r i) hx hb hK hP 1 0 rfl rfl (show i < 10 by omega) (by decide) (if_pos (show i < 10 by omega)) dX0_exchange_49 ?_
            refine lv_astore (lv' := [(5, .ref (r i)), (4, .int (nI i)), (3, .ref (r rr)), (0, .ref h0), (1, .int (nI rr)), (2, .int (nI cc))]) hx hb dX0_exchange_50 hl (by decide) rfl (fun ls hl => ?_)
            refine lv_aload hx hb dX0_exchange_52 (lv_at hl 0 rfl) ?_
            refine lv_iload_n hx hb dX0_exchange_54 rfl (lv_at hl 5 rfl) ?_
            refine na_lald hx hb hK hP (3 + i) 2 (gG_get (show i < 10 by omega) rfl) rfl (show cc < 17 by omega) (by decide) dX0_exchange_55 ?_
            rw [xcP_o (Nat.zero_le _)]
            refine lv_lstore (lv' := [(6, .long (M1 i cc)), (5, .ref (r i)), (4, .int (nI i)), (3, .ref (r rr)), (0, .ref h0), (1, .int (nI rr)), (2, .int (nI cc))]) hx hb dX0_exchange_56 hl (by decide) rfl (fun ls hl => ?_)
            refine lv_iconst (v := nI 0) hx hb dX0_exchange_58 (by decide) ?_
            refine lv_istore (lv' := [(8, .int (nI 0)), (6, .long (M1 i cc)), (5, .ref (r i)), (4, .int (nI i)), (3, .ref (r rr)), (0, .ref h0), (1, .int (nI rr)), (2, .int (nI cc))]) hx hb dX0_exchange_59 hl (by decide) rfl (fun ls hl => ?_)
            have inner : ∀ (d j : Nat) (H : Heap) (locs : List Loc) (ls : Array Slot), j + d = nw + 1 → va_P (dC, dI) vwCl (wgW h0 qc qh r cA cI cJ me nw u tw iv hd (xcP tw iv M1 rr cc nw i j)) H → va_K (dC, dI) vwCl (wgT cA cI cJ) s → va_D A (wgW h0 qc qh r cA cI cJ me nw u tw iv hd (xcP tw iv M1 rr cc nw i j)) → va_S A s.heap H locs → lv_has ls 9 [(8, .int (nI j)), (6, .long (M1 i cc)), (5, .ref (r i)), (4, .int (nI i)), (3, .ref (r rr)), (0, .ref h0), (1, .int (nI rr)), (2, .int (nI cc))] → W p l e (headSpec wsX0_exchange ({ frames := 2, cells := 0, slots := 0, locals := 73 })).room s m #[.ref h0, .int (nI rr), .int (nI cc)] below meth c H locs 0 0 (MQ below (va_Qv (fun v : Unit => True) (fun v t => va_P (dC, dI) vwCl (wgW h0 qc qh r cA cI cJ me nw (xcS M rr cc nw rr cc) (bcF (((xcS M rr cc nw rr cc) &&& -(xcS M rr cc nw rr cc)) - 1)) (nwF (sr (xcS M rr cc nw rr cc) (bcF (((xcS M rr cc nw rr cc) &&& -(xcS M rr cc nw rr cc)) - 1))) 5) (upd hd rr (nI cc)) (xcM tw iv M rr cc me nw)) t.heap ∧ va_K (dC, dI) vwCl (wgT cA cI cJ) t ∧ va_D A (wgW h0 qc qh r cA cI cJ me nw (xcS M rr cc nw rr cc) (bcF (((xcS M rr cc nw rr cc) &&& -(xcS M rr cc nw rr cc)) - 1)) (nwF (sr (xcS M rr cc nw rr cc) (bcF (((xcS M rr cc nw rr cc) &&& -(xcS M rr cc nw rr cc)) - 1))) 5) (upd hd rr (nI cc)) (xcM tw iv M rr cc me nw))) A) #[.ref h0, .int (nI rr), .int (nI cc)] s 0 0 A) (F0 m 61 ls []) := by
              intro d2
              induction d2 with
              | zero =>
                intro j H locs ls hk2 hP hK hD hS hl
                refine lv_iload hx hb dX0_exchange_61 (lv_at hl 0 rfl) ?_
                refine lv_aload_n hx hb dX0_exchange_63 rfl (lv_at hl 5 rfl) ?_
                refine va_get (D := (dC, dI)) (ci := 0) (v := .int (nI nw)) (C := RX0) (T := TX0) (N := 7) hx hb hts (fun _ h => List.mem_cons_of_mem _ (List.mem_append_right _ h)) hown hK hP 0 rfl rfl 3 (by decide) (hts (.fieldLink RX0 24 "RankFinder$Weighing" "weights" "I") (List.mem_of_getElem? (i := 3) rfl)) (fun _ h9 => h9) rfl dX0_exchange_64 ?_
                refine lv_icmp_gt (tgt := 99) hx hb dX0_exchange_67 (by decide) (fun c3 => ?_) (fun c3 => ?_)
                · obtain rfl : j = nw + 1 := by omega
                  rw [xcP_n] at hP hD
                  refine lv_iinc (v := nI (i + 1)) (lv' := [(4, .int (nI (i + 1))), (8, .int (nI (nw + 1))), (6, .long (M1 i cc)), (5, .ref (r i)), (3, .ref (r rr)), (0, .ref h0), (1, .int (nI rr)), (2, .int (nI cc))]) hx hb dX0_exchange_99 hl (k := 3) rfl (nI_1 _) (by decide) rfl (fun ls hl => ?_)
                  refine lv_goto (tgt := 28) hx hb dX0_exchange_102 (by decide) ?_
                  exact ih (i + 1) H _ ls (by omega) hP hK hD hS (lv_sub hl [0, 4, 5, 6, 7] rfl)
                · exact absurd (nI_lt (by omega) (by omega)) c3
              | succ d2 ih2 =>
                intro j H locs ls hk2 hP hK hD hS hl
                refine lv_iload hx hb dX0_exchange_61 (lv_at hl 0 rfl) ?_
                refine lv_aload_n hx hb dX0_exchange_63 rfl (lv_at hl 5 rfl) ?_
                refine va_get (D := (dC, dI)) (ci := 0) (v := .int (nI nw)) (C := RX0) (T := TX0) (N := 7) hx hb hts (fun _ h => List.mem_cons_of_mem _ (List.mem_append_right _ h)) hown hK hP 0 rfl rfl 3 (by decide) (hts (.fieldLink RX0 24 "RankFinder$Weighing" "weights" "I") (List.mem_of_getElem? (i := 3) rfl)) (fun _ h9 => h9) rfl dX0_exchange_64 ?_
                refine lv_icmp_gt (tgt := 99) hx hb dX0_exchange_67 (by decide) (fun c3 => ?_) (fun c3 => ?_)
                · exact absurd c3 (nI_nlt (by omega) (by omega))
                · refine lv_aload hx hb dX0_exchange_70 (lv_at hl 2 rfl) ?_
                  refine lv_iload hx hb dX0_exchange_72 (lv_at hl 0 rfl) ?_
                  refine lv_aload_n hx hb dX0_exchange_74 rfl (lv_at hl 5 rfl) ?_
                  refine lv_aload_n hx hb dX0_exchange_75 rfl (lv_at hl 4 rfl) ?_
                  refine lv_iload_n hx hb dX0_exchange_76 rfl (lv_at hl 7 rfl) ?_
                  refine na_lald hx hb hK hP (3 + rr) 2 (gG_get (show rr < 10 by omega) rfl) rfl (show cc < 17 by omega) (by decide) dX0_exchange_77 ?_
                  rw [xcP_r]
                  refine lv_aload hx hb dX0_exchange_78 (lv_at hl 2 rfl) ?_
                  refine lv_iload hx hb dX0_exchange_80 (lv_at hl 0 rfl) ?_
                  refine na_lald hx hb hK hP (3 + i) 2 (gG_get (show i < 10 by omega) rfl) rfl (show j < 17 by omega) (by decide) dX0_exchange_82 ?_
                  rw [xcP_o (Nat.le_refl _)]
                  refine lv_lload hx hb dX0_exchange_83 (lv_at hl 1 rfl) ?_
                  refine lv_aload_n hx hb dX0_exchange_85 rfl (lv_at hl 4 rfl) ?_
                  refine lv_iload hx hb dX0_exchange_86 (lv_at hl 0 rfl) ?_
                  refine na_lald hx hb hK hP (3 + rr) 2 (gG_get (show rr < 10 by omega) rfl) rfl (show j < 17 by omega) (by decide) dX0_exchange_88 ?_
                  rw [xcP_r]
                  have hFc : ∀ q, va_A (wgW h0 qc qh r cA cI cJ me nw u tw iv hd (xcP tw iv M1 rr cc nw i j)) H.size q → A q := va_fall hD hS hA
                  refine va_calll (va_runV (As := [.long (M1 rr cc), .long (M1 i j), .long (M1 i cc), .long (M1 rr j)]) (rest := [.int (nI j), .ref (r i)]) ⟨hx, hb, hml, hown, hts⟩ (c_X0_differenceByUnit l dC dI h0 qc qh r cA cI cJ H.size me nw u tw iv hd (xcP tw iv M1 rr cc nw i j) (M1 rr cc) (M1 i j) (M1 i cc) (M1 rr j)) (cwV 4 hts gX0_exchange_X0_differenceByUnit rfl rfl rfl (by decide +kernel) ⟨Nat.le_of_ble_eq_true rfl, Nat.le_of_ble_eq_true rfl⟩) ⟨fun a U g mk q => by obtain ⟨q0, q1, qP, qK, qD⟩ := q; exact ⟨q0, q1, qP, va_K.moved (u := U) (U := U.calling g mk a) (Vm.Alike.refl U.vm) qK, qD⟩, va_recv hK hP (ci := 0) (q0 := 0) rfl rfl, fun U hU hW => ⟨rfl, by rw [hU], by rw [hU]; exact hP, va_K.moved hW.alike hK, hD.weaken (fun _ _ _ _ => trivial)⟩⟩ rfl rfl hl.1 rfl (lv_room (Nat.le_of_ble_eq_true rfl)) dX0_exchange_89 ⟨(Nat.zero_le _), (Nat.zero_le _)⟩) hS (fun q _ h => hFc q h) hFc (fun r_89 v9 t H1 locs ht hvm hw hB hz1 hk1 hS => ?_)
                  obtain ⟨hP1, hK1, hD1⟩ := hB
                  rw [ht] at hP1
                  clear hP hD hK
                  have hK := va_K.moved hvm.symm hK1
                  have hP := hP1
                  have hD := hD1.weaken (B := A) (fun _ q _ h => hFc q.1 h)
                  clear hP1 hD1 hK1 hFc hk1 hz1 ht hvm
                  generalize H1 = H at hP hS ⊢
                  subst hw
                  refine na_last hx hb hK hP hD hS (3 + i) 2 (gG_get (show i < 10 by omega) rfl) rfl (show j < 17 by omega) (by decide) dX0_exchange_92 (fun H locs hP hD hS => ?_)
                  rw [wgW_set (show i < 10 by omega)] at hP hD
                  have hP : va_P (dC, dI) vwCl (wgW h0 qc qh r cA cI cJ me nw u tw iv hd (mup (xcP tw iv M1 rr cc nw i j) i j (dbF tw iv (M1 rr cc) (M1 i j) (M1 i cc) (M1 rr j)))) H := hP
                  have hD : va_D A (wgW h0 qc qh r cA cI cJ me nw u tw iv hd (mup (xcP tw iv M1 rr cc nw i j) i j (dbF tw iv (M1 rr cc) (M1 i j) (M1 i cc) (M1 rr j)))) := hD
                  rw [xcP_s hne (by omega)] at hP hD
                  refine lv_iinc (v := nI (j + 1)) (lv' := [(8, .int (nI (j + 1))), (6, .long (M1 i cc)), (5, .ref (r i)), (4, .int (nI i)), (3, .ref (r rr)), (0, .ref h0), (1, .int (nI rr)), (2, .int (nI cc))]) hx hb dX0_exchange_93 hl (k := 0) rfl (nI_1 _) (by decide) rfl (fun ls hl => ?_)
                  refine lv_goto (tgt := 61) hx hb dX0_exchange_96 (by decide) ?_
                  exact ih2 (j + 1) H _ ls (by omega) hP hK hD hS (lv_sub hl [0, 1, 2, 3, 4, 5, 6, 7] rfl)
            exact inner (nw + 1) 0 H _ ls (by omega) hP hK hD hS (lv_sub hl [0, 1, 2, 3, 4, 5, 6, 7] rfl)
    exact outer (me + 1) 0 H _ ls (by omega) (by rw [xcP_0]; exact hP) hK (by rw [xcP_0]; exact hD) hS (lv_sub hl [0, 1, 2, 3, 4] rfl)
  refine lv_aload_n hx hb dX0_exchange_0 rfl (lv_at hl 0 rfl) ?_
  refine va_get (D := (dC, dI)) (ci := 0) (v := .ref qc) (C := RX0) (T := TX0) (N := 7) hx hb hts (fun _ h => List.mem_cons_of_mem _ (List.mem_append_right _ h)) hown hK hP 0 rfl rfl 0 (by decide) (hts (.fieldLink RX0 13 "RankFinder$Weighing" "cell" "[[J") (List.mem_of_getElem? (i := 1) rfl)) (fun _ h9 => h9) rfl dX0_exchange_1 ?_
  refine lv_iload_n hx hb dX0_exchange_4 rfl (lv_at hl 1 rfl) ?_
  refine na_aald (y := r rr) hx hb hK hP 1 0 rfl rfl (show rr < 10 by omega) (by decide) (if_pos (show rr < 10 by omega)) dX0_exchange_5 ?_
  refine lv_iload_n hx hb dX0_exchange_6 rfl (lv_at hl 2 rfl) ?_
  refine na_lald hx hb hK hP (3 + rr) 2 (gG_get (show rr < 10 by omega) rfl) rfl (show cc < 17 by omega) (by decide) dX0_exchange_7 ?_
  refine lv_lconst (v := 0) hx hb dX0_exchange_8 (by decide) ?_
  refine W.lcmp hx hb dX0_exchange_9 ?_
  refine lv_if_ge (tgt := 18) hx hb dX0_exchange_10 (by decide) (fun c1 => ?_) (fun c1 => ?_)
  · rw [lg_cmp_ge] at c1
    have e9 : xcS M rr cc nw = M := if_neg (Int64.not_lt.mpr c1)
    exact behind H _ ls (by rw [e9]; exact hP) hK (by rw [e9]; exact hD) hS hl
  · rw [lg_cmp_ge] at c1
    have e9 : xcS M rr cc nw = ngF M rr (nw + 1) := if_pos (Int64.not_le.mp c1)
    refine lv_aload_n hx hb dX0_exchange_13 rfl (lv_at hl 0 rfl) ?_
    refine lv_iload_n hx hb dX0_exchange_14 rfl (lv_at hl 1 rfl) ?_
    have hFc : ∀ q, va_A (wgW h0 qc qh r cA cI cJ me nw u tw iv hd M) H.size q → A q := va_fall hD hS hA
    refine va_callv (va_runV (As := [.int (nI rr)]) (rest := []) ⟨hx, hb, hml, hown, hts⟩ (c_X0_negate l dC dI h0 qc qh r cA cI cJ H.size me nw u tw iv hd M rr (by omega) hn) (cwV 1 hts gX0_exchange_X0_negate rfl rfl rfl (by decide +kernel) ⟨Nat.le_of_ble_eq_true rfl, Nat.le_of_ble_eq_true rfl⟩) ⟨fun a U g mk q => by obtain ⟨q0, q1, qP, qK, qD⟩ := q; exact ⟨q0, q1, qP, va_K.moved (u := U) (U := U.calling g mk a) (Vm.Alike.refl U.vm) qK, qD⟩, va_recv hK hP (ci := 0) (q0 := 0) rfl rfl, fun U hU hW => ⟨rfl, by rw [hU], by rw [hU]; exact hP, va_K.moved hW.alike hK, hD.weaken (fun _ _ _ _ => trivial)⟩⟩ rfl rfl hl.1 rfl (lv_room (Nat.le_of_ble_eq_true rfl)) dX0_exchange_15 ⟨(Nat.zero_le _), (Nat.zero_le _)⟩) hS (fun q _ h => hFc q h) hFc (fun v9 t H1 locs ht hvm hw hB hz1 hk1 hS => ?_)
    obtain ⟨hP1, hK1, hD1⟩ := hB
    rw [ht] at hP1
    clear hP hD hK
    have hK := va_K.moved hvm.symm hK1
    have hP := hP1
    have hD := hD1.weaken (B := A) (fun _ q _ h => hFc q.1 h)
    clear hP1 hD1 hK1 hFc hk1 hz1 ht hvm
    generalize H1 = H at hP hS ⊢
    exact behind H _ ls (by rw [e9]; exact hP) hK (by rw [e9]; exact hD) hS hl
